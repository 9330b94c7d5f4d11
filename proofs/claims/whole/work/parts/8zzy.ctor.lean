/-! The two constructors: the walk -/
/-- what the contents are behind each store -/
def Ctd (d0 d59 : vmD) : Prop := ∃ d1 d2 d3 d4 d5 d6 d7 d8 d9 d10 d11 d12 d13 d14 d15 d16 d17 d18 d19 d20 d21 d22 d23 d24 d25 d26 d27 d28 d29 d30 d31 d32 d33 d34 d35 d36 d37 d38 d39 d40 d41 d42 d43 d44 d45 d46 d47 d48 d49 d50 d51 d52 d53 d54 d55 d56 d57 d58 : vmD, d1 = sF d0 3 5 (0) ∧ d2 = sF d1 3 6 (0) ∧ d3 = rsvF (sB 0) 1 d2 ∧ d4 = rsvF (sB 1) 32 d3 ∧ d5 = rsvF (sB 2) 48 d4 ∧ d6 = rsvF (sB 3) 67 d5 ∧ d7 = rsvF (sB 4) 83 d6 ∧ d8 = rsvF (sB 5) 99 d7 ∧ d9 = sF d8 9 1 (0) ∧ d10 = sF d9 11 1 (0) ∧ d11 = sF d10 13 1 (0) ∧ d12 = fillA d11 18 (-1) 107 ∧ ShpR d12 d13 ∧ d14 = sF d13 19 3 (0) ∧ d15 = sF d14 19 4 (0) ∧ d16 = sF d15 19 5 (0) ∧ d17 = sF d16 19 6 (0) ∧ d18 = sF d17 19 7 (0) ∧ d19 = sF d18 19 8 (0) ∧ d20 = sF d19 19 9 (0) ∧ d21 = sF d20 19 10 (1) ∧ d22 = sF d21 21 0 (0) ∧ d23 = sF d22 21 1 (0) ∧ d24 = sF d23 21 2 (0) ∧ d25 = sF d24 22 1 (0) ∧ d26 = sF d25 20 9 (1) ∧ d27 = sF d26 20 10 (0) ∧ d28 = sF d27 20 11 (0) ∧ d29 = sF d28 20 12 (0) ∧ d30 = sF d29 20 13 (0) ∧ d31 = sF d30 20 14 (0) ∧ d32 = sF d31 20 15 (0) ∧ d33 = sF d32 20 16 (0) ∧ d34 = sF d33 24 5 (0) ∧ d35 = sF d34 24 6 (0) ∧ d36 = sF d35 28 6 (0) ∧ d37 = sF d36 28 7 (0) ∧ d38 = sF d37 28 8 (0) ∧ d39 = sF d38 28 9 (0) ∧ d40 = sF d39 28 10 (0) ∧ d41 = sF d40 28 11 (0) ∧ d42 = sF d41 28 12 (0) ∧ d43 = sF d42 33 7 (0) ∧ d44 = sF d43 33 8 (0) ∧ d45 = sG d44 38 5 (0) ∧ d46 = sF d45 38 6 (0) ∧ d47 = sF d46 38 7 (0) ∧ d48 = sF d47 38 8 (0) ∧ d49 = sF d48 38 9 (0) ∧ d50 = fillA d49 39 (0) 17 ∧ d51 = fillA d50 40 (0) 256 ∧ d52 = fillA d51 41 (0) 256 ∧ d53 = sA d52 39 10 (65535) ∧ d54 = sG d53 38 5 (0) ∧ d55 = sF d54 38 6 (0) ∧ d56 = sF d55 38 7 (0) ∧ d57 = sF d56 38 8 (0) ∧ d58 = sF d57 38 9 (0) ∧ d59 = sF d58 42 75 (65535)
set_option maxRecDepth 100000 in
set_option maxHeartbeats 8000000 in
theorem ctorW {L : Nat} {d0 : vmD} {Q : Option Value → vmW → Prop} (rsvW : RsvOk L) (shpW : ShpOk L) (z0 : Zs 0 d0) (h : ∀ d, Ctd d0 d → vmWp 406 18 [(3, .int 0), (2, .ref 42), (1, .ref 0), (0, .ref 1000)] [] (wK 70 [(42, 81), (42, 80), (42, 74), (42, 71), (42, 70), (42, 69), (42, 67), (42, 65), (42, 54), (42, 53), (42, 52), (42, 44), (42, 43), (42, 38), (42, 37), (42, 27), (42, 26), (42, 25), (42, 24), (42, 23), (42, 17), (42, 15), (42, 14), (42, 12), (42, 11), (42, 10), (42, 0), (0, 7), (38, 1), (38, 0), (38, 4), (38, 3), (38, 2), (0, 6), (20, 8), (33, 2), (33, 1), (33, 0), (33, 6), (33, 5), (33, 4), (33, 3), (20, 7), (28, 1), (28, 0), (28, 5), (28, 4), (28, 3), (28, 2), (20, 6), (24, 1), (24, 0), (24, 4), (24, 3), (24, 2), (20, 3), (20, 2), (20, 1), (20, 0), (20, 5), (22, 0), (20, 4), (0, 5), (19, 2), (19, 1), (19, 0), (15, 2), (15, 1), (15, 0), (0, 4), (13, 0), (0, 3), (11, 0), (0, 2), (9, 0), (0, 1), (3, 4), (3, 3), (3, 2), (3, 1), (3, 0), (0, 0), (1, 0)] 255720 L d) Q) : vmWp 406 0 [(0, .ref 1000)] [] (wK 0 [] 0 L d0) Q := by
  show vmWp 406 0 [(0, .ref 1000)] [] (wK 0 [] 0 L d0) _
  refine ct_new rfl rfl (by decide) rfl rfl rfl rfl z0 ?_
  have z0 := z0.up
  show vmWp 406 3 [(0, .ref 1000)] [.ref 0] (wK 1 [] 8 L d0) _
  refine st_go 1 (pc' := 4) (lo' := [(0, .ref 1000)]) (st' := [.ref 0, .ref 0]) rfl ?_
  refine vmWp.call (k' := 221) (args := [.ref 0]) (rest := [.ref 0]) rfl rfl ?_
  show vmWp 221 0 [(0, .ref 0)] [] (wK 1 [] 8 L d0) _
  refine st_go 3 (pc' := 5) (lo' := [(0, .ref 0)]) (st' := [.ref 0]) rfl ?_
  refine ct_new rfl rfl (by decide) rfl rfl rfl rfl z0 ?_
  have z0 := z0.up
  show vmWp 221 8 [(0, .ref 0)] [.ref 1, .ref 0] (wK 2 [] 9 L d0) _
  refine st_go 1 (pc' := 9) (lo' := [(0, .ref 0)]) (st' := [.ref 1, .ref 1, .ref 0]) rfl ?_
  refine vmWp.call (k' := 127) (args := [.ref 1]) (rest := [.ref 1, .ref 0]) rfl rfl ?_
  show vmWp 127 0 [(0, .ref 1)] [] (wK 2 [] 9 L d0) _
  refine st_go 4 (pc' := 7) (lo' := [(0, .ref 1)]) (st' := [.int 65536, .ref 1]) rfl ?_
  refine ct_arr (len := 65536) rfl rfl rfl (by decide) (by decide) rfl rfl rfl z0 ?_
  have z0 := z0.up
  show vmWp 127 9 [(0, .ref 1)] [.ref 2, .ref 1] (wK 3 [] 65545 L d0) _
  refine ct_putr rfl rfl rfl rfl rfl ?_
  show vmWp 127 12 [(0, .ref 1)] [] (wK 3 [(1, 0)] 65545 L d0) _
  refine vmWp.ret rfl rfl ?_
  show vmWp 221 12 [(0, .ref 0)] [.ref 1, .ref 0] (wK 3 [(1, 0)] 65545 L d0) _
  refine ct_putr rfl rfl rfl rfl rfl ?_
  show vmWp 221 15 [(0, .ref 0)] [] (wK 3 [(0, 0), (1, 0)] 65545 L d0) _
  refine st_go 1 (pc' := 16) (lo' := [(0, .ref 0)]) (st' := [.ref 0]) rfl ?_
  refine ct_new rfl rfl (by decide) rfl rfl rfl rfl z0 ?_
  have z0 := z0.up
  show vmWp 221 19 [(0, .ref 0)] [.ref 3, .ref 0] (wK 4 [(0, 0), (1, 0)] 65552 L d0) _
  refine st_go 1 (pc' := 20) (lo' := [(0, .ref 0)]) (st' := [.ref 3, .ref 3, .ref 0]) rfl ?_
  refine vmWp.call (k' := 133) (args := [.ref 3]) (rest := [.ref 3, .ref 0]) rfl rfl ?_
  show vmWp 133 0 [(0, .ref 3)] [] (wK 4 [(0, 0), (1, 0)] 65552 L d0) _
  refine st_go 4 (pc' := 7) (lo' := [(0, .ref 3)]) (st' := [.int 107, .ref 3]) rfl ?_
  refine ct_arr (len := 107) rfl rfl rfl (by decide) (by decide) rfl rfl rfl z0 ?_
  have z0 := z0.up
  show vmWp 133 9 [(0, .ref 3)] [.ref 4, .ref 3] (wK 5 [(0, 0), (1, 0)] 65659 L d0) _
  refine ct_putr rfl rfl rfl rfl rfl ?_
  show vmWp 133 12 [(0, .ref 3)] [] (wK 5 [(3, 0), (0, 0), (1, 0)] 65659 L d0) _
  refine st_go 2 (pc' := 16) (lo' := [(0, .ref 3)]) (st' := [.int 200, .ref 3]) rfl ?_
  refine ct_arr (len := 200) rfl rfl rfl (by decide) (by decide) rfl rfl rfl z0 ?_
  have z0 := z0.up
  show vmWp 133 18 [(0, .ref 3)] [.ref 5, .ref 3] (wK 6 [(3, 0), (0, 0), (1, 0)] 65859 L d0) _
  refine ct_putr rfl rfl rfl rfl rfl ?_
  show vmWp 133 21 [(0, .ref 3)] [] (wK 6 [(3, 1), (3, 0), (0, 0), (1, 0)] 65859 L d0) _
  refine st_go 2 (pc' := 25) (lo' := [(0, .ref 3)]) (st' := [.int 200, .ref 3]) rfl ?_
  refine ct_arr (len := 200) rfl rfl rfl (by decide) (by decide) rfl rfl rfl z0 ?_
  have z0 := z0.up
  show vmWp 133 27 [(0, .ref 3)] [.ref 6, .ref 3] (wK 7 [(3, 1), (3, 0), (0, 0), (1, 0)] 66059 L d0) _
  refine ct_putr rfl rfl rfl rfl rfl ?_
  show vmWp 133 30 [(0, .ref 3)] [] (wK 7 [(3, 2), (3, 1), (3, 0), (0, 0), (1, 0)] 66059 L d0) _
  refine st_go 2 (pc' := 34) (lo' := [(0, .ref 3)]) (st' := [.int 200, .ref 3]) rfl ?_
  refine ct_arr (len := 200) rfl rfl rfl (by decide) (by decide) rfl rfl rfl z0 ?_
  have z0 := z0.up
  show vmWp 133 36 [(0, .ref 3)] [.ref 7, .ref 3] (wK 8 [(3, 2), (3, 1), (3, 0), (0, 0), (1, 0)] 66259 L d0) _
  refine ct_putr rfl rfl rfl rfl rfl ?_
  show vmWp 133 39 [(0, .ref 3)] [] (wK 8 [(3, 3), (3, 2), (3, 1), (3, 0), (0, 0), (1, 0)] 66259 L d0) _
  refine st_go 2 (pc' := 43) (lo' := [(0, .ref 3)]) (st' := [.int 200, .ref 3]) rfl ?_
  refine ct_arr (len := 200) rfl rfl rfl (by decide) (by decide) rfl rfl rfl z0 ?_
  have z0 := z0.up
  show vmWp 133 45 [(0, .ref 3)] [.ref 8, .ref 3] (wK 9 [(3, 3), (3, 2), (3, 1), (3, 0), (0, 0), (1, 0)] 66459 L d0) _
  refine ct_putr rfl rfl rfl rfl rfl ?_
  show vmWp 133 48 [(0, .ref 3)] [] (wK 9 [(3, 4), (3, 3), (3, 2), (3, 1), (3, 0), (0, 0), (1, 0)] 66459 L d0) _
  refine st_go 2 (pc' := 50) (lo' := [(0, .ref 3)]) (st' := [.int 0, .ref 3]) rfl ?_
  refine ct_putd (d' := sF d0 3 5 (0)) rfl rfl rfl rfl ?_
  obtain ⟨d1, e1⟩ : ∃ x, x = sF d0 3 5 (0) := ⟨_, rfl⟩
  rw [← e1]
  have z1 : Zs 9 d1 := by rw [e1]; exact z0.sF (by decide)
  show vmWp 133 53 [(0, .ref 3)] [] (wK 9 [(3, 4), (3, 3), (3, 2), (3, 1), (3, 0), (0, 0), (1, 0)] 66459 L d1) _
  refine st_go 2 (pc' := 55) (lo' := [(0, .ref 3)]) (st' := [.int 0, .ref 3]) rfl ?_
  refine ct_putd (d' := sF d1 3 6 (0)) rfl rfl rfl rfl ?_
  obtain ⟨d2, e2⟩ : ∃ x, x = sF d1 3 6 (0) := ⟨_, rfl⟩
  rw [← e2]
  have z2 : Zs 9 d2 := by rw [e2]; exact z1.sF (by decide)
  show vmWp 133 58 [(0, .ref 3)] [] (wK 9 [(3, 4), (3, 3), (3, 2), (3, 1), (3, 0), (0, 0), (1, 0)] 66459 L d2) _
  refine st_go 3 (pc' := 62) (lo' := [(0, .ref 3)]) (st' := [.int 1, .ref 2000, .ref 3]) rfl ?_
  refine vmWp.call (k' := 134) (args := [.ref 3, .ref 2000, .int 1]) (rest := []) rfl rfl (rsvW 0 1 26 d2 _ (by decide) (by decide +kernel) (by decide +kernel) ?_)
  obtain ⟨d3, e3⟩ : ∃ x, x = rsvF (sB 0) 1 d2 := ⟨_, rfl⟩
  rw [← e3]
  have z3 : Zs 9 d3 := by rw [e3]; exact Zs.rsv (by decide) _ _ z2
  show vmWp 133 65 [(0, .ref 3)] [.int 26] (wK 9 [(3, 4), (3, 3), (3, 2), (3, 1), (3, 0), (0, 0), (1, 0)] 66459 L d3) _
  refine st_go 4 (pc' := 71) (lo' := [(0, .ref 3)]) (st' := [.int 32, .ref 2001, .ref 3]) rfl ?_
  refine vmWp.call (k' := 134) (args := [.ref 3, .ref 2001, .int 32]) (rest := []) rfl rfl (rsvW 1 32 48 d3 _ (by decide) (by decide +kernel) (by decide +kernel) ?_)
  obtain ⟨d4, e4⟩ : ∃ x, x = rsvF (sB 1) 32 d3 := ⟨_, rfl⟩
  rw [← e4]
  have z4 : Zs 9 d4 := by rw [e4]; exact Zs.rsv (by decide) _ _ z3
  show vmWp 133 74 [(0, .ref 3)] [.int 48] (wK 9 [(3, 4), (3, 3), (3, 2), (3, 1), (3, 0), (0, 0), (1, 0)] 66459 L d4) _
  refine st_go 4 (pc' := 79) (lo' := [(1, .int 48), (0, .ref 3)]) (st' := [.int 48, .ref 2002, .ref 3]) rfl ?_
  refine vmWp.call (k' := 134) (args := [.ref 3, .ref 2002, .int 48]) (rest := []) rfl rfl (rsvW 2 48 67 d4 _ (by decide) (by decide +kernel) (by decide +kernel) ?_)
  obtain ⟨d5, e5⟩ : ∃ x, x = rsvF (sB 2) 48 d4 := ⟨_, rfl⟩
  rw [← e5]
  have z5 : Zs 9 d5 := by rw [e5]; exact Zs.rsv (by decide) _ _ z4
  show vmWp 133 82 [(1, .int 48), (0, .ref 3)] [.int 67] (wK 9 [(3, 4), (3, 3), (3, 2), (3, 1), (3, 0), (0, 0), (1, 0)] 66459 L d5) _
  refine st_go 4 (pc' := 87) (lo' := [(1, .int 67), (0, .ref 3)]) (st' := [.int 67, .ref 2003, .ref 3]) rfl ?_
  refine vmWp.call (k' := 134) (args := [.ref 3, .ref 2003, .int 67]) (rest := []) rfl rfl (rsvW 3 67 83 d5 _ (by decide) (by decide +kernel) (by decide +kernel) ?_)
  obtain ⟨d6, e6⟩ : ∃ x, x = rsvF (sB 3) 67 d5 := ⟨_, rfl⟩
  rw [← e6]
  have z6 : Zs 9 d6 := by rw [e6]; exact Zs.rsv (by decide) _ _ z5
  show vmWp 133 90 [(1, .int 67), (0, .ref 3)] [.int 83] (wK 9 [(3, 4), (3, 3), (3, 2), (3, 1), (3, 0), (0, 0), (1, 0)] 66459 L d6) _
  refine st_go 4 (pc' := 95) (lo' := [(1, .int 83), (0, .ref 3)]) (st' := [.int 83, .ref 2004, .ref 3]) rfl ?_
  refine vmWp.call (k' := 134) (args := [.ref 3, .ref 2004, .int 83]) (rest := []) rfl rfl (rsvW 4 83 99 d6 _ (by decide) (by decide +kernel) (by decide +kernel) ?_)
  obtain ⟨d7, e7⟩ : ∃ x, x = rsvF (sB 4) 83 d6 := ⟨_, rfl⟩
  rw [← e7]
  have z7 : Zs 9 d7 := by rw [e7]; exact Zs.rsv (by decide) _ _ z6
  show vmWp 133 98 [(1, .int 83), (0, .ref 3)] [.int 99] (wK 9 [(3, 4), (3, 3), (3, 2), (3, 1), (3, 0), (0, 0), (1, 0)] 66459 L d7) _
  refine st_go 4 (pc' := 103) (lo' := [(1, .int 99), (0, .ref 3)]) (st' := [.int 99, .ref 2005, .ref 3]) rfl ?_
  refine vmWp.call (k' := 134) (args := [.ref 3, .ref 2005, .int 99]) (rest := []) rfl rfl (rsvW 5 99 107 d7 _ (by decide) (by decide +kernel) (by decide +kernel) ?_)
  obtain ⟨d8, e8⟩ : ∃ x, x = rsvF (sB 5) 99 d7 := ⟨_, rfl⟩
  rw [← e8]
  have z8 : Zs 9 d8 := by rw [e8]; exact Zs.rsv (by decide) _ _ z7
  show vmWp 133 106 [(1, .int 99), (0, .ref 3)] [.int 107] (wK 9 [(3, 4), (3, 3), (3, 2), (3, 1), (3, 0), (0, 0), (1, 0)] 66459 L d8) _
  refine st_go 1 (pc' := 107) (lo' := [(1, .int 99), (0, .ref 3)]) (st' := []) rfl ?_
  refine vmWp.ret rfl rfl ?_
  show vmWp 221 23 [(0, .ref 0)] [.ref 3, .ref 0] (wK 9 [(3, 4), (3, 3), (3, 2), (3, 1), (3, 0), (0, 0), (1, 0)] 66459 L d8) _
  refine ct_putr rfl rfl rfl rfl rfl ?_
  show vmWp 221 26 [(0, .ref 0)] [] (wK 9 [(0, 1), (3, 4), (3, 3), (3, 2), (3, 1), (3, 0), (0, 0), (1, 0)] 66459 L d8) _
  refine st_go 1 (pc' := 27) (lo' := [(0, .ref 0)]) (st' := [.ref 0]) rfl ?_
  refine ct_new rfl rfl (by decide) rfl rfl rfl rfl z8 ?_
  have z8 := z8.up
  show vmWp 221 30 [(0, .ref 0)] [.ref 9, .ref 0] (wK 10 [(0, 1), (3, 4), (3, 3), (3, 2), (3, 1), (3, 0), (0, 0), (1, 0)] 66461 L d8) _
  refine st_go 2 (pc' := 34) (lo' := [(0, .ref 0)]) (st' := [.int 6000, .ref 9, .ref 9, .ref 0]) rfl ?_
  refine vmWp.call (k' := 188) (args := [.ref 9, .int 6000]) (rest := [.ref 9, .ref 0]) rfl rfl ?_
  show vmWp 188 0 [(0, .ref 9), (1, .int 6000)] [] (wK 10 [(0, 1), (3, 4), (3, 3), (3, 2), (3, 1), (3, 0), (0, 0), (1, 0)] 66461 L d8) _
  refine st_go 4 (pc' := 6) (lo' := [(0, .ref 9), (1, .int 6000)]) (st' := [.int 0, .ref 9]) rfl ?_
  refine ct_putd (d' := sF d8 9 1 (0)) rfl rfl rfl rfl ?_
  obtain ⟨d9, e9⟩ : ∃ x, x = sF d8 9 1 (0) := ⟨_, rfl⟩
  rw [← e9]
  have z9 : Zs 10 d9 := by rw [e9]; exact z8.sF (by decide)
  show vmWp 188 9 [(0, .ref 9), (1, .int 6000)] [] (wK 10 [(0, 1), (3, 4), (3, 3), (3, 2), (3, 1), (3, 0), (0, 0), (1, 0)] 66461 L d9) _
  refine st_go 3 (pc' := 12) (lo' := [(0, .ref 9), (1, .int 6000)]) (st' := [.int 0, .int 6000, .ref 9]) rfl ?_
  refine st_go 1 (pc' := 15) (lo' := [(0, .ref 9), (1, .int 6000)]) (st' := .int (if (6000 : Int32) < (0 : Int32) then 0 else 6000) :: [.ref 9]) rfl ?_
  rw [if_neg (show ¬ (6000 : Int32) < (0 : Int32) by decide)]
  refine ct_arr (len := 6000) rfl rfl rfl (by decide) (by decide) rfl rfl rfl z9 ?_
  have z9 := z9.up
  show vmWp 188 17 [(0, .ref 9), (1, .int 6000)] [.ref 10, .ref 9] (wK 11 [(0, 1), (3, 4), (3, 3), (3, 2), (3, 1), (3, 0), (0, 0), (1, 0)] 72461 L d9) _
  refine ct_putr rfl rfl rfl rfl rfl ?_
  show vmWp 188 20 [(0, .ref 9), (1, .int 6000)] [] (wK 11 [(9, 0), (0, 1), (3, 4), (3, 3), (3, 2), (3, 1), (3, 0), (0, 0), (1, 0)] 72461 L d9) _
  refine vmWp.ret rfl rfl ?_
  show vmWp 221 37 [(0, .ref 0)] [.ref 9, .ref 0] (wK 11 [(9, 0), (0, 1), (3, 4), (3, 3), (3, 2), (3, 1), (3, 0), (0, 0), (1, 0)] 72461 L d9) _
  refine ct_putr rfl rfl rfl rfl rfl ?_
  show vmWp 221 40 [(0, .ref 0)] [] (wK 11 [(0, 2), (9, 0), (0, 1), (3, 4), (3, 3), (3, 2), (3, 1), (3, 0), (0, 0), (1, 0)] 72461 L d9) _
  refine st_go 1 (pc' := 41) (lo' := [(0, .ref 0)]) (st' := [.ref 0]) rfl ?_
  refine ct_new rfl rfl (by decide) rfl rfl rfl rfl z9 ?_
  have z9 := z9.up
  show vmWp 221 44 [(0, .ref 0)] [.ref 11, .ref 0] (wK 12 [(0, 2), (9, 0), (0, 1), (3, 4), (3, 3), (3, 2), (3, 1), (3, 0), (0, 0), (1, 0)] 72463 L d9) _
  refine st_go 2 (pc' := 48) (lo' := [(0, .ref 0)]) (st' := [.int 6001, .ref 11, .ref 11, .ref 0]) rfl ?_
  refine vmWp.call (k' := 188) (args := [.ref 11, .int 6001]) (rest := [.ref 11, .ref 0]) rfl rfl ?_
  show vmWp 188 0 [(0, .ref 11), (1, .int 6001)] [] (wK 12 [(0, 2), (9, 0), (0, 1), (3, 4), (3, 3), (3, 2), (3, 1), (3, 0), (0, 0), (1, 0)] 72463 L d9) _
  refine st_go 4 (pc' := 6) (lo' := [(0, .ref 11), (1, .int 6001)]) (st' := [.int 0, .ref 11]) rfl ?_
  refine ct_putd (d' := sF d9 11 1 (0)) rfl rfl rfl rfl ?_
  obtain ⟨d10, e10⟩ : ∃ x, x = sF d9 11 1 (0) := ⟨_, rfl⟩
  rw [← e10]
  have z10 : Zs 12 d10 := by rw [e10]; exact z9.sF (by decide)
  show vmWp 188 9 [(0, .ref 11), (1, .int 6001)] [] (wK 12 [(0, 2), (9, 0), (0, 1), (3, 4), (3, 3), (3, 2), (3, 1), (3, 0), (0, 0), (1, 0)] 72463 L d10) _
  refine st_go 3 (pc' := 12) (lo' := [(0, .ref 11), (1, .int 6001)]) (st' := [.int 0, .int 6001, .ref 11]) rfl ?_
  refine st_go 1 (pc' := 15) (lo' := [(0, .ref 11), (1, .int 6001)]) (st' := .int (if (6001 : Int32) < (0 : Int32) then 0 else 6001) :: [.ref 11]) rfl ?_
  rw [if_neg (show ¬ (6001 : Int32) < (0 : Int32) by decide)]
  refine ct_arr (len := 6001) rfl rfl rfl (by decide) (by decide) rfl rfl rfl z10 ?_
  have z10 := z10.up
  show vmWp 188 17 [(0, .ref 11), (1, .int 6001)] [.ref 12, .ref 11] (wK 13 [(0, 2), (9, 0), (0, 1), (3, 4), (3, 3), (3, 2), (3, 1), (3, 0), (0, 0), (1, 0)] 78464 L d10) _
  refine ct_putr rfl rfl rfl rfl rfl ?_
  show vmWp 188 20 [(0, .ref 11), (1, .int 6001)] [] (wK 13 [(11, 0), (0, 2), (9, 0), (0, 1), (3, 4), (3, 3), (3, 2), (3, 1), (3, 0), (0, 0), (1, 0)] 78464 L d10) _
  refine vmWp.ret rfl rfl ?_
  show vmWp 221 51 [(0, .ref 0)] [.ref 11, .ref 0] (wK 13 [(11, 0), (0, 2), (9, 0), (0, 1), (3, 4), (3, 3), (3, 2), (3, 1), (3, 0), (0, 0), (1, 0)] 78464 L d10) _
  refine ct_putr rfl rfl rfl rfl rfl ?_
  show vmWp 221 54 [(0, .ref 0)] [] (wK 13 [(0, 3), (11, 0), (0, 2), (9, 0), (0, 1), (3, 4), (3, 3), (3, 2), (3, 1), (3, 0), (0, 0), (1, 0)] 78464 L d10) _
  refine st_go 1 (pc' := 55) (lo' := [(0, .ref 0)]) (st' := [.ref 0]) rfl ?_
  refine ct_new rfl rfl (by decide) rfl rfl rfl rfl z10 ?_
  have z10 := z10.up
  show vmWp 221 58 [(0, .ref 0)] [.ref 13, .ref 0] (wK 14 [(0, 3), (11, 0), (0, 2), (9, 0), (0, 1), (3, 4), (3, 3), (3, 2), (3, 1), (3, 0), (0, 0), (1, 0)] 78466 L d10) _
  refine st_go 2 (pc' := 61) (lo' := [(0, .ref 0)]) (st' := [.int 32, .ref 13, .ref 13, .ref 0]) rfl ?_
  refine vmWp.call (k' := 188) (args := [.ref 13, .int 32]) (rest := [.ref 13, .ref 0]) rfl rfl ?_
  show vmWp 188 0 [(0, .ref 13), (1, .int 32)] [] (wK 14 [(0, 3), (11, 0), (0, 2), (9, 0), (0, 1), (3, 4), (3, 3), (3, 2), (3, 1), (3, 0), (0, 0), (1, 0)] 78466 L d10) _
  refine st_go 4 (pc' := 6) (lo' := [(0, .ref 13), (1, .int 32)]) (st' := [.int 0, .ref 13]) rfl ?_
  refine ct_putd (d' := sF d10 13 1 (0)) rfl rfl rfl rfl ?_
  obtain ⟨d11, e11⟩ : ∃ x, x = sF d10 13 1 (0) := ⟨_, rfl⟩
  rw [← e11]
  have z11 : Zs 14 d11 := by rw [e11]; exact z10.sF (by decide)
  show vmWp 188 9 [(0, .ref 13), (1, .int 32)] [] (wK 14 [(0, 3), (11, 0), (0, 2), (9, 0), (0, 1), (3, 4), (3, 3), (3, 2), (3, 1), (3, 0), (0, 0), (1, 0)] 78466 L d11) _
  refine st_go 3 (pc' := 12) (lo' := [(0, .ref 13), (1, .int 32)]) (st' := [.int 0, .int 32, .ref 13]) rfl ?_
  refine st_go 1 (pc' := 15) (lo' := [(0, .ref 13), (1, .int 32)]) (st' := .int (if (32 : Int32) < (0 : Int32) then 0 else 32) :: [.ref 13]) rfl ?_
  rw [if_neg (show ¬ (32 : Int32) < (0 : Int32) by decide)]
  refine ct_arr (len := 32) rfl rfl rfl (by decide) (by decide) rfl rfl rfl z11 ?_
  have z11 := z11.up
  show vmWp 188 17 [(0, .ref 13), (1, .int 32)] [.ref 14, .ref 13] (wK 15 [(0, 3), (11, 0), (0, 2), (9, 0), (0, 1), (3, 4), (3, 3), (3, 2), (3, 1), (3, 0), (0, 0), (1, 0)] 78498 L d11) _
  refine ct_putr rfl rfl rfl rfl rfl ?_
  show vmWp 188 20 [(0, .ref 13), (1, .int 32)] [] (wK 15 [(13, 0), (0, 3), (11, 0), (0, 2), (9, 0), (0, 1), (3, 4), (3, 3), (3, 2), (3, 1), (3, 0), (0, 0), (1, 0)] 78498 L d11) _
  refine vmWp.ret rfl rfl ?_
  show vmWp 221 64 [(0, .ref 0)] [.ref 13, .ref 0] (wK 15 [(13, 0), (0, 3), (11, 0), (0, 2), (9, 0), (0, 1), (3, 4), (3, 3), (3, 2), (3, 1), (3, 0), (0, 0), (1, 0)] 78498 L d11) _
  refine ct_putr rfl rfl rfl rfl rfl ?_
  show vmWp 221 67 [(0, .ref 0)] [] (wK 15 [(0, 4), (13, 0), (0, 3), (11, 0), (0, 2), (9, 0), (0, 1), (3, 4), (3, 3), (3, 2), (3, 1), (3, 0), (0, 0), (1, 0)] 78498 L d11) _
  refine ct_new rfl rfl (by decide) rfl rfl rfl rfl z11 ?_
  have z11 := z11.up
  show vmWp 221 70 [(0, .ref 0)] [.ref 15] (wK 16 [(0, 4), (13, 0), (0, 3), (11, 0), (0, 2), (9, 0), (0, 1), (3, 4), (3, 3), (3, 2), (3, 1), (3, 0), (0, 0), (1, 0)] 78501 L d11) _
  refine st_go 1 (pc' := 71) (lo' := [(0, .ref 0)]) (st' := [.ref 15, .ref 15]) rfl ?_
  refine vmWp.call (k' := 160) (args := [.ref 15]) (rest := [.ref 15]) rfl rfl ?_
  show vmWp 160 0 [(0, .ref 15)] [] (wK 16 [(0, 4), (13, 0), (0, 3), (11, 0), (0, 2), (9, 0), (0, 1), (3, 4), (3, 3), (3, 2), (3, 1), (3, 0), (0, 0), (1, 0)] 78501 L d11) _
  refine st_go 4 (pc' := 8) (lo' := [(0, .ref 15)]) (st' := [.int 1792, .ref 15]) rfl ?_
  refine ct_arr (len := 1792) rfl rfl rfl (by decide) (by decide) rfl rfl rfl z11 ?_
  have z11 := z11.up
  show vmWp 160 10 [(0, .ref 15)] [.ref 16, .ref 15] (wK 17 [(0, 4), (13, 0), (0, 3), (11, 0), (0, 2), (9, 0), (0, 1), (3, 4), (3, 3), (3, 2), (3, 1), (3, 0), (0, 0), (1, 0)] 80293 L d11) _
  refine ct_putr rfl rfl rfl rfl rfl ?_
  show vmWp 160 13 [(0, .ref 15)] [] (wK 17 [(15, 0), (0, 4), (13, 0), (0, 3), (11, 0), (0, 2), (9, 0), (0, 1), (3, 4), (3, 3), (3, 2), (3, 1), (3, 0), (0, 0), (1, 0)] 80293 L d11) _
  refine st_go 2 (pc' := 17) (lo' := [(0, .ref 15)]) (st' := [.int 1792, .ref 15]) rfl ?_
  refine ct_arr (len := 1792) rfl rfl rfl (by decide) (by decide) rfl rfl rfl z11 ?_
  have z11 := z11.up
  show vmWp 160 19 [(0, .ref 15)] [.ref 17, .ref 15] (wK 18 [(15, 0), (0, 4), (13, 0), (0, 3), (11, 0), (0, 2), (9, 0), (0, 1), (3, 4), (3, 3), (3, 2), (3, 1), (3, 0), (0, 0), (1, 0)] 82085 L d11) _
  refine ct_putr rfl rfl rfl rfl rfl ?_
  show vmWp 160 22 [(0, .ref 15)] [] (wK 18 [(15, 1), (15, 0), (0, 4), (13, 0), (0, 3), (11, 0), (0, 2), (9, 0), (0, 1), (3, 4), (3, 3), (3, 2), (3, 1), (3, 0), (0, 0), (1, 0)] 82085 L d11) _
  refine st_go 2 (pc' := 25) (lo' := [(0, .ref 15)]) (st' := [.int 107, .ref 15]) rfl ?_
  refine ct_arr (len := 107) rfl rfl rfl (by decide) (by decide) rfl rfl rfl z11 ?_
  have z11 := z11.up
  show vmWp 160 27 [(0, .ref 15)] [.ref 18, .ref 15] (wK 19 [(15, 1), (15, 0), (0, 4), (13, 0), (0, 3), (11, 0), (0, 2), (9, 0), (0, 1), (3, 4), (3, 3), (3, 2), (3, 1), (3, 0), (0, 0), (1, 0)] 82192 L d11) _
  refine ct_putr rfl rfl rfl rfl rfl ?_
  show vmWp 160 30 [(0, .ref 15)] [] (wK 19 [(15, 2), (15, 1), (15, 0), (0, 4), (13, 0), (0, 3), (11, 0), (0, 2), (9, 0), (0, 1), (3, 4), (3, 3), (3, 2), (3, 1), (3, 0), (0, 0), (1, 0)] 82192 L d11) _
  refine st_go 3 (pc' := 35) (lo' := [(0, .ref 15)]) (st' := [.int (-1), .ref 18]) rfl ?_
  refine vmWp.call (k' := 403) (args := [.ref 18, .int (-1)]) (rest := []) rfl rfl (fillW (len := 107) (fun _ => rfl) rfl (by decide) ?_)
  obtain ⟨d12, e12⟩ : ∃ x, x = fillA d11 18 (-1) 107 := ⟨_, rfl⟩
  rw [← e12]
  have z12 : Zs 19 d12 := by rw [e12]; exact z11.fill (by decide) _
  show vmWp 160 38 [(0, .ref 15)] [] (wK 19 [(15, 2), (15, 1), (15, 0), (0, 4), (13, 0), (0, 3), (11, 0), (0, 2), (9, 0), (0, 1), (3, 4), (3, 3), (3, 2), (3, 1), (3, 0), (0, 0), (1, 0)] 82192 L d12) _
  refine st_go 2 (pc' := 42) (lo' := [(1, .int 1791), (0, .ref 15)]) (st' := []) rfl ?_
  refine shpW d12 _ (fun w hw => by rw [e12, fillA_at, if_pos hw]) z12 (fun d13 e13 z13 => ?_)
  refine vmWp.ret rfl rfl ?_
  show vmWp 221 74 [(0, .ref 0)] [.ref 15] (wK 19 [(15, 2), (15, 1), (15, 0), (0, 4), (13, 0), (0, 3), (11, 0), (0, 2), (9, 0), (0, 1), (3, 4), (3, 3), (3, 2), (3, 1), (3, 0), (0, 0), (1, 0)] 82192 L d13) _
  refine st_go 2 (pc' := 76) (lo' := [(1, .ref 15), (0, .ref 0)]) (st' := [.ref 0]) rfl ?_
  refine ct_new rfl rfl (by decide) rfl rfl rfl rfl z13 ?_
  have z13 := z13.up
  show vmWp 221 79 [(1, .ref 15), (0, .ref 0)] [.ref 19, .ref 0] (wK 20 [(15, 2), (15, 1), (15, 0), (0, 4), (13, 0), (0, 3), (11, 0), (0, 2), (9, 0), (0, 1), (3, 4), (3, 3), (3, 2), (3, 1), (3, 0), (0, 0), (1, 0)] 82203 L d13) _
  refine st_go 6 (pc' := 89) (lo' := [(1, .ref 15), (0, .ref 0)]) (st' := [.ref 3, .ref 15, .ref 1, .ref 19, .ref 19, .ref 0]) rfl ?_
  refine vmWp.call (k' := 57) (args := [.ref 19, .ref 1, .ref 15, .ref 3]) (rest := [.ref 19, .ref 0]) rfl rfl ?_
  show vmWp 57 0 [(0, .ref 19), (1, .ref 1), (2, .ref 15), (3, .ref 3)] [] (wK 20 [(15, 2), (15, 1), (15, 0), (0, 4), (13, 0), (0, 3), (11, 0), (0, 2), (9, 0), (0, 1), (3, 4), (3, 3), (3, 2), (3, 1), (3, 0), (0, 0), (1, 0)] 82203 L d13) _
  refine st_go 4 (pc' := 6) (lo' := [(0, .ref 19), (1, .ref 1), (2, .ref 15), (3, .ref 3)]) (st' := [.int 0, .ref 19]) rfl ?_
  refine ct_putd (d' := sF d13 19 3 (0)) rfl rfl rfl (put_b rfl (Or.inl rfl)) ?_
  obtain ⟨d14, e14⟩ : ∃ x, x = sF d13 19 3 (0) := ⟨_, rfl⟩
  rw [← e14]
  have z14 : Zs 20 d14 := by rw [e14]; exact z13.sF (by decide)
  show vmWp 57 9 [(0, .ref 19), (1, .ref 1), (2, .ref 15), (3, .ref 3)] [] (wK 20 [(15, 2), (15, 1), (15, 0), (0, 4), (13, 0), (0, 3), (11, 0), (0, 2), (9, 0), (0, 1), (3, 4), (3, 3), (3, 2), (3, 1), (3, 0), (0, 0), (1, 0)] 82203 L d14) _
  refine st_go 2 (pc' := 11) (lo' := [(0, .ref 19), (1, .ref 1), (2, .ref 15), (3, .ref 3)]) (st' := [.int 0, .ref 19]) rfl ?_
  refine ct_putd (d' := sF d14 19 4 (0)) rfl rfl rfl rfl ?_
  obtain ⟨d15, e15⟩ : ∃ x, x = sF d14 19 4 (0) := ⟨_, rfl⟩
  rw [← e15]
  have z15 : Zs 20 d15 := by rw [e15]; exact z14.sF (by decide)
  show vmWp 57 14 [(0, .ref 19), (1, .ref 1), (2, .ref 15), (3, .ref 3)] [] (wK 20 [(15, 2), (15, 1), (15, 0), (0, 4), (13, 0), (0, 3), (11, 0), (0, 2), (9, 0), (0, 1), (3, 4), (3, 3), (3, 2), (3, 1), (3, 0), (0, 0), (1, 0)] 82203 L d15) _
  refine st_go 2 (pc' := 16) (lo' := [(0, .ref 19), (1, .ref 1), (2, .ref 15), (3, .ref 3)]) (st' := [.int 0, .ref 19]) rfl ?_
  refine ct_putd (d' := sF d15 19 5 (0)) rfl rfl rfl rfl ?_
  obtain ⟨d16, e16⟩ : ∃ x, x = sF d15 19 5 (0) := ⟨_, rfl⟩
  rw [← e16]
  have z16 : Zs 20 d16 := by rw [e16]; exact z15.sF (by decide)
  show vmWp 57 19 [(0, .ref 19), (1, .ref 1), (2, .ref 15), (3, .ref 3)] [] (wK 20 [(15, 2), (15, 1), (15, 0), (0, 4), (13, 0), (0, 3), (11, 0), (0, 2), (9, 0), (0, 1), (3, 4), (3, 3), (3, 2), (3, 1), (3, 0), (0, 0), (1, 0)] 82203 L d16) _
  refine st_go 2 (pc' := 21) (lo' := [(0, .ref 19), (1, .ref 1), (2, .ref 15), (3, .ref 3)]) (st' := [.int 0, .ref 19]) rfl ?_
  refine ct_putd (d' := sF d16 19 6 (0)) rfl rfl rfl rfl ?_
  obtain ⟨d17, e17⟩ : ∃ x, x = sF d16 19 6 (0) := ⟨_, rfl⟩
  rw [← e17]
  have z17 : Zs 20 d17 := by rw [e17]; exact z16.sF (by decide)
  show vmWp 57 24 [(0, .ref 19), (1, .ref 1), (2, .ref 15), (3, .ref 3)] [] (wK 20 [(15, 2), (15, 1), (15, 0), (0, 4), (13, 0), (0, 3), (11, 0), (0, 2), (9, 0), (0, 1), (3, 4), (3, 3), (3, 2), (3, 1), (3, 0), (0, 0), (1, 0)] 82203 L d17) _
  refine st_go 2 (pc' := 26) (lo' := [(0, .ref 19), (1, .ref 1), (2, .ref 15), (3, .ref 3)]) (st' := [.int 0, .ref 19]) rfl ?_
  refine ct_putd (d' := sF d17 19 7 (0)) rfl rfl rfl rfl ?_
  obtain ⟨d18, e18⟩ : ∃ x, x = sF d17 19 7 (0) := ⟨_, rfl⟩
  rw [← e18]
  have z18 : Zs 20 d18 := by rw [e18]; exact z17.sF (by decide)
  show vmWp 57 29 [(0, .ref 19), (1, .ref 1), (2, .ref 15), (3, .ref 3)] [] (wK 20 [(15, 2), (15, 1), (15, 0), (0, 4), (13, 0), (0, 3), (11, 0), (0, 2), (9, 0), (0, 1), (3, 4), (3, 3), (3, 2), (3, 1), (3, 0), (0, 0), (1, 0)] 82203 L d18) _
  refine st_go 2 (pc' := 31) (lo' := [(0, .ref 19), (1, .ref 1), (2, .ref 15), (3, .ref 3)]) (st' := [.int 0, .ref 19]) rfl ?_
  refine ct_putd (d' := sF d18 19 8 (0)) rfl rfl rfl rfl ?_
  obtain ⟨d19, e19⟩ : ∃ x, x = sF d18 19 8 (0) := ⟨_, rfl⟩
  rw [← e19]
  have z19 : Zs 20 d19 := by rw [e19]; exact z18.sF (by decide)
  show vmWp 57 34 [(0, .ref 19), (1, .ref 1), (2, .ref 15), (3, .ref 3)] [] (wK 20 [(15, 2), (15, 1), (15, 0), (0, 4), (13, 0), (0, 3), (11, 0), (0, 2), (9, 0), (0, 1), (3, 4), (3, 3), (3, 2), (3, 1), (3, 0), (0, 0), (1, 0)] 82203 L d19) _
  refine st_go 2 (pc' := 36) (lo' := [(0, .ref 19), (1, .ref 1), (2, .ref 15), (3, .ref 3)]) (st' := [.int 0, .ref 19]) rfl ?_
  refine ct_putd (d' := sF d19 19 9 (0)) rfl rfl rfl rfl ?_
  obtain ⟨d20, e20⟩ : ∃ x, x = sF d19 19 9 (0) := ⟨_, rfl⟩
  rw [← e20]
  have z20 : Zs 20 d20 := by rw [e20]; exact z19.sF (by decide)
  show vmWp 57 39 [(0, .ref 19), (1, .ref 1), (2, .ref 15), (3, .ref 3)] [] (wK 20 [(15, 2), (15, 1), (15, 0), (0, 4), (13, 0), (0, 3), (11, 0), (0, 2), (9, 0), (0, 1), (3, 4), (3, 3), (3, 2), (3, 1), (3, 0), (0, 0), (1, 0)] 82203 L d20) _
  refine st_go 2 (pc' := 41) (lo' := [(0, .ref 19), (1, .ref 1), (2, .ref 15), (3, .ref 3)]) (st' := [.int 1, .ref 19]) rfl ?_
  refine ct_putd (d' := sF d20 19 10 (1)) rfl rfl rfl rfl ?_
  obtain ⟨d21, e21⟩ : ∃ x, x = sF d20 19 10 (1) := ⟨_, rfl⟩
  rw [← e21]
  have z21 : Zs 20 d21 := by rw [e21]; exact z20.sF (by decide)
  show vmWp 57 44 [(0, .ref 19), (1, .ref 1), (2, .ref 15), (3, .ref 3)] [] (wK 20 [(15, 2), (15, 1), (15, 0), (0, 4), (13, 0), (0, 3), (11, 0), (0, 2), (9, 0), (0, 1), (3, 4), (3, 3), (3, 2), (3, 1), (3, 0), (0, 0), (1, 0)] 82203 L d21) _
  refine st_go 2 (pc' := 46) (lo' := [(0, .ref 19), (1, .ref 1), (2, .ref 15), (3, .ref 3)]) (st' := [.ref 1, .ref 19]) rfl ?_
  refine ct_putr rfl rfl rfl rfl rfl ?_
  show vmWp 57 49 [(0, .ref 19), (1, .ref 1), (2, .ref 15), (3, .ref 3)] [] (wK 20 [(19, 0), (15, 2), (15, 1), (15, 0), (0, 4), (13, 0), (0, 3), (11, 0), (0, 2), (9, 0), (0, 1), (3, 4), (3, 3), (3, 2), (3, 1), (3, 0), (0, 0), (1, 0)] 82203 L d21) _
  refine st_go 2 (pc' := 51) (lo' := [(0, .ref 19), (1, .ref 1), (2, .ref 15), (3, .ref 3)]) (st' := [.ref 15, .ref 19]) rfl ?_
  refine ct_putr rfl rfl rfl rfl rfl ?_
  show vmWp 57 54 [(0, .ref 19), (1, .ref 1), (2, .ref 15), (3, .ref 3)] [] (wK 20 [(19, 1), (19, 0), (15, 2), (15, 1), (15, 0), (0, 4), (13, 0), (0, 3), (11, 0), (0, 2), (9, 0), (0, 1), (3, 4), (3, 3), (3, 2), (3, 1), (3, 0), (0, 0), (1, 0)] 82203 L d21) _
  refine st_go 2 (pc' := 56) (lo' := [(0, .ref 19), (1, .ref 1), (2, .ref 15), (3, .ref 3)]) (st' := [.ref 3, .ref 19]) rfl ?_
  refine ct_putr rfl rfl rfl rfl rfl ?_
  show vmWp 57 59 [(0, .ref 19), (1, .ref 1), (2, .ref 15), (3, .ref 3)] [] (wK 20 [(19, 2), (19, 1), (19, 0), (15, 2), (15, 1), (15, 0), (0, 4), (13, 0), (0, 3), (11, 0), (0, 2), (9, 0), (0, 1), (3, 4), (3, 3), (3, 2), (3, 1), (3, 0), (0, 0), (1, 0)] 82203 L d21) _
  refine vmWp.ret rfl rfl ?_
  show vmWp 221 92 [(1, .ref 15), (0, .ref 0)] [.ref 19, .ref 0] (wK 20 [(19, 2), (19, 1), (19, 0), (15, 2), (15, 1), (15, 0), (0, 4), (13, 0), (0, 3), (11, 0), (0, 2), (9, 0), (0, 1), (3, 4), (3, 3), (3, 2), (3, 1), (3, 0), (0, 0), (1, 0)] 82203 L d21) _
  refine ct_putr rfl rfl rfl rfl rfl ?_
  show vmWp 221 95 [(1, .ref 15), (0, .ref 0)] [] (wK 20 [(0, 5), (19, 2), (19, 1), (19, 0), (15, 2), (15, 1), (15, 0), (0, 4), (13, 0), (0, 3), (11, 0), (0, 2), (9, 0), (0, 1), (3, 4), (3, 3), (3, 2), (3, 1), (3, 0), (0, 0), (1, 0)] 82203 L d21) _
  refine st_go 1 (pc' := 96) (lo' := [(1, .ref 15), (0, .ref 0)]) (st' := [.ref 0]) rfl ?_
  refine ct_new rfl rfl (by decide) rfl rfl rfl rfl z21 ?_
  have z21 := z21.up
  show vmWp 221 99 [(1, .ref 15), (0, .ref 0)] [.ref 20, .ref 0] (wK 21 [(0, 5), (19, 2), (19, 1), (19, 0), (15, 2), (15, 1), (15, 0), (0, 4), (13, 0), (0, 3), (11, 0), (0, 2), (9, 0), (0, 1), (3, 4), (3, 3), (3, 2), (3, 1), (3, 0), (0, 0), (1, 0)] 82220 L d21) _
  refine st_go 8 (pc' := 113) (lo' := [(1, .ref 15), (0, .ref 0)]) (st' := [.ref 15, .ref 3, .ref 1, .ref 9, .ref 20, .ref 20, .ref 0]) rfl ?_
  refine vmWp.call (k' := 28) (args := [.ref 20, .ref 9, .ref 1, .ref 3, .ref 15]) (rest := [.ref 20, .ref 0]) rfl rfl ?_
  show vmWp 28 0 [(0, .ref 20), (1, .ref 9), (2, .ref 1), (3, .ref 3), (4, .ref 15)] [] (wK 21 [(0, 5), (19, 2), (19, 1), (19, 0), (15, 2), (15, 1), (15, 0), (0, 4), (13, 0), (0, 3), (11, 0), (0, 2), (9, 0), (0, 1), (3, 4), (3, 3), (3, 2), (3, 1), (3, 0), (0, 0), (1, 0)] 82220 L d21) _
  refine st_go 3 (pc' := 5) (lo' := [(0, .ref 20), (1, .ref 9), (2, .ref 1), (3, .ref 3), (4, .ref 15)]) (st' := [.ref 20]) rfl ?_
  refine ct_new rfl rfl (by decide) rfl rfl rfl rfl z21 ?_
  have z21 := z21.up
  show vmWp 28 8 [(0, .ref 20), (1, .ref 9), (2, .ref 1), (3, .ref 3), (4, .ref 15)] [.ref 21, .ref 20] (wK 22 [(0, 5), (19, 2), (19, 1), (19, 0), (15, 2), (15, 1), (15, 0), (0, 4), (13, 0), (0, 3), (11, 0), (0, 2), (9, 0), (0, 1), (3, 4), (3, 3), (3, 2), (3, 1), (3, 0), (0, 0), (1, 0)] 82223 L d21) _
  refine st_go 1 (pc' := 9) (lo' := [(0, .ref 20), (1, .ref 9), (2, .ref 1), (3, .ref 3), (4, .ref 15)]) (st' := [.ref 21, .ref 21, .ref 20]) rfl ?_
  refine vmWp.call (k' := 21) (args := [.ref 21]) (rest := [.ref 21, .ref 20]) rfl rfl ?_
  show vmWp 21 0 [(0, .ref 21)] [] (wK 22 [(0, 5), (19, 2), (19, 1), (19, 0), (15, 2), (15, 1), (15, 0), (0, 4), (13, 0), (0, 3), (11, 0), (0, 2), (9, 0), (0, 1), (3, 4), (3, 3), (3, 2), (3, 1), (3, 0), (0, 0), (1, 0)] 82223 L d21) _
  refine st_go 4 (pc' := 6) (lo' := [(0, .ref 21)]) (st' := [.int 0, .ref 21]) rfl ?_
  refine ct_putd (d' := sF d21 21 0 (0)) rfl rfl rfl rfl ?_
  obtain ⟨d22, e22⟩ : ∃ x, x = sF d21 21 0 (0) := ⟨_, rfl⟩
  rw [← e22]
  have z22 : Zs 22 d22 := by rw [e22]; exact z21.sF (by decide)
  show vmWp 21 9 [(0, .ref 21)] [] (wK 22 [(0, 5), (19, 2), (19, 1), (19, 0), (15, 2), (15, 1), (15, 0), (0, 4), (13, 0), (0, 3), (11, 0), (0, 2), (9, 0), (0, 1), (3, 4), (3, 3), (3, 2), (3, 1), (3, 0), (0, 0), (1, 0)] 82223 L d22) _
  refine st_go 2 (pc' := 11) (lo' := [(0, .ref 21)]) (st' := [.int 0, .ref 21]) rfl ?_
  refine ct_putd (d' := sF d22 21 1 (0)) rfl rfl rfl rfl ?_
  obtain ⟨d23, e23⟩ : ∃ x, x = sF d22 21 1 (0) := ⟨_, rfl⟩
  rw [← e23]
  have z23 : Zs 22 d23 := by rw [e23]; exact z22.sF (by decide)
  show vmWp 21 14 [(0, .ref 21)] [] (wK 22 [(0, 5), (19, 2), (19, 1), (19, 0), (15, 2), (15, 1), (15, 0), (0, 4), (13, 0), (0, 3), (11, 0), (0, 2), (9, 0), (0, 1), (3, 4), (3, 3), (3, 2), (3, 1), (3, 0), (0, 0), (1, 0)] 82223 L d23) _
  refine st_go 2 (pc' := 16) (lo' := [(0, .ref 21)]) (st' := [.int 0, .ref 21]) rfl ?_
  refine ct_putd (d' := sF d23 21 2 (0)) rfl rfl rfl rfl ?_
  obtain ⟨d24, e24⟩ : ∃ x, x = sF d23 21 2 (0) := ⟨_, rfl⟩
  rw [← e24]
  have z24 : Zs 22 d24 := by rw [e24]; exact z23.sF (by decide)
  show vmWp 21 19 [(0, .ref 21)] [] (wK 22 [(0, 5), (19, 2), (19, 1), (19, 0), (15, 2), (15, 1), (15, 0), (0, 4), (13, 0), (0, 3), (11, 0), (0, 2), (9, 0), (0, 1), (3, 4), (3, 3), (3, 2), (3, 1), (3, 0), (0, 0), (1, 0)] 82223 L d24) _
  refine vmWp.ret rfl rfl ?_
  show vmWp 28 12 [(0, .ref 20), (1, .ref 9), (2, .ref 1), (3, .ref 3), (4, .ref 15)] [.ref 21, .ref 20] (wK 22 [(0, 5), (19, 2), (19, 1), (19, 0), (15, 2), (15, 1), (15, 0), (0, 4), (13, 0), (0, 3), (11, 0), (0, 2), (9, 0), (0, 1), (3, 4), (3, 3), (3, 2), (3, 1), (3, 0), (0, 0), (1, 0)] 82223 L d24) _
  refine ct_putr rfl rfl rfl rfl rfl ?_
  show vmWp 28 15 [(0, .ref 20), (1, .ref 9), (2, .ref 1), (3, .ref 3), (4, .ref 15)] [] (wK 22 [(20, 4), (0, 5), (19, 2), (19, 1), (19, 0), (15, 2), (15, 1), (15, 0), (0, 4), (13, 0), (0, 3), (11, 0), (0, 2), (9, 0), (0, 1), (3, 4), (3, 3), (3, 2), (3, 1), (3, 0), (0, 0), (1, 0)] 82223 L d24) _
  refine st_go 1 (pc' := 16) (lo' := [(0, .ref 20), (1, .ref 9), (2, .ref 1), (3, .ref 3), (4, .ref 15)]) (st' := [.ref 20]) rfl ?_
  refine ct_new rfl rfl (by decide) rfl rfl rfl rfl z24 ?_
  have z24 := z24.up
  show vmWp 28 19 [(0, .ref 20), (1, .ref 9), (2, .ref 1), (3, .ref 3), (4, .ref 15)] [.ref 22, .ref 20] (wK 23 [(20, 4), (0, 5), (19, 2), (19, 1), (19, 0), (15, 2), (15, 1), (15, 0), (0, 4), (13, 0), (0, 3), (11, 0), (0, 2), (9, 0), (0, 1), (3, 4), (3, 3), (3, 2), (3, 1), (3, 0), (0, 0), (1, 0)] 82225 L d24) _
  refine st_go 1 (pc' := 20) (lo' := [(0, .ref 20), (1, .ref 9), (2, .ref 1), (3, .ref 3), (4, .ref 15)]) (st' := [.ref 22, .ref 22, .ref 20]) rfl ?_
  refine vmWp.call (k' := 0) (args := [.ref 22]) (rest := [.ref 22, .ref 20]) rfl rfl ?_
  show vmWp 0 0 [(0, .ref 22)] [] (wK 23 [(20, 4), (0, 5), (19, 2), (19, 1), (19, 0), (15, 2), (15, 1), (15, 0), (0, 4), (13, 0), (0, 3), (11, 0), (0, 2), (9, 0), (0, 1), (3, 4), (3, 3), (3, 2), (3, 1), (3, 0), (0, 0), (1, 0)] 82225 L d24) _
  refine st_go 4 (pc' := 7) (lo' := [(0, .ref 22)]) (st' := [.int 8, .ref 22]) rfl ?_
  refine ct_arr (len := 8) rfl rfl rfl (by decide) (by decide) rfl rfl rfl z24 ?_
  have z24 := z24.up
  show vmWp 0 9 [(0, .ref 22)] [.ref 23, .ref 22] (wK 24 [(20, 4), (0, 5), (19, 2), (19, 1), (19, 0), (15, 2), (15, 1), (15, 0), (0, 4), (13, 0), (0, 3), (11, 0), (0, 2), (9, 0), (0, 1), (3, 4), (3, 3), (3, 2), (3, 1), (3, 0), (0, 0), (1, 0)] 82233 L d24) _
  refine ct_putr rfl rfl rfl rfl rfl ?_
  show vmWp 0 12 [(0, .ref 22)] [] (wK 24 [(22, 0), (20, 4), (0, 5), (19, 2), (19, 1), (19, 0), (15, 2), (15, 1), (15, 0), (0, 4), (13, 0), (0, 3), (11, 0), (0, 2), (9, 0), (0, 1), (3, 4), (3, 3), (3, 2), (3, 1), (3, 0), (0, 0), (1, 0)] 82233 L d24) _
  refine st_go 2 (pc' := 14) (lo' := [(0, .ref 22)]) (st' := [.int 0, .ref 22]) rfl ?_
  refine ct_putd (d' := sF d24 22 1 (0)) rfl rfl rfl rfl ?_
  obtain ⟨d25, e25⟩ : ∃ x, x = sF d24 22 1 (0) := ⟨_, rfl⟩
  rw [← e25]
  have z25 : Zs 24 d25 := by rw [e25]; exact z24.sF (by decide)
  show vmWp 0 17 [(0, .ref 22)] [] (wK 24 [(22, 0), (20, 4), (0, 5), (19, 2), (19, 1), (19, 0), (15, 2), (15, 1), (15, 0), (0, 4), (13, 0), (0, 3), (11, 0), (0, 2), (9, 0), (0, 1), (3, 4), (3, 3), (3, 2), (3, 1), (3, 0), (0, 0), (1, 0)] 82233 L d25) _
  refine vmWp.ret rfl rfl ?_
  show vmWp 28 23 [(0, .ref 20), (1, .ref 9), (2, .ref 1), (3, .ref 3), (4, .ref 15)] [.ref 22, .ref 20] (wK 24 [(22, 0), (20, 4), (0, 5), (19, 2), (19, 1), (19, 0), (15, 2), (15, 1), (15, 0), (0, 4), (13, 0), (0, 3), (11, 0), (0, 2), (9, 0), (0, 1), (3, 4), (3, 3), (3, 2), (3, 1), (3, 0), (0, 0), (1, 0)] 82233 L d25) _
  refine ct_putr rfl rfl rfl rfl rfl ?_
  show vmWp 28 26 [(0, .ref 20), (1, .ref 9), (2, .ref 1), (3, .ref 3), (4, .ref 15)] [] (wK 24 [(20, 5), (22, 0), (20, 4), (0, 5), (19, 2), (19, 1), (19, 0), (15, 2), (15, 1), (15, 0), (0, 4), (13, 0), (0, 3), (11, 0), (0, 2), (9, 0), (0, 1), (3, 4), (3, 3), (3, 2), (3, 1), (3, 0), (0, 0), (1, 0)] 82233 L d25) _
  refine st_go 2 (pc' := 28) (lo' := [(0, .ref 20), (1, .ref 9), (2, .ref 1), (3, .ref 3), (4, .ref 15)]) (st' := [.int 1, .ref 20]) rfl ?_
  refine ct_putd (d' := sF d25 20 9 (1)) rfl rfl rfl rfl ?_
  obtain ⟨d26, e26⟩ : ∃ x, x = sF d25 20 9 (1) := ⟨_, rfl⟩
  rw [← e26]
  have z26 : Zs 24 d26 := by rw [e26]; exact z25.sF (by decide)
  show vmWp 28 31 [(0, .ref 20), (1, .ref 9), (2, .ref 1), (3, .ref 3), (4, .ref 15)] [] (wK 24 [(20, 5), (22, 0), (20, 4), (0, 5), (19, 2), (19, 1), (19, 0), (15, 2), (15, 1), (15, 0), (0, 4), (13, 0), (0, 3), (11, 0), (0, 2), (9, 0), (0, 1), (3, 4), (3, 3), (3, 2), (3, 1), (3, 0), (0, 0), (1, 0)] 82233 L d26) _
  refine st_go 2 (pc' := 33) (lo' := [(0, .ref 20), (1, .ref 9), (2, .ref 1), (3, .ref 3), (4, .ref 15)]) (st' := [.int 0, .ref 20]) rfl ?_
  refine ct_putd (d' := sF d26 20 10 (0)) rfl rfl rfl rfl ?_
  obtain ⟨d27, e27⟩ : ∃ x, x = sF d26 20 10 (0) := ⟨_, rfl⟩
  rw [← e27]
  have z27 : Zs 24 d27 := by rw [e27]; exact z26.sF (by decide)
  show vmWp 28 36 [(0, .ref 20), (1, .ref 9), (2, .ref 1), (3, .ref 3), (4, .ref 15)] [] (wK 24 [(20, 5), (22, 0), (20, 4), (0, 5), (19, 2), (19, 1), (19, 0), (15, 2), (15, 1), (15, 0), (0, 4), (13, 0), (0, 3), (11, 0), (0, 2), (9, 0), (0, 1), (3, 4), (3, 3), (3, 2), (3, 1), (3, 0), (0, 0), (1, 0)] 82233 L d27) _
  refine st_go 2 (pc' := 38) (lo' := [(0, .ref 20), (1, .ref 9), (2, .ref 1), (3, .ref 3), (4, .ref 15)]) (st' := [.int 0, .ref 20]) rfl ?_
  refine ct_putd (d' := sF d27 20 11 (0)) rfl rfl rfl rfl ?_
  obtain ⟨d28, e28⟩ : ∃ x, x = sF d27 20 11 (0) := ⟨_, rfl⟩
  rw [← e28]
  have z28 : Zs 24 d28 := by rw [e28]; exact z27.sF (by decide)
  show vmWp 28 41 [(0, .ref 20), (1, .ref 9), (2, .ref 1), (3, .ref 3), (4, .ref 15)] [] (wK 24 [(20, 5), (22, 0), (20, 4), (0, 5), (19, 2), (19, 1), (19, 0), (15, 2), (15, 1), (15, 0), (0, 4), (13, 0), (0, 3), (11, 0), (0, 2), (9, 0), (0, 1), (3, 4), (3, 3), (3, 2), (3, 1), (3, 0), (0, 0), (1, 0)] 82233 L d28) _
  refine st_go 2 (pc' := 43) (lo' := [(0, .ref 20), (1, .ref 9), (2, .ref 1), (3, .ref 3), (4, .ref 15)]) (st' := [.int 0, .ref 20]) rfl ?_
  refine ct_putd (d' := sF d28 20 12 (0)) rfl rfl rfl rfl ?_
  obtain ⟨d29, e29⟩ : ∃ x, x = sF d28 20 12 (0) := ⟨_, rfl⟩
  rw [← e29]
  have z29 : Zs 24 d29 := by rw [e29]; exact z28.sF (by decide)
  show vmWp 28 46 [(0, .ref 20), (1, .ref 9), (2, .ref 1), (3, .ref 3), (4, .ref 15)] [] (wK 24 [(20, 5), (22, 0), (20, 4), (0, 5), (19, 2), (19, 1), (19, 0), (15, 2), (15, 1), (15, 0), (0, 4), (13, 0), (0, 3), (11, 0), (0, 2), (9, 0), (0, 1), (3, 4), (3, 3), (3, 2), (3, 1), (3, 0), (0, 0), (1, 0)] 82233 L d29) _
  refine st_go 2 (pc' := 48) (lo' := [(0, .ref 20), (1, .ref 9), (2, .ref 1), (3, .ref 3), (4, .ref 15)]) (st' := [.int 0, .ref 20]) rfl ?_
  refine ct_putd (d' := sF d29 20 13 (0)) rfl rfl rfl rfl ?_
  obtain ⟨d30, e30⟩ : ∃ x, x = sF d29 20 13 (0) := ⟨_, rfl⟩
  rw [← e30]
  have z30 : Zs 24 d30 := by rw [e30]; exact z29.sF (by decide)
  show vmWp 28 51 [(0, .ref 20), (1, .ref 9), (2, .ref 1), (3, .ref 3), (4, .ref 15)] [] (wK 24 [(20, 5), (22, 0), (20, 4), (0, 5), (19, 2), (19, 1), (19, 0), (15, 2), (15, 1), (15, 0), (0, 4), (13, 0), (0, 3), (11, 0), (0, 2), (9, 0), (0, 1), (3, 4), (3, 3), (3, 2), (3, 1), (3, 0), (0, 0), (1, 0)] 82233 L d30) _
  refine st_go 2 (pc' := 53) (lo' := [(0, .ref 20), (1, .ref 9), (2, .ref 1), (3, .ref 3), (4, .ref 15)]) (st' := [.int 0, .ref 20]) rfl ?_
  refine ct_putd (d' := sF d30 20 14 (0)) rfl rfl rfl rfl ?_
  obtain ⟨d31, e31⟩ : ∃ x, x = sF d30 20 14 (0) := ⟨_, rfl⟩
  rw [← e31]
  have z31 : Zs 24 d31 := by rw [e31]; exact z30.sF (by decide)
  show vmWp 28 56 [(0, .ref 20), (1, .ref 9), (2, .ref 1), (3, .ref 3), (4, .ref 15)] [] (wK 24 [(20, 5), (22, 0), (20, 4), (0, 5), (19, 2), (19, 1), (19, 0), (15, 2), (15, 1), (15, 0), (0, 4), (13, 0), (0, 3), (11, 0), (0, 2), (9, 0), (0, 1), (3, 4), (3, 3), (3, 2), (3, 1), (3, 0), (0, 0), (1, 0)] 82233 L d31) _
  refine st_go 2 (pc' := 58) (lo' := [(0, .ref 20), (1, .ref 9), (2, .ref 1), (3, .ref 3), (4, .ref 15)]) (st' := [.int 0, .ref 20]) rfl ?_
  refine ct_putd (d' := sF d31 20 15 (0)) rfl rfl rfl rfl ?_
  obtain ⟨d32, e32⟩ : ∃ x, x = sF d31 20 15 (0) := ⟨_, rfl⟩
  rw [← e32]
  have z32 : Zs 24 d32 := by rw [e32]; exact z31.sF (by decide)
  show vmWp 28 61 [(0, .ref 20), (1, .ref 9), (2, .ref 1), (3, .ref 3), (4, .ref 15)] [] (wK 24 [(20, 5), (22, 0), (20, 4), (0, 5), (19, 2), (19, 1), (19, 0), (15, 2), (15, 1), (15, 0), (0, 4), (13, 0), (0, 3), (11, 0), (0, 2), (9, 0), (0, 1), (3, 4), (3, 3), (3, 2), (3, 1), (3, 0), (0, 0), (1, 0)] 82233 L d32) _
  refine st_go 2 (pc' := 63) (lo' := [(0, .ref 20), (1, .ref 9), (2, .ref 1), (3, .ref 3), (4, .ref 15)]) (st' := [.int 0, .ref 20]) rfl ?_
  refine ct_putd (d' := sF d32 20 16 (0)) rfl rfl rfl rfl ?_
  obtain ⟨d33, e33⟩ : ∃ x, x = sF d32 20 16 (0) := ⟨_, rfl⟩
  rw [← e33]
  have z33 : Zs 24 d33 := by rw [e33]; exact z32.sF (by decide)
  show vmWp 28 66 [(0, .ref 20), (1, .ref 9), (2, .ref 1), (3, .ref 3), (4, .ref 15)] [] (wK 24 [(20, 5), (22, 0), (20, 4), (0, 5), (19, 2), (19, 1), (19, 0), (15, 2), (15, 1), (15, 0), (0, 4), (13, 0), (0, 3), (11, 0), (0, 2), (9, 0), (0, 1), (3, 4), (3, 3), (3, 2), (3, 1), (3, 0), (0, 0), (1, 0)] 82233 L d33) _
  refine st_go 2 (pc' := 68) (lo' := [(0, .ref 20), (1, .ref 9), (2, .ref 1), (3, .ref 3), (4, .ref 15)]) (st' := [.ref 9, .ref 20]) rfl ?_
  refine ct_putr rfl rfl rfl rfl rfl ?_
  show vmWp 28 71 [(0, .ref 20), (1, .ref 9), (2, .ref 1), (3, .ref 3), (4, .ref 15)] [] (wK 24 [(20, 0), (20, 5), (22, 0), (20, 4), (0, 5), (19, 2), (19, 1), (19, 0), (15, 2), (15, 1), (15, 0), (0, 4), (13, 0), (0, 3), (11, 0), (0, 2), (9, 0), (0, 1), (3, 4), (3, 3), (3, 2), (3, 1), (3, 0), (0, 0), (1, 0)] 82233 L d33) _
  refine st_go 2 (pc' := 73) (lo' := [(0, .ref 20), (1, .ref 9), (2, .ref 1), (3, .ref 3), (4, .ref 15)]) (st' := [.ref 1, .ref 20]) rfl ?_
  refine ct_putr rfl rfl rfl rfl rfl ?_
  show vmWp 28 76 [(0, .ref 20), (1, .ref 9), (2, .ref 1), (3, .ref 3), (4, .ref 15)] [] (wK 24 [(20, 1), (20, 0), (20, 5), (22, 0), (20, 4), (0, 5), (19, 2), (19, 1), (19, 0), (15, 2), (15, 1), (15, 0), (0, 4), (13, 0), (0, 3), (11, 0), (0, 2), (9, 0), (0, 1), (3, 4), (3, 3), (3, 2), (3, 1), (3, 0), (0, 0), (1, 0)] 82233 L d33) _
  refine st_go 2 (pc' := 78) (lo' := [(0, .ref 20), (1, .ref 9), (2, .ref 1), (3, .ref 3), (4, .ref 15)]) (st' := [.ref 3, .ref 20]) rfl ?_
  refine ct_putr rfl rfl rfl rfl rfl ?_
  show vmWp 28 81 [(0, .ref 20), (1, .ref 9), (2, .ref 1), (3, .ref 3), (4, .ref 15)] [] (wK 24 [(20, 2), (20, 1), (20, 0), (20, 5), (22, 0), (20, 4), (0, 5), (19, 2), (19, 1), (19, 0), (15, 2), (15, 1), (15, 0), (0, 4), (13, 0), (0, 3), (11, 0), (0, 2), (9, 0), (0, 1), (3, 4), (3, 3), (3, 2), (3, 1), (3, 0), (0, 0), (1, 0)] 82233 L d33) _
  refine st_go 2 (pc' := 84) (lo' := [(0, .ref 20), (1, .ref 9), (2, .ref 1), (3, .ref 3), (4, .ref 15)]) (st' := [.ref 15, .ref 20]) rfl ?_
  refine ct_putr rfl rfl rfl rfl rfl ?_
  show vmWp 28 87 [(0, .ref 20), (1, .ref 9), (2, .ref 1), (3, .ref 3), (4, .ref 15)] [] (wK 24 [(20, 3), (20, 2), (20, 1), (20, 0), (20, 5), (22, 0), (20, 4), (0, 5), (19, 2), (19, 1), (19, 0), (15, 2), (15, 1), (15, 0), (0, 4), (13, 0), (0, 3), (11, 0), (0, 2), (9, 0), (0, 1), (3, 4), (3, 3), (3, 2), (3, 1), (3, 0), (0, 0), (1, 0)] 82233 L d33) _
  refine st_go 1 (pc' := 88) (lo' := [(0, .ref 20), (1, .ref 9), (2, .ref 1), (3, .ref 3), (4, .ref 15)]) (st' := [.ref 20]) rfl ?_
  refine ct_new rfl rfl (by decide) rfl rfl rfl rfl z33 ?_
  have z33 := z33.up
  show vmWp 28 91 [(0, .ref 20), (1, .ref 9), (2, .ref 1), (3, .ref 3), (4, .ref 15)] [.ref 24, .ref 20] (wK 25 [(20, 3), (20, 2), (20, 1), (20, 0), (20, 5), (22, 0), (20, 4), (0, 5), (19, 2), (19, 1), (19, 0), (15, 2), (15, 1), (15, 0), (0, 4), (13, 0), (0, 3), (11, 0), (0, 2), (9, 0), (0, 1), (3, 4), (3, 3), (3, 2), (3, 1), (3, 0), (0, 0), (1, 0)] 82240 L d33) _
  refine st_go 4 (pc' := 97) (lo' := [(0, .ref 20), (1, .ref 9), (2, .ref 1), (3, .ref 3), (4, .ref 15)]) (st' := [.ref 21, .ref 9, .ref 24, .ref 24, .ref 20]) rfl ?_
  refine vmWp.call (k' := 196) (args := [.ref 24, .ref 9, .ref 21]) (rest := [.ref 24, .ref 20]) rfl rfl ?_
  show vmWp 196 0 [(0, .ref 24), (1, .ref 9), (2, .ref 21)] [] (wK 25 [(20, 3), (20, 2), (20, 1), (20, 0), (20, 5), (22, 0), (20, 4), (0, 5), (19, 2), (19, 1), (19, 0), (15, 2), (15, 1), (15, 0), (0, 4), (13, 0), (0, 3), (11, 0), (0, 2), (9, 0), (0, 1), (3, 4), (3, 3), (3, 2), (3, 1), (3, 0), (0, 0), (1, 0)] 82240 L d33) _
  refine st_go 4 (pc' := 8) (lo' := [(0, .ref 24), (1, .ref 9), (2, .ref 21)]) (st' := [.int 6001, .ref 24]) rfl ?_
  refine ct_arr (len := 6001) rfl rfl rfl (by decide) (by decide) rfl rfl rfl z33 ?_
  have z33 := z33.up
  show vmWp 196 10 [(0, .ref 24), (1, .ref 9), (2, .ref 21)] [.ref 25, .ref 24] (wK 26 [(20, 3), (20, 2), (20, 1), (20, 0), (20, 5), (22, 0), (20, 4), (0, 5), (19, 2), (19, 1), (19, 0), (15, 2), (15, 1), (15, 0), (0, 4), (13, 0), (0, 3), (11, 0), (0, 2), (9, 0), (0, 1), (3, 4), (3, 3), (3, 2), (3, 1), (3, 0), (0, 0), (1, 0)] 88241 L d33) _
  refine ct_putr rfl rfl rfl rfl rfl ?_
  show vmWp 196 13 [(0, .ref 24), (1, .ref 9), (2, .ref 21)] [] (wK 26 [(24, 2), (20, 3), (20, 2), (20, 1), (20, 0), (20, 5), (22, 0), (20, 4), (0, 5), (19, 2), (19, 1), (19, 0), (15, 2), (15, 1), (15, 0), (0, 4), (13, 0), (0, 3), (11, 0), (0, 2), (9, 0), (0, 1), (3, 4), (3, 3), (3, 2), (3, 1), (3, 0), (0, 0), (1, 0)] 88241 L d33) _
  refine st_go 2 (pc' := 17) (lo' := [(0, .ref 24), (1, .ref 9), (2, .ref 21)]) (st' := [.int 6001, .ref 24]) rfl ?_
  refine ct_arr (len := 6001) rfl rfl rfl (by decide) (by decide) rfl rfl rfl z33 ?_
  have z33 := z33.up
  show vmWp 196 19 [(0, .ref 24), (1, .ref 9), (2, .ref 21)] [.ref 26, .ref 24] (wK 27 [(24, 2), (20, 3), (20, 2), (20, 1), (20, 0), (20, 5), (22, 0), (20, 4), (0, 5), (19, 2), (19, 1), (19, 0), (15, 2), (15, 1), (15, 0), (0, 4), (13, 0), (0, 3), (11, 0), (0, 2), (9, 0), (0, 1), (3, 4), (3, 3), (3, 2), (3, 1), (3, 0), (0, 0), (1, 0)] 94242 L d33) _
  refine ct_putr rfl rfl rfl rfl rfl ?_
  show vmWp 196 22 [(0, .ref 24), (1, .ref 9), (2, .ref 21)] [] (wK 27 [(24, 3), (24, 2), (20, 3), (20, 2), (20, 1), (20, 0), (20, 5), (22, 0), (20, 4), (0, 5), (19, 2), (19, 1), (19, 0), (15, 2), (15, 1), (15, 0), (0, 4), (13, 0), (0, 3), (11, 0), (0, 2), (9, 0), (0, 1), (3, 4), (3, 3), (3, 2), (3, 1), (3, 0), (0, 0), (1, 0)] 94242 L d33) _
  refine st_go 2 (pc' := 26) (lo' := [(0, .ref 24), (1, .ref 9), (2, .ref 21)]) (st' := [.int 6001, .ref 24]) rfl ?_
  refine ct_arr (len := 6001) rfl rfl rfl (by decide) (by decide) rfl rfl rfl z33 ?_
  have z33 := z33.up
  show vmWp 196 28 [(0, .ref 24), (1, .ref 9), (2, .ref 21)] [.ref 27, .ref 24] (wK 28 [(24, 3), (24, 2), (20, 3), (20, 2), (20, 1), (20, 0), (20, 5), (22, 0), (20, 4), (0, 5), (19, 2), (19, 1), (19, 0), (15, 2), (15, 1), (15, 0), (0, 4), (13, 0), (0, 3), (11, 0), (0, 2), (9, 0), (0, 1), (3, 4), (3, 3), (3, 2), (3, 1), (3, 0), (0, 0), (1, 0)] 100243 L d33) _
  refine ct_putr rfl rfl rfl rfl rfl ?_
  show vmWp 196 31 [(0, .ref 24), (1, .ref 9), (2, .ref 21)] [] (wK 28 [(24, 4), (24, 3), (24, 2), (20, 3), (20, 2), (20, 1), (20, 0), (20, 5), (22, 0), (20, 4), (0, 5), (19, 2), (19, 1), (19, 0), (15, 2), (15, 1), (15, 0), (0, 4), (13, 0), (0, 3), (11, 0), (0, 2), (9, 0), (0, 1), (3, 4), (3, 3), (3, 2), (3, 1), (3, 0), (0, 0), (1, 0)] 100243 L d33) _
  refine st_go 2 (pc' := 33) (lo' := [(0, .ref 24), (1, .ref 9), (2, .ref 21)]) (st' := [.int 0, .ref 24]) rfl ?_
  refine ct_putd (d' := sF d33 24 5 (0)) rfl rfl rfl rfl ?_
  obtain ⟨d34, e34⟩ : ∃ x, x = sF d33 24 5 (0) := ⟨_, rfl⟩
  rw [← e34]
  have z34 : Zs 28 d34 := by rw [e34]; exact z33.sF (by decide)
  show vmWp 196 36 [(0, .ref 24), (1, .ref 9), (2, .ref 21)] [] (wK 28 [(24, 4), (24, 3), (24, 2), (20, 3), (20, 2), (20, 1), (20, 0), (20, 5), (22, 0), (20, 4), (0, 5), (19, 2), (19, 1), (19, 0), (15, 2), (15, 1), (15, 0), (0, 4), (13, 0), (0, 3), (11, 0), (0, 2), (9, 0), (0, 1), (3, 4), (3, 3), (3, 2), (3, 1), (3, 0), (0, 0), (1, 0)] 100243 L d34) _
  refine st_go 2 (pc' := 38) (lo' := [(0, .ref 24), (1, .ref 9), (2, .ref 21)]) (st' := [.int 0, .ref 24]) rfl ?_
  refine ct_putd (d' := sF d34 24 6 (0)) rfl rfl rfl rfl ?_
  obtain ⟨d35, e35⟩ : ∃ x, x = sF d34 24 6 (0) := ⟨_, rfl⟩
  rw [← e35]
  have z35 : Zs 28 d35 := by rw [e35]; exact z34.sF (by decide)
  show vmWp 196 41 [(0, .ref 24), (1, .ref 9), (2, .ref 21)] [] (wK 28 [(24, 4), (24, 3), (24, 2), (20, 3), (20, 2), (20, 1), (20, 0), (20, 5), (22, 0), (20, 4), (0, 5), (19, 2), (19, 1), (19, 0), (15, 2), (15, 1), (15, 0), (0, 4), (13, 0), (0, 3), (11, 0), (0, 2), (9, 0), (0, 1), (3, 4), (3, 3), (3, 2), (3, 1), (3, 0), (0, 0), (1, 0)] 100243 L d35) _
  refine st_go 2 (pc' := 43) (lo' := [(0, .ref 24), (1, .ref 9), (2, .ref 21)]) (st' := [.ref 9, .ref 24]) rfl ?_
  refine ct_putr rfl rfl rfl rfl rfl ?_
  show vmWp 196 46 [(0, .ref 24), (1, .ref 9), (2, .ref 21)] [] (wK 28 [(24, 0), (24, 4), (24, 3), (24, 2), (20, 3), (20, 2), (20, 1), (20, 0), (20, 5), (22, 0), (20, 4), (0, 5), (19, 2), (19, 1), (19, 0), (15, 2), (15, 1), (15, 0), (0, 4), (13, 0), (0, 3), (11, 0), (0, 2), (9, 0), (0, 1), (3, 4), (3, 3), (3, 2), (3, 1), (3, 0), (0, 0), (1, 0)] 100243 L d35) _
  refine st_go 2 (pc' := 48) (lo' := [(0, .ref 24), (1, .ref 9), (2, .ref 21)]) (st' := [.ref 21, .ref 24]) rfl ?_
  refine ct_putr rfl rfl rfl rfl rfl ?_
  show vmWp 196 51 [(0, .ref 24), (1, .ref 9), (2, .ref 21)] [] (wK 28 [(24, 1), (24, 0), (24, 4), (24, 3), (24, 2), (20, 3), (20, 2), (20, 1), (20, 0), (20, 5), (22, 0), (20, 4), (0, 5), (19, 2), (19, 1), (19, 0), (15, 2), (15, 1), (15, 0), (0, 4), (13, 0), (0, 3), (11, 0), (0, 2), (9, 0), (0, 1), (3, 4), (3, 3), (3, 2), (3, 1), (3, 0), (0, 0), (1, 0)] 100243 L d35) _
  refine vmWp.ret rfl rfl ?_
  show vmWp 28 100 [(0, .ref 20), (1, .ref 9), (2, .ref 1), (3, .ref 3), (4, .ref 15)] [.ref 24, .ref 20] (wK 28 [(24, 1), (24, 0), (24, 4), (24, 3), (24, 2), (20, 3), (20, 2), (20, 1), (20, 0), (20, 5), (22, 0), (20, 4), (0, 5), (19, 2), (19, 1), (19, 0), (15, 2), (15, 1), (15, 0), (0, 4), (13, 0), (0, 3), (11, 0), (0, 2), (9, 0), (0, 1), (3, 4), (3, 3), (3, 2), (3, 1), (3, 0), (0, 0), (1, 0)] 100243 L d35) _
  refine ct_putr rfl rfl rfl rfl rfl ?_
  show vmWp 28 103 [(0, .ref 20), (1, .ref 9), (2, .ref 1), (3, .ref 3), (4, .ref 15)] [] (wK 28 [(20, 6), (24, 1), (24, 0), (24, 4), (24, 3), (24, 2), (20, 3), (20, 2), (20, 1), (20, 0), (20, 5), (22, 0), (20, 4), (0, 5), (19, 2), (19, 1), (19, 0), (15, 2), (15, 1), (15, 0), (0, 4), (13, 0), (0, 3), (11, 0), (0, 2), (9, 0), (0, 1), (3, 4), (3, 3), (3, 2), (3, 1), (3, 0), (0, 0), (1, 0)] 100243 L d35) _
  refine st_go 1 (pc' := 104) (lo' := [(0, .ref 20), (1, .ref 9), (2, .ref 1), (3, .ref 3), (4, .ref 15)]) (st' := [.ref 20]) rfl ?_
  refine ct_new rfl rfl (by decide) rfl rfl rfl rfl z35 ?_
  have z35 := z35.up
  show vmWp 28 107 [(0, .ref 20), (1, .ref 9), (2, .ref 1), (3, .ref 3), (4, .ref 15)] [.ref 28, .ref 20] (wK 29 [(20, 6), (24, 1), (24, 0), (24, 4), (24, 3), (24, 2), (20, 3), (20, 2), (20, 1), (20, 0), (20, 5), (22, 0), (20, 4), (0, 5), (19, 2), (19, 1), (19, 0), (15, 2), (15, 1), (15, 0), (0, 4), (13, 0), (0, 3), (11, 0), (0, 2), (9, 0), (0, 1), (3, 4), (3, 3), (3, 2), (3, 1), (3, 0), (0, 0), (1, 0)] 100256 L d35) _
  refine st_go 4 (pc' := 113) (lo' := [(0, .ref 20), (1, .ref 9), (2, .ref 1), (3, .ref 3), (4, .ref 15)]) (st' := [.ref 3, .ref 24, .ref 28, .ref 28, .ref 20]) rfl ?_
  refine vmWp.call (k' := 8) (args := [.ref 28, .ref 24, .ref 3]) (rest := [.ref 28, .ref 20]) rfl rfl ?_
  show vmWp 8 0 [(0, .ref 28), (1, .ref 24), (2, .ref 3)] [] (wK 29 [(20, 6), (24, 1), (24, 0), (24, 4), (24, 3), (24, 2), (20, 3), (20, 2), (20, 1), (20, 0), (20, 5), (22, 0), (20, 4), (0, 5), (19, 2), (19, 1), (19, 0), (15, 2), (15, 1), (15, 0), (0, 4), (13, 0), (0, 3), (11, 0), (0, 2), (9, 0), (0, 1), (3, 4), (3, 3), (3, 2), (3, 1), (3, 0), (0, 0), (1, 0)] 100256 L d35) _
  refine st_go 4 (pc' := 8) (lo' := [(0, .ref 28), (1, .ref 24), (2, .ref 3)]) (st' := [.int 320, .ref 28]) rfl ?_
  refine ct_arr (len := 320) rfl rfl rfl (by decide) (by decide) rfl rfl rfl z35 ?_
  have z35 := z35.up
  show vmWp 8 10 [(0, .ref 28), (1, .ref 24), (2, .ref 3)] [.ref 29, .ref 28] (wK 30 [(20, 6), (24, 1), (24, 0), (24, 4), (24, 3), (24, 2), (20, 3), (20, 2), (20, 1), (20, 0), (20, 5), (22, 0), (20, 4), (0, 5), (19, 2), (19, 1), (19, 0), (15, 2), (15, 1), (15, 0), (0, 4), (13, 0), (0, 3), (11, 0), (0, 2), (9, 0), (0, 1), (3, 4), (3, 3), (3, 2), (3, 1), (3, 0), (0, 0), (1, 0)] 100576 L d35) _
  refine ct_putr rfl rfl rfl rfl rfl ?_
  show vmWp 8 13 [(0, .ref 28), (1, .ref 24), (2, .ref 3)] [] (wK 30 [(28, 2), (20, 6), (24, 1), (24, 0), (24, 4), (24, 3), (24, 2), (20, 3), (20, 2), (20, 1), (20, 0), (20, 5), (22, 0), (20, 4), (0, 5), (19, 2), (19, 1), (19, 0), (15, 2), (15, 1), (15, 0), (0, 4), (13, 0), (0, 3), (11, 0), (0, 2), (9, 0), (0, 1), (3, 4), (3, 3), (3, 2), (3, 1), (3, 0), (0, 0), (1, 0)] 100576 L d35) _
  refine st_go 2 (pc' := 17) (lo' := [(0, .ref 28), (1, .ref 24), (2, .ref 3)]) (st' := [.int 320, .ref 28]) rfl ?_
  refine ct_arr (len := 320) rfl rfl rfl (by decide) (by decide) rfl rfl rfl z35 ?_
  have z35 := z35.up
  show vmWp 8 19 [(0, .ref 28), (1, .ref 24), (2, .ref 3)] [.ref 30, .ref 28] (wK 31 [(28, 2), (20, 6), (24, 1), (24, 0), (24, 4), (24, 3), (24, 2), (20, 3), (20, 2), (20, 1), (20, 0), (20, 5), (22, 0), (20, 4), (0, 5), (19, 2), (19, 1), (19, 0), (15, 2), (15, 1), (15, 0), (0, 4), (13, 0), (0, 3), (11, 0), (0, 2), (9, 0), (0, 1), (3, 4), (3, 3), (3, 2), (3, 1), (3, 0), (0, 0), (1, 0)] 100896 L d35) _
  refine ct_putr rfl rfl rfl rfl rfl ?_
  show vmWp 8 22 [(0, .ref 28), (1, .ref 24), (2, .ref 3)] [] (wK 31 [(28, 3), (28, 2), (20, 6), (24, 1), (24, 0), (24, 4), (24, 3), (24, 2), (20, 3), (20, 2), (20, 1), (20, 0), (20, 5), (22, 0), (20, 4), (0, 5), (19, 2), (19, 1), (19, 0), (15, 2), (15, 1), (15, 0), (0, 4), (13, 0), (0, 3), (11, 0), (0, 2), (9, 0), (0, 1), (3, 4), (3, 3), (3, 2), (3, 1), (3, 0), (0, 0), (1, 0)] 100896 L d35) _
  refine st_go 2 (pc' := 26) (lo' := [(0, .ref 28), (1, .ref 24), (2, .ref 3)]) (st' := [.int 320, .ref 28]) rfl ?_
  refine ct_arr (len := 320) rfl rfl rfl (by decide) (by decide) rfl rfl rfl z35 ?_
  have z35 := z35.up
  show vmWp 8 28 [(0, .ref 28), (1, .ref 24), (2, .ref 3)] [.ref 31, .ref 28] (wK 32 [(28, 3), (28, 2), (20, 6), (24, 1), (24, 0), (24, 4), (24, 3), (24, 2), (20, 3), (20, 2), (20, 1), (20, 0), (20, 5), (22, 0), (20, 4), (0, 5), (19, 2), (19, 1), (19, 0), (15, 2), (15, 1), (15, 0), (0, 4), (13, 0), (0, 3), (11, 0), (0, 2), (9, 0), (0, 1), (3, 4), (3, 3), (3, 2), (3, 1), (3, 0), (0, 0), (1, 0)] 101216 L d35) _
  refine ct_putr rfl rfl rfl rfl rfl ?_
  show vmWp 8 31 [(0, .ref 28), (1, .ref 24), (2, .ref 3)] [] (wK 32 [(28, 4), (28, 3), (28, 2), (20, 6), (24, 1), (24, 0), (24, 4), (24, 3), (24, 2), (20, 3), (20, 2), (20, 1), (20, 0), (20, 5), (22, 0), (20, 4), (0, 5), (19, 2), (19, 1), (19, 0), (15, 2), (15, 1), (15, 0), (0, 4), (13, 0), (0, 3), (11, 0), (0, 2), (9, 0), (0, 1), (3, 4), (3, 3), (3, 2), (3, 1), (3, 0), (0, 0), (1, 0)] 101216 L d35) _
  refine st_go 2 (pc' := 35) (lo' := [(0, .ref 28), (1, .ref 24), (2, .ref 3)]) (st' := [.int 320, .ref 28]) rfl ?_
  refine ct_arr (len := 320) rfl rfl rfl (by decide) (by decide) rfl rfl rfl z35 ?_
  have z35 := z35.up
  show vmWp 8 37 [(0, .ref 28), (1, .ref 24), (2, .ref 3)] [.ref 32, .ref 28] (wK 33 [(28, 4), (28, 3), (28, 2), (20, 6), (24, 1), (24, 0), (24, 4), (24, 3), (24, 2), (20, 3), (20, 2), (20, 1), (20, 0), (20, 5), (22, 0), (20, 4), (0, 5), (19, 2), (19, 1), (19, 0), (15, 2), (15, 1), (15, 0), (0, 4), (13, 0), (0, 3), (11, 0), (0, 2), (9, 0), (0, 1), (3, 4), (3, 3), (3, 2), (3, 1), (3, 0), (0, 0), (1, 0)] 101536 L d35) _
  refine ct_putr rfl rfl rfl rfl rfl ?_
  show vmWp 8 40 [(0, .ref 28), (1, .ref 24), (2, .ref 3)] [] (wK 33 [(28, 5), (28, 4), (28, 3), (28, 2), (20, 6), (24, 1), (24, 0), (24, 4), (24, 3), (24, 2), (20, 3), (20, 2), (20, 1), (20, 0), (20, 5), (22, 0), (20, 4), (0, 5), (19, 2), (19, 1), (19, 0), (15, 2), (15, 1), (15, 0), (0, 4), (13, 0), (0, 3), (11, 0), (0, 2), (9, 0), (0, 1), (3, 4), (3, 3), (3, 2), (3, 1), (3, 0), (0, 0), (1, 0)] 101536 L d35) _
  refine st_go 2 (pc' := 42) (lo' := [(0, .ref 28), (1, .ref 24), (2, .ref 3)]) (st' := [.int 0, .ref 28]) rfl ?_
  refine ct_putd (d' := sF d35 28 6 (0)) rfl rfl rfl rfl ?_
  obtain ⟨d36, e36⟩ : ∃ x, x = sF d35 28 6 (0) := ⟨_, rfl⟩
  rw [← e36]
  have z36 : Zs 33 d36 := by rw [e36]; exact z35.sF (by decide)
  show vmWp 8 45 [(0, .ref 28), (1, .ref 24), (2, .ref 3)] [] (wK 33 [(28, 5), (28, 4), (28, 3), (28, 2), (20, 6), (24, 1), (24, 0), (24, 4), (24, 3), (24, 2), (20, 3), (20, 2), (20, 1), (20, 0), (20, 5), (22, 0), (20, 4), (0, 5), (19, 2), (19, 1), (19, 0), (15, 2), (15, 1), (15, 0), (0, 4), (13, 0), (0, 3), (11, 0), (0, 2), (9, 0), (0, 1), (3, 4), (3, 3), (3, 2), (3, 1), (3, 0), (0, 0), (1, 0)] 101536 L d36) _
  refine st_go 2 (pc' := 47) (lo' := [(0, .ref 28), (1, .ref 24), (2, .ref 3)]) (st' := [.int 0, .ref 28]) rfl ?_
  refine ct_putd (d' := sF d36 28 7 (0)) rfl rfl rfl rfl ?_
  obtain ⟨d37, e37⟩ : ∃ x, x = sF d36 28 7 (0) := ⟨_, rfl⟩
  rw [← e37]
  have z37 : Zs 33 d37 := by rw [e37]; exact z36.sF (by decide)
  show vmWp 8 50 [(0, .ref 28), (1, .ref 24), (2, .ref 3)] [] (wK 33 [(28, 5), (28, 4), (28, 3), (28, 2), (20, 6), (24, 1), (24, 0), (24, 4), (24, 3), (24, 2), (20, 3), (20, 2), (20, 1), (20, 0), (20, 5), (22, 0), (20, 4), (0, 5), (19, 2), (19, 1), (19, 0), (15, 2), (15, 1), (15, 0), (0, 4), (13, 0), (0, 3), (11, 0), (0, 2), (9, 0), (0, 1), (3, 4), (3, 3), (3, 2), (3, 1), (3, 0), (0, 0), (1, 0)] 101536 L d37) _
  refine st_go 2 (pc' := 52) (lo' := [(0, .ref 28), (1, .ref 24), (2, .ref 3)]) (st' := [.int 0, .ref 28]) rfl ?_
  refine ct_putd (d' := sF d37 28 8 (0)) rfl rfl rfl rfl ?_
  obtain ⟨d38, e38⟩ : ∃ x, x = sF d37 28 8 (0) := ⟨_, rfl⟩
  rw [← e38]
  have z38 : Zs 33 d38 := by rw [e38]; exact z37.sF (by decide)
  show vmWp 8 55 [(0, .ref 28), (1, .ref 24), (2, .ref 3)] [] (wK 33 [(28, 5), (28, 4), (28, 3), (28, 2), (20, 6), (24, 1), (24, 0), (24, 4), (24, 3), (24, 2), (20, 3), (20, 2), (20, 1), (20, 0), (20, 5), (22, 0), (20, 4), (0, 5), (19, 2), (19, 1), (19, 0), (15, 2), (15, 1), (15, 0), (0, 4), (13, 0), (0, 3), (11, 0), (0, 2), (9, 0), (0, 1), (3, 4), (3, 3), (3, 2), (3, 1), (3, 0), (0, 0), (1, 0)] 101536 L d38) _
  refine st_go 2 (pc' := 57) (lo' := [(0, .ref 28), (1, .ref 24), (2, .ref 3)]) (st' := [.int 0, .ref 28]) rfl ?_
  refine ct_putd (d' := sF d38 28 9 (0)) rfl rfl rfl rfl ?_
  obtain ⟨d39, e39⟩ : ∃ x, x = sF d38 28 9 (0) := ⟨_, rfl⟩
  rw [← e39]
  have z39 : Zs 33 d39 := by rw [e39]; exact z38.sF (by decide)
  show vmWp 8 60 [(0, .ref 28), (1, .ref 24), (2, .ref 3)] [] (wK 33 [(28, 5), (28, 4), (28, 3), (28, 2), (20, 6), (24, 1), (24, 0), (24, 4), (24, 3), (24, 2), (20, 3), (20, 2), (20, 1), (20, 0), (20, 5), (22, 0), (20, 4), (0, 5), (19, 2), (19, 1), (19, 0), (15, 2), (15, 1), (15, 0), (0, 4), (13, 0), (0, 3), (11, 0), (0, 2), (9, 0), (0, 1), (3, 4), (3, 3), (3, 2), (3, 1), (3, 0), (0, 0), (1, 0)] 101536 L d39) _
  refine st_go 2 (pc' := 62) (lo' := [(0, .ref 28), (1, .ref 24), (2, .ref 3)]) (st' := [.int 0, .ref 28]) rfl ?_
  refine ct_putd (d' := sF d39 28 10 (0)) rfl rfl rfl rfl ?_
  obtain ⟨d40, e40⟩ : ∃ x, x = sF d39 28 10 (0) := ⟨_, rfl⟩
  rw [← e40]
  have z40 : Zs 33 d40 := by rw [e40]; exact z39.sF (by decide)
  show vmWp 8 65 [(0, .ref 28), (1, .ref 24), (2, .ref 3)] [] (wK 33 [(28, 5), (28, 4), (28, 3), (28, 2), (20, 6), (24, 1), (24, 0), (24, 4), (24, 3), (24, 2), (20, 3), (20, 2), (20, 1), (20, 0), (20, 5), (22, 0), (20, 4), (0, 5), (19, 2), (19, 1), (19, 0), (15, 2), (15, 1), (15, 0), (0, 4), (13, 0), (0, 3), (11, 0), (0, 2), (9, 0), (0, 1), (3, 4), (3, 3), (3, 2), (3, 1), (3, 0), (0, 0), (1, 0)] 101536 L d40) _
  refine st_go 2 (pc' := 67) (lo' := [(0, .ref 28), (1, .ref 24), (2, .ref 3)]) (st' := [.int 0, .ref 28]) rfl ?_
  refine ct_putd (d' := sF d40 28 11 (0)) rfl rfl rfl rfl ?_
  obtain ⟨d41, e41⟩ : ∃ x, x = sF d40 28 11 (0) := ⟨_, rfl⟩
  rw [← e41]
  have z41 : Zs 33 d41 := by rw [e41]; exact z40.sF (by decide)
  show vmWp 8 70 [(0, .ref 28), (1, .ref 24), (2, .ref 3)] [] (wK 33 [(28, 5), (28, 4), (28, 3), (28, 2), (20, 6), (24, 1), (24, 0), (24, 4), (24, 3), (24, 2), (20, 3), (20, 2), (20, 1), (20, 0), (20, 5), (22, 0), (20, 4), (0, 5), (19, 2), (19, 1), (19, 0), (15, 2), (15, 1), (15, 0), (0, 4), (13, 0), (0, 3), (11, 0), (0, 2), (9, 0), (0, 1), (3, 4), (3, 3), (3, 2), (3, 1), (3, 0), (0, 0), (1, 0)] 101536 L d41) _
  refine st_go 2 (pc' := 72) (lo' := [(0, .ref 28), (1, .ref 24), (2, .ref 3)]) (st' := [.int 0, .ref 28]) rfl ?_
  refine ct_putd (d' := sF d41 28 12 (0)) rfl rfl rfl rfl ?_
  obtain ⟨d42, e42⟩ : ∃ x, x = sF d41 28 12 (0) := ⟨_, rfl⟩
  rw [← e42]
  have z42 : Zs 33 d42 := by rw [e42]; exact z41.sF (by decide)
  show vmWp 8 75 [(0, .ref 28), (1, .ref 24), (2, .ref 3)] [] (wK 33 [(28, 5), (28, 4), (28, 3), (28, 2), (20, 6), (24, 1), (24, 0), (24, 4), (24, 3), (24, 2), (20, 3), (20, 2), (20, 1), (20, 0), (20, 5), (22, 0), (20, 4), (0, 5), (19, 2), (19, 1), (19, 0), (15, 2), (15, 1), (15, 0), (0, 4), (13, 0), (0, 3), (11, 0), (0, 2), (9, 0), (0, 1), (3, 4), (3, 3), (3, 2), (3, 1), (3, 0), (0, 0), (1, 0)] 101536 L d42) _
  refine st_go 2 (pc' := 77) (lo' := [(0, .ref 28), (1, .ref 24), (2, .ref 3)]) (st' := [.ref 24, .ref 28]) rfl ?_
  refine ct_putr rfl rfl rfl rfl rfl ?_
  show vmWp 8 80 [(0, .ref 28), (1, .ref 24), (2, .ref 3)] [] (wK 33 [(28, 0), (28, 5), (28, 4), (28, 3), (28, 2), (20, 6), (24, 1), (24, 0), (24, 4), (24, 3), (24, 2), (20, 3), (20, 2), (20, 1), (20, 0), (20, 5), (22, 0), (20, 4), (0, 5), (19, 2), (19, 1), (19, 0), (15, 2), (15, 1), (15, 0), (0, 4), (13, 0), (0, 3), (11, 0), (0, 2), (9, 0), (0, 1), (3, 4), (3, 3), (3, 2), (3, 1), (3, 0), (0, 0), (1, 0)] 101536 L d42) _
  refine st_go 2 (pc' := 82) (lo' := [(0, .ref 28), (1, .ref 24), (2, .ref 3)]) (st' := [.ref 3, .ref 28]) rfl ?_
  refine ct_putr rfl rfl rfl rfl rfl ?_
  show vmWp 8 85 [(0, .ref 28), (1, .ref 24), (2, .ref 3)] [] (wK 33 [(28, 1), (28, 0), (28, 5), (28, 4), (28, 3), (28, 2), (20, 6), (24, 1), (24, 0), (24, 4), (24, 3), (24, 2), (20, 3), (20, 2), (20, 1), (20, 0), (20, 5), (22, 0), (20, 4), (0, 5), (19, 2), (19, 1), (19, 0), (15, 2), (15, 1), (15, 0), (0, 4), (13, 0), (0, 3), (11, 0), (0, 2), (9, 0), (0, 1), (3, 4), (3, 3), (3, 2), (3, 1), (3, 0), (0, 0), (1, 0)] 101536 L d42) _
  refine vmWp.ret rfl rfl ?_
  show vmWp 28 116 [(0, .ref 20), (1, .ref 9), (2, .ref 1), (3, .ref 3), (4, .ref 15)] [.ref 28, .ref 20] (wK 33 [(28, 1), (28, 0), (28, 5), (28, 4), (28, 3), (28, 2), (20, 6), (24, 1), (24, 0), (24, 4), (24, 3), (24, 2), (20, 3), (20, 2), (20, 1), (20, 0), (20, 5), (22, 0), (20, 4), (0, 5), (19, 2), (19, 1), (19, 0), (15, 2), (15, 1), (15, 0), (0, 4), (13, 0), (0, 3), (11, 0), (0, 2), (9, 0), (0, 1), (3, 4), (3, 3), (3, 2), (3, 1), (3, 0), (0, 0), (1, 0)] 101536 L d42) _
  refine ct_putr rfl rfl rfl rfl rfl ?_
  show vmWp 28 119 [(0, .ref 20), (1, .ref 9), (2, .ref 1), (3, .ref 3), (4, .ref 15)] [] (wK 33 [(20, 7), (28, 1), (28, 0), (28, 5), (28, 4), (28, 3), (28, 2), (20, 6), (24, 1), (24, 0), (24, 4), (24, 3), (24, 2), (20, 3), (20, 2), (20, 1), (20, 0), (20, 5), (22, 0), (20, 4), (0, 5), (19, 2), (19, 1), (19, 0), (15, 2), (15, 1), (15, 0), (0, 4), (13, 0), (0, 3), (11, 0), (0, 2), (9, 0), (0, 1), (3, 4), (3, 3), (3, 2), (3, 1), (3, 0), (0, 0), (1, 0)] 101536 L d42) _
  refine st_go 1 (pc' := 120) (lo' := [(0, .ref 20), (1, .ref 9), (2, .ref 1), (3, .ref 3), (4, .ref 15)]) (st' := [.ref 20]) rfl ?_
  refine ct_new rfl rfl (by decide) rfl rfl rfl rfl z42 ?_
  have z42 := z42.up
  show vmWp 28 123 [(0, .ref 20), (1, .ref 9), (2, .ref 1), (3, .ref 3), (4, .ref 15)] [.ref 33, .ref 20] (wK 34 [(20, 7), (28, 1), (28, 0), (28, 5), (28, 4), (28, 3), (28, 2), (20, 6), (24, 1), (24, 0), (24, 4), (24, 3), (24, 2), (20, 3), (20, 2), (20, 1), (20, 0), (20, 5), (22, 0), (20, 4), (0, 5), (19, 2), (19, 1), (19, 0), (15, 2), (15, 1), (15, 0), (0, 4), (13, 0), (0, 3), (11, 0), (0, 2), (9, 0), (0, 1), (3, 4), (3, 3), (3, 2), (3, 1), (3, 0), (0, 0), (1, 0)] 101545 L d42) _
  refine st_go 6 (pc' := 133) (lo' := [(0, .ref 20), (1, .ref 9), (2, .ref 1), (3, .ref 3), (4, .ref 15)]) (st' := [.ref 28, .ref 3, .ref 24, .ref 33, .ref 33, .ref 20]) rfl ?_
  refine vmWp.call (k' := 149) (args := [.ref 33, .ref 24, .ref 3, .ref 28]) (rest := [.ref 33, .ref 20]) rfl rfl ?_
  show vmWp 149 0 [(0, .ref 33), (1, .ref 24), (2, .ref 3), (3, .ref 28)] [] (wK 34 [(20, 7), (28, 1), (28, 0), (28, 5), (28, 4), (28, 3), (28, 2), (20, 6), (24, 1), (24, 0), (24, 4), (24, 3), (24, 2), (20, 3), (20, 2), (20, 1), (20, 0), (20, 5), (22, 0), (20, 4), (0, 5), (19, 2), (19, 1), (19, 0), (15, 2), (15, 1), (15, 0), (0, 4), (13, 0), (0, 3), (11, 0), (0, 2), (9, 0), (0, 1), (3, 4), (3, 3), (3, 2), (3, 1), (3, 0), (0, 0), (1, 0)] 101545 L d42) _
  refine st_go 4 (pc' := 6) (lo' := [(0, .ref 33), (1, .ref 24), (2, .ref 3), (3, .ref 28)]) (st' := [.int 2, .ref 33]) rfl ?_
  refine ct_arr (len := 2) rfl rfl rfl (by decide) (by decide) rfl rfl rfl z42 ?_
  have z42 := z42.up
  show vmWp 149 8 [(0, .ref 33), (1, .ref 24), (2, .ref 3), (3, .ref 28)] [.ref 34, .ref 33] (wK 35 [(20, 7), (28, 1), (28, 0), (28, 5), (28, 4), (28, 3), (28, 2), (20, 6), (24, 1), (24, 0), (24, 4), (24, 3), (24, 2), (20, 3), (20, 2), (20, 1), (20, 0), (20, 5), (22, 0), (20, 4), (0, 5), (19, 2), (19, 1), (19, 0), (15, 2), (15, 1), (15, 0), (0, 4), (13, 0), (0, 3), (11, 0), (0, 2), (9, 0), (0, 1), (3, 4), (3, 3), (3, 2), (3, 1), (3, 0), (0, 0), (1, 0)] 101547 L d42) _
  refine ct_putr rfl rfl rfl rfl rfl ?_
  show vmWp 149 11 [(0, .ref 33), (1, .ref 24), (2, .ref 3), (3, .ref 28)] [] (wK 35 [(33, 3), (20, 7), (28, 1), (28, 0), (28, 5), (28, 4), (28, 3), (28, 2), (20, 6), (24, 1), (24, 0), (24, 4), (24, 3), (24, 2), (20, 3), (20, 2), (20, 1), (20, 0), (20, 5), (22, 0), (20, 4), (0, 5), (19, 2), (19, 1), (19, 0), (15, 2), (15, 1), (15, 0), (0, 4), (13, 0), (0, 3), (11, 0), (0, 2), (9, 0), (0, 1), (3, 4), (3, 3), (3, 2), (3, 1), (3, 0), (0, 0), (1, 0)] 101547 L d42) _
  refine st_go 2 (pc' := 13) (lo' := [(0, .ref 33), (1, .ref 24), (2, .ref 3), (3, .ref 28)]) (st' := [.int 2, .ref 33]) rfl ?_
  refine ct_arr (len := 2) rfl rfl rfl (by decide) (by decide) rfl rfl rfl z42 ?_
  have z42 := z42.up
  show vmWp 149 15 [(0, .ref 33), (1, .ref 24), (2, .ref 3), (3, .ref 28)] [.ref 35, .ref 33] (wK 36 [(33, 3), (20, 7), (28, 1), (28, 0), (28, 5), (28, 4), (28, 3), (28, 2), (20, 6), (24, 1), (24, 0), (24, 4), (24, 3), (24, 2), (20, 3), (20, 2), (20, 1), (20, 0), (20, 5), (22, 0), (20, 4), (0, 5), (19, 2), (19, 1), (19, 0), (15, 2), (15, 1), (15, 0), (0, 4), (13, 0), (0, 3), (11, 0), (0, 2), (9, 0), (0, 1), (3, 4), (3, 3), (3, 2), (3, 1), (3, 0), (0, 0), (1, 0)] 101549 L d42) _
  refine ct_putr rfl rfl rfl rfl rfl ?_
  show vmWp 149 18 [(0, .ref 33), (1, .ref 24), (2, .ref 3), (3, .ref 28)] [] (wK 36 [(33, 4), (33, 3), (20, 7), (28, 1), (28, 0), (28, 5), (28, 4), (28, 3), (28, 2), (20, 6), (24, 1), (24, 0), (24, 4), (24, 3), (24, 2), (20, 3), (20, 2), (20, 1), (20, 0), (20, 5), (22, 0), (20, 4), (0, 5), (19, 2), (19, 1), (19, 0), (15, 2), (15, 1), (15, 0), (0, 4), (13, 0), (0, 3), (11, 0), (0, 2), (9, 0), (0, 1), (3, 4), (3, 3), (3, 2), (3, 1), (3, 0), (0, 0), (1, 0)] 101549 L d42) _
  refine st_go 2 (pc' := 20) (lo' := [(0, .ref 33), (1, .ref 24), (2, .ref 3), (3, .ref 28)]) (st' := [.int 2, .ref 33]) rfl ?_
  refine ct_arr (len := 2) rfl rfl rfl (by decide) (by decide) rfl rfl rfl z42 ?_
  have z42 := z42.up
  show vmWp 149 22 [(0, .ref 33), (1, .ref 24), (2, .ref 3), (3, .ref 28)] [.ref 36, .ref 33] (wK 37 [(33, 4), (33, 3), (20, 7), (28, 1), (28, 0), (28, 5), (28, 4), (28, 3), (28, 2), (20, 6), (24, 1), (24, 0), (24, 4), (24, 3), (24, 2), (20, 3), (20, 2), (20, 1), (20, 0), (20, 5), (22, 0), (20, 4), (0, 5), (19, 2), (19, 1), (19, 0), (15, 2), (15, 1), (15, 0), (0, 4), (13, 0), (0, 3), (11, 0), (0, 2), (9, 0), (0, 1), (3, 4), (3, 3), (3, 2), (3, 1), (3, 0), (0, 0), (1, 0)] 101551 L d42) _
  refine ct_putr rfl rfl rfl rfl rfl ?_
  show vmWp 149 25 [(0, .ref 33), (1, .ref 24), (2, .ref 3), (3, .ref 28)] [] (wK 37 [(33, 5), (33, 4), (33, 3), (20, 7), (28, 1), (28, 0), (28, 5), (28, 4), (28, 3), (28, 2), (20, 6), (24, 1), (24, 0), (24, 4), (24, 3), (24, 2), (20, 3), (20, 2), (20, 1), (20, 0), (20, 5), (22, 0), (20, 4), (0, 5), (19, 2), (19, 1), (19, 0), (15, 2), (15, 1), (15, 0), (0, 4), (13, 0), (0, 3), (11, 0), (0, 2), (9, 0), (0, 1), (3, 4), (3, 3), (3, 2), (3, 1), (3, 0), (0, 0), (1, 0)] 101551 L d42) _
  refine st_go 2 (pc' := 27) (lo' := [(0, .ref 33), (1, .ref 24), (2, .ref 3), (3, .ref 28)]) (st' := [.int 2, .ref 33]) rfl ?_
  refine ct_arr (len := 2) rfl rfl rfl (by decide) (by decide) rfl rfl rfl z42 ?_
  have z42 := z42.up
  show vmWp 149 29 [(0, .ref 33), (1, .ref 24), (2, .ref 3), (3, .ref 28)] [.ref 37, .ref 33] (wK 38 [(33, 5), (33, 4), (33, 3), (20, 7), (28, 1), (28, 0), (28, 5), (28, 4), (28, 3), (28, 2), (20, 6), (24, 1), (24, 0), (24, 4), (24, 3), (24, 2), (20, 3), (20, 2), (20, 1), (20, 0), (20, 5), (22, 0), (20, 4), (0, 5), (19, 2), (19, 1), (19, 0), (15, 2), (15, 1), (15, 0), (0, 4), (13, 0), (0, 3), (11, 0), (0, 2), (9, 0), (0, 1), (3, 4), (3, 3), (3, 2), (3, 1), (3, 0), (0, 0), (1, 0)] 101553 L d42) _
  refine ct_putr rfl rfl rfl rfl rfl ?_
  show vmWp 149 32 [(0, .ref 33), (1, .ref 24), (2, .ref 3), (3, .ref 28)] [] (wK 38 [(33, 6), (33, 5), (33, 4), (33, 3), (20, 7), (28, 1), (28, 0), (28, 5), (28, 4), (28, 3), (28, 2), (20, 6), (24, 1), (24, 0), (24, 4), (24, 3), (24, 2), (20, 3), (20, 2), (20, 1), (20, 0), (20, 5), (22, 0), (20, 4), (0, 5), (19, 2), (19, 1), (19, 0), (15, 2), (15, 1), (15, 0), (0, 4), (13, 0), (0, 3), (11, 0), (0, 2), (9, 0), (0, 1), (3, 4), (3, 3), (3, 2), (3, 1), (3, 0), (0, 0), (1, 0)] 101553 L d42) _
  refine st_go 2 (pc' := 34) (lo' := [(0, .ref 33), (1, .ref 24), (2, .ref 3), (3, .ref 28)]) (st' := [.int 0, .ref 33]) rfl ?_
  refine ct_putd (d' := sF d42 33 7 (0)) rfl rfl rfl (put_b rfl (Or.inl rfl)) ?_
  obtain ⟨d43, e43⟩ : ∃ x, x = sF d42 33 7 (0) := ⟨_, rfl⟩
  rw [← e43]
  have z43 : Zs 38 d43 := by rw [e43]; exact z42.sF (by decide)
  show vmWp 149 37 [(0, .ref 33), (1, .ref 24), (2, .ref 3), (3, .ref 28)] [] (wK 38 [(33, 6), (33, 5), (33, 4), (33, 3), (20, 7), (28, 1), (28, 0), (28, 5), (28, 4), (28, 3), (28, 2), (20, 6), (24, 1), (24, 0), (24, 4), (24, 3), (24, 2), (20, 3), (20, 2), (20, 1), (20, 0), (20, 5), (22, 0), (20, 4), (0, 5), (19, 2), (19, 1), (19, 0), (15, 2), (15, 1), (15, 0), (0, 4), (13, 0), (0, 3), (11, 0), (0, 2), (9, 0), (0, 1), (3, 4), (3, 3), (3, 2), (3, 1), (3, 0), (0, 0), (1, 0)] 101553 L d43) _
  refine st_go 2 (pc' := 39) (lo' := [(0, .ref 33), (1, .ref 24), (2, .ref 3), (3, .ref 28)]) (st' := [.int 0, .ref 33]) rfl ?_
  refine ct_putd (d' := sF d43 33 8 (0)) rfl rfl rfl rfl ?_
  obtain ⟨d44, e44⟩ : ∃ x, x = sF d43 33 8 (0) := ⟨_, rfl⟩
  rw [← e44]
  have z44 : Zs 38 d44 := by rw [e44]; exact z43.sF (by decide)
  show vmWp 149 42 [(0, .ref 33), (1, .ref 24), (2, .ref 3), (3, .ref 28)] [] (wK 38 [(33, 6), (33, 5), (33, 4), (33, 3), (20, 7), (28, 1), (28, 0), (28, 5), (28, 4), (28, 3), (28, 2), (20, 6), (24, 1), (24, 0), (24, 4), (24, 3), (24, 2), (20, 3), (20, 2), (20, 1), (20, 0), (20, 5), (22, 0), (20, 4), (0, 5), (19, 2), (19, 1), (19, 0), (15, 2), (15, 1), (15, 0), (0, 4), (13, 0), (0, 3), (11, 0), (0, 2), (9, 0), (0, 1), (3, 4), (3, 3), (3, 2), (3, 1), (3, 0), (0, 0), (1, 0)] 101553 L d44) _
  refine st_go 2 (pc' := 44) (lo' := [(0, .ref 33), (1, .ref 24), (2, .ref 3), (3, .ref 28)]) (st' := [.ref 24, .ref 33]) rfl ?_
  refine ct_putr rfl rfl rfl rfl rfl ?_
  show vmWp 149 47 [(0, .ref 33), (1, .ref 24), (2, .ref 3), (3, .ref 28)] [] (wK 38 [(33, 0), (33, 6), (33, 5), (33, 4), (33, 3), (20, 7), (28, 1), (28, 0), (28, 5), (28, 4), (28, 3), (28, 2), (20, 6), (24, 1), (24, 0), (24, 4), (24, 3), (24, 2), (20, 3), (20, 2), (20, 1), (20, 0), (20, 5), (22, 0), (20, 4), (0, 5), (19, 2), (19, 1), (19, 0), (15, 2), (15, 1), (15, 0), (0, 4), (13, 0), (0, 3), (11, 0), (0, 2), (9, 0), (0, 1), (3, 4), (3, 3), (3, 2), (3, 1), (3, 0), (0, 0), (1, 0)] 101553 L d44) _
  refine st_go 2 (pc' := 49) (lo' := [(0, .ref 33), (1, .ref 24), (2, .ref 3), (3, .ref 28)]) (st' := [.ref 3, .ref 33]) rfl ?_
  refine ct_putr rfl rfl rfl rfl rfl ?_
  show vmWp 149 52 [(0, .ref 33), (1, .ref 24), (2, .ref 3), (3, .ref 28)] [] (wK 38 [(33, 1), (33, 0), (33, 6), (33, 5), (33, 4), (33, 3), (20, 7), (28, 1), (28, 0), (28, 5), (28, 4), (28, 3), (28, 2), (20, 6), (24, 1), (24, 0), (24, 4), (24, 3), (24, 2), (20, 3), (20, 2), (20, 1), (20, 0), (20, 5), (22, 0), (20, 4), (0, 5), (19, 2), (19, 1), (19, 0), (15, 2), (15, 1), (15, 0), (0, 4), (13, 0), (0, 3), (11, 0), (0, 2), (9, 0), (0, 1), (3, 4), (3, 3), (3, 2), (3, 1), (3, 0), (0, 0), (1, 0)] 101553 L d44) _
  refine st_go 2 (pc' := 54) (lo' := [(0, .ref 33), (1, .ref 24), (2, .ref 3), (3, .ref 28)]) (st' := [.ref 28, .ref 33]) rfl ?_
  refine ct_putr rfl rfl rfl rfl rfl ?_
  show vmWp 149 57 [(0, .ref 33), (1, .ref 24), (2, .ref 3), (3, .ref 28)] [] (wK 38 [(33, 2), (33, 1), (33, 0), (33, 6), (33, 5), (33, 4), (33, 3), (20, 7), (28, 1), (28, 0), (28, 5), (28, 4), (28, 3), (28, 2), (20, 6), (24, 1), (24, 0), (24, 4), (24, 3), (24, 2), (20, 3), (20, 2), (20, 1), (20, 0), (20, 5), (22, 0), (20, 4), (0, 5), (19, 2), (19, 1), (19, 0), (15, 2), (15, 1), (15, 0), (0, 4), (13, 0), (0, 3), (11, 0), (0, 2), (9, 0), (0, 1), (3, 4), (3, 3), (3, 2), (3, 1), (3, 0), (0, 0), (1, 0)] 101553 L d44) _
  refine vmWp.ret rfl rfl ?_
  show vmWp 28 136 [(0, .ref 20), (1, .ref 9), (2, .ref 1), (3, .ref 3), (4, .ref 15)] [.ref 33, .ref 20] (wK 38 [(33, 2), (33, 1), (33, 0), (33, 6), (33, 5), (33, 4), (33, 3), (20, 7), (28, 1), (28, 0), (28, 5), (28, 4), (28, 3), (28, 2), (20, 6), (24, 1), (24, 0), (24, 4), (24, 3), (24, 2), (20, 3), (20, 2), (20, 1), (20, 0), (20, 5), (22, 0), (20, 4), (0, 5), (19, 2), (19, 1), (19, 0), (15, 2), (15, 1), (15, 0), (0, 4), (13, 0), (0, 3), (11, 0), (0, 2), (9, 0), (0, 1), (3, 4), (3, 3), (3, 2), (3, 1), (3, 0), (0, 0), (1, 0)] 101553 L d44) _
  refine ct_putr rfl rfl rfl rfl rfl ?_
  show vmWp 28 139 [(0, .ref 20), (1, .ref 9), (2, .ref 1), (3, .ref 3), (4, .ref 15)] [] (wK 38 [(20, 8), (33, 2), (33, 1), (33, 0), (33, 6), (33, 5), (33, 4), (33, 3), (20, 7), (28, 1), (28, 0), (28, 5), (28, 4), (28, 3), (28, 2), (20, 6), (24, 1), (24, 0), (24, 4), (24, 3), (24, 2), (20, 3), (20, 2), (20, 1), (20, 0), (20, 5), (22, 0), (20, 4), (0, 5), (19, 2), (19, 1), (19, 0), (15, 2), (15, 1), (15, 0), (0, 4), (13, 0), (0, 3), (11, 0), (0, 2), (9, 0), (0, 1), (3, 4), (3, 3), (3, 2), (3, 1), (3, 0), (0, 0), (1, 0)] 101553 L d44) _
  refine vmWp.ret rfl rfl ?_
  show vmWp 221 116 [(1, .ref 15), (0, .ref 0)] [.ref 20, .ref 0] (wK 38 [(20, 8), (33, 2), (33, 1), (33, 0), (33, 6), (33, 5), (33, 4), (33, 3), (20, 7), (28, 1), (28, 0), (28, 5), (28, 4), (28, 3), (28, 2), (20, 6), (24, 1), (24, 0), (24, 4), (24, 3), (24, 2), (20, 3), (20, 2), (20, 1), (20, 0), (20, 5), (22, 0), (20, 4), (0, 5), (19, 2), (19, 1), (19, 0), (15, 2), (15, 1), (15, 0), (0, 4), (13, 0), (0, 3), (11, 0), (0, 2), (9, 0), (0, 1), (3, 4), (3, 3), (3, 2), (3, 1), (3, 0), (0, 0), (1, 0)] 101553 L d44) _
  refine ct_putr rfl rfl rfl rfl rfl ?_
  show vmWp 221 119 [(1, .ref 15), (0, .ref 0)] [] (wK 38 [(0, 6), (20, 8), (33, 2), (33, 1), (33, 0), (33, 6), (33, 5), (33, 4), (33, 3), (20, 7), (28, 1), (28, 0), (28, 5), (28, 4), (28, 3), (28, 2), (20, 6), (24, 1), (24, 0), (24, 4), (24, 3), (24, 2), (20, 3), (20, 2), (20, 1), (20, 0), (20, 5), (22, 0), (20, 4), (0, 5), (19, 2), (19, 1), (19, 0), (15, 2), (15, 1), (15, 0), (0, 4), (13, 0), (0, 3), (11, 0), (0, 2), (9, 0), (0, 1), (3, 4), (3, 3), (3, 2), (3, 1), (3, 0), (0, 0), (1, 0)] 101553 L d44) _
  refine st_go 1 (pc' := 120) (lo' := [(1, .ref 15), (0, .ref 0)]) (st' := [.ref 0]) rfl ?_
  refine ct_new rfl rfl (by decide) rfl rfl rfl rfl z44 ?_
  have z44 := z44.up
  show vmWp 221 123 [(1, .ref 15), (0, .ref 0)] [.ref 38, .ref 0] (wK 39 [(0, 6), (20, 8), (33, 2), (33, 1), (33, 0), (33, 6), (33, 5), (33, 4), (33, 3), (20, 7), (28, 1), (28, 0), (28, 5), (28, 4), (28, 3), (28, 2), (20, 6), (24, 1), (24, 0), (24, 4), (24, 3), (24, 2), (20, 3), (20, 2), (20, 1), (20, 0), (20, 5), (22, 0), (20, 4), (0, 5), (19, 2), (19, 1), (19, 0), (15, 2), (15, 1), (15, 0), (0, 4), (13, 0), (0, 3), (11, 0), (0, 2), (9, 0), (0, 1), (3, 4), (3, 3), (3, 2), (3, 1), (3, 0), (0, 0), (1, 0)] 101563 L d44) _
  refine st_go 5 (pc' := 132) (lo' := [(1, .ref 15), (0, .ref 0)]) (st' := [.ref 19, .ref 1, .ref 38, .ref 38, .ref 0]) rfl ?_
  refine vmWp.call (k' := 73) (args := [.ref 38, .ref 1, .ref 19]) (rest := [.ref 38, .ref 0]) rfl rfl ?_
  show vmWp 73 0 [(0, .ref 38), (1, .ref 1), (2, .ref 19)] [] (wK 39 [(0, 6), (20, 8), (33, 2), (33, 1), (33, 0), (33, 6), (33, 5), (33, 4), (33, 3), (20, 7), (28, 1), (28, 0), (28, 5), (28, 4), (28, 3), (28, 2), (20, 6), (24, 1), (24, 0), (24, 4), (24, 3), (24, 2), (20, 3), (20, 2), (20, 1), (20, 0), (20, 5), (22, 0), (20, 4), (0, 5), (19, 2), (19, 1), (19, 0), (15, 2), (15, 1), (15, 0), (0, 4), (13, 0), (0, 3), (11, 0), (0, 2), (9, 0), (0, 1), (3, 4), (3, 3), (3, 2), (3, 1), (3, 0), (0, 0), (1, 0)] 101563 L d44) _
  refine st_go 4 (pc' := 7) (lo' := [(0, .ref 38), (1, .ref 1), (2, .ref 19)]) (st' := [.int 17, .ref 38]) rfl ?_
  refine ct_arr (len := 17) rfl rfl rfl (by decide) (by decide) rfl rfl rfl z44 ?_
  have z44 := z44.up
  show vmWp 73 9 [(0, .ref 38), (1, .ref 1), (2, .ref 19)] [.ref 39, .ref 38] (wK 40 [(0, 6), (20, 8), (33, 2), (33, 1), (33, 0), (33, 6), (33, 5), (33, 4), (33, 3), (20, 7), (28, 1), (28, 0), (28, 5), (28, 4), (28, 3), (28, 2), (20, 6), (24, 1), (24, 0), (24, 4), (24, 3), (24, 2), (20, 3), (20, 2), (20, 1), (20, 0), (20, 5), (22, 0), (20, 4), (0, 5), (19, 2), (19, 1), (19, 0), (15, 2), (15, 1), (15, 0), (0, 4), (13, 0), (0, 3), (11, 0), (0, 2), (9, 0), (0, 1), (3, 4), (3, 3), (3, 2), (3, 1), (3, 0), (0, 0), (1, 0)] 101580 L d44) _
  refine ct_putr rfl rfl rfl rfl rfl ?_
  show vmWp 73 12 [(0, .ref 38), (1, .ref 1), (2, .ref 19)] [] (wK 40 [(38, 2), (0, 6), (20, 8), (33, 2), (33, 1), (33, 0), (33, 6), (33, 5), (33, 4), (33, 3), (20, 7), (28, 1), (28, 0), (28, 5), (28, 4), (28, 3), (28, 2), (20, 6), (24, 1), (24, 0), (24, 4), (24, 3), (24, 2), (20, 3), (20, 2), (20, 1), (20, 0), (20, 5), (22, 0), (20, 4), (0, 5), (19, 2), (19, 1), (19, 0), (15, 2), (15, 1), (15, 0), (0, 4), (13, 0), (0, 3), (11, 0), (0, 2), (9, 0), (0, 1), (3, 4), (3, 3), (3, 2), (3, 1), (3, 0), (0, 0), (1, 0)] 101580 L d44) _
  refine st_go 2 (pc' := 16) (lo' := [(0, .ref 38), (1, .ref 1), (2, .ref 19)]) (st' := [.int 256, .ref 38]) rfl ?_
  refine ct_arr (len := 256) rfl rfl rfl (by decide) (by decide) rfl rfl rfl z44 ?_
  have z44 := z44.up
  show vmWp 73 18 [(0, .ref 38), (1, .ref 1), (2, .ref 19)] [.ref 40, .ref 38] (wK 41 [(38, 2), (0, 6), (20, 8), (33, 2), (33, 1), (33, 0), (33, 6), (33, 5), (33, 4), (33, 3), (20, 7), (28, 1), (28, 0), (28, 5), (28, 4), (28, 3), (28, 2), (20, 6), (24, 1), (24, 0), (24, 4), (24, 3), (24, 2), (20, 3), (20, 2), (20, 1), (20, 0), (20, 5), (22, 0), (20, 4), (0, 5), (19, 2), (19, 1), (19, 0), (15, 2), (15, 1), (15, 0), (0, 4), (13, 0), (0, 3), (11, 0), (0, 2), (9, 0), (0, 1), (3, 4), (3, 3), (3, 2), (3, 1), (3, 0), (0, 0), (1, 0)] 101836 L d44) _
  refine ct_putr rfl rfl rfl rfl rfl ?_
  show vmWp 73 21 [(0, .ref 38), (1, .ref 1), (2, .ref 19)] [] (wK 41 [(38, 3), (38, 2), (0, 6), (20, 8), (33, 2), (33, 1), (33, 0), (33, 6), (33, 5), (33, 4), (33, 3), (20, 7), (28, 1), (28, 0), (28, 5), (28, 4), (28, 3), (28, 2), (20, 6), (24, 1), (24, 0), (24, 4), (24, 3), (24, 2), (20, 3), (20, 2), (20, 1), (20, 0), (20, 5), (22, 0), (20, 4), (0, 5), (19, 2), (19, 1), (19, 0), (15, 2), (15, 1), (15, 0), (0, 4), (13, 0), (0, 3), (11, 0), (0, 2), (9, 0), (0, 1), (3, 4), (3, 3), (3, 2), (3, 1), (3, 0), (0, 0), (1, 0)] 101836 L d44) _
  refine st_go 2 (pc' := 25) (lo' := [(0, .ref 38), (1, .ref 1), (2, .ref 19)]) (st' := [.int 256, .ref 38]) rfl ?_
  refine ct_arr (len := 256) rfl rfl rfl (by decide) (by decide) rfl rfl rfl z44 ?_
  have z44 := z44.up
  show vmWp 73 27 [(0, .ref 38), (1, .ref 1), (2, .ref 19)] [.ref 41, .ref 38] (wK 42 [(38, 3), (38, 2), (0, 6), (20, 8), (33, 2), (33, 1), (33, 0), (33, 6), (33, 5), (33, 4), (33, 3), (20, 7), (28, 1), (28, 0), (28, 5), (28, 4), (28, 3), (28, 2), (20, 6), (24, 1), (24, 0), (24, 4), (24, 3), (24, 2), (20, 3), (20, 2), (20, 1), (20, 0), (20, 5), (22, 0), (20, 4), (0, 5), (19, 2), (19, 1), (19, 0), (15, 2), (15, 1), (15, 0), (0, 4), (13, 0), (0, 3), (11, 0), (0, 2), (9, 0), (0, 1), (3, 4), (3, 3), (3, 2), (3, 1), (3, 0), (0, 0), (1, 0)] 102092 L d44) _
  refine ct_putr rfl rfl rfl rfl rfl ?_
  show vmWp 73 30 [(0, .ref 38), (1, .ref 1), (2, .ref 19)] [] (wK 42 [(38, 4), (38, 3), (38, 2), (0, 6), (20, 8), (33, 2), (33, 1), (33, 0), (33, 6), (33, 5), (33, 4), (33, 3), (20, 7), (28, 1), (28, 0), (28, 5), (28, 4), (28, 3), (28, 2), (20, 6), (24, 1), (24, 0), (24, 4), (24, 3), (24, 2), (20, 3), (20, 2), (20, 1), (20, 0), (20, 5), (22, 0), (20, 4), (0, 5), (19, 2), (19, 1), (19, 0), (15, 2), (15, 1), (15, 0), (0, 4), (13, 0), (0, 3), (11, 0), (0, 2), (9, 0), (0, 1), (3, 4), (3, 3), (3, 2), (3, 1), (3, 0), (0, 0), (1, 0)] 102092 L d44) _
  refine st_go 2 (pc' := 32) (lo' := [(0, .ref 38), (1, .ref 1), (2, .ref 19)]) (st' := [.long 0, .ref 38]) rfl ?_
  refine ct_putd (d' := sG d44 38 5 (0)) rfl rfl rfl rfl ?_
  obtain ⟨d45, e45⟩ : ∃ x, x = sG d44 38 5 (0) := ⟨_, rfl⟩
  rw [← e45]
  have z45 : Zs 42 d45 := by rw [e45]; exact z44.sG (by decide)
  show vmWp 73 35 [(0, .ref 38), (1, .ref 1), (2, .ref 19)] [] (wK 42 [(38, 4), (38, 3), (38, 2), (0, 6), (20, 8), (33, 2), (33, 1), (33, 0), (33, 6), (33, 5), (33, 4), (33, 3), (20, 7), (28, 1), (28, 0), (28, 5), (28, 4), (28, 3), (28, 2), (20, 6), (24, 1), (24, 0), (24, 4), (24, 3), (24, 2), (20, 3), (20, 2), (20, 1), (20, 0), (20, 5), (22, 0), (20, 4), (0, 5), (19, 2), (19, 1), (19, 0), (15, 2), (15, 1), (15, 0), (0, 4), (13, 0), (0, 3), (11, 0), (0, 2), (9, 0), (0, 1), (3, 4), (3, 3), (3, 2), (3, 1), (3, 0), (0, 0), (1, 0)] 102092 L d45) _
  refine st_go 2 (pc' := 37) (lo' := [(0, .ref 38), (1, .ref 1), (2, .ref 19)]) (st' := [.int 0, .ref 38]) rfl ?_
  refine ct_putd (d' := sF d45 38 6 (0)) rfl rfl rfl (put_b rfl (Or.inl rfl)) ?_
  obtain ⟨d46, e46⟩ : ∃ x, x = sF d45 38 6 (0) := ⟨_, rfl⟩
  rw [← e46]
  have z46 : Zs 42 d46 := by rw [e46]; exact z45.sF (by decide)
  show vmWp 73 40 [(0, .ref 38), (1, .ref 1), (2, .ref 19)] [] (wK 42 [(38, 4), (38, 3), (38, 2), (0, 6), (20, 8), (33, 2), (33, 1), (33, 0), (33, 6), (33, 5), (33, 4), (33, 3), (20, 7), (28, 1), (28, 0), (28, 5), (28, 4), (28, 3), (28, 2), (20, 6), (24, 1), (24, 0), (24, 4), (24, 3), (24, 2), (20, 3), (20, 2), (20, 1), (20, 0), (20, 5), (22, 0), (20, 4), (0, 5), (19, 2), (19, 1), (19, 0), (15, 2), (15, 1), (15, 0), (0, 4), (13, 0), (0, 3), (11, 0), (0, 2), (9, 0), (0, 1), (3, 4), (3, 3), (3, 2), (3, 1), (3, 0), (0, 0), (1, 0)] 102092 L d46) _
  refine st_go 2 (pc' := 42) (lo' := [(0, .ref 38), (1, .ref 1), (2, .ref 19)]) (st' := [.int 0, .ref 38]) rfl ?_
  refine ct_putd (d' := sF d46 38 7 (0)) rfl rfl rfl (put_b rfl (Or.inl rfl)) ?_
  obtain ⟨d47, e47⟩ : ∃ x, x = sF d46 38 7 (0) := ⟨_, rfl⟩
  rw [← e47]
  have z47 : Zs 42 d47 := by rw [e47]; exact z46.sF (by decide)
  show vmWp 73 45 [(0, .ref 38), (1, .ref 1), (2, .ref 19)] [] (wK 42 [(38, 4), (38, 3), (38, 2), (0, 6), (20, 8), (33, 2), (33, 1), (33, 0), (33, 6), (33, 5), (33, 4), (33, 3), (20, 7), (28, 1), (28, 0), (28, 5), (28, 4), (28, 3), (28, 2), (20, 6), (24, 1), (24, 0), (24, 4), (24, 3), (24, 2), (20, 3), (20, 2), (20, 1), (20, 0), (20, 5), (22, 0), (20, 4), (0, 5), (19, 2), (19, 1), (19, 0), (15, 2), (15, 1), (15, 0), (0, 4), (13, 0), (0, 3), (11, 0), (0, 2), (9, 0), (0, 1), (3, 4), (3, 3), (3, 2), (3, 1), (3, 0), (0, 0), (1, 0)] 102092 L d47) _
  refine st_go 2 (pc' := 47) (lo' := [(0, .ref 38), (1, .ref 1), (2, .ref 19)]) (st' := [.int 0, .ref 38]) rfl ?_
  refine ct_putd (d' := sF d47 38 8 (0)) rfl rfl rfl rfl ?_
  obtain ⟨d48, e48⟩ : ∃ x, x = sF d47 38 8 (0) := ⟨_, rfl⟩
  rw [← e48]
  have z48 : Zs 42 d48 := by rw [e48]; exact z47.sF (by decide)
  show vmWp 73 50 [(0, .ref 38), (1, .ref 1), (2, .ref 19)] [] (wK 42 [(38, 4), (38, 3), (38, 2), (0, 6), (20, 8), (33, 2), (33, 1), (33, 0), (33, 6), (33, 5), (33, 4), (33, 3), (20, 7), (28, 1), (28, 0), (28, 5), (28, 4), (28, 3), (28, 2), (20, 6), (24, 1), (24, 0), (24, 4), (24, 3), (24, 2), (20, 3), (20, 2), (20, 1), (20, 0), (20, 5), (22, 0), (20, 4), (0, 5), (19, 2), (19, 1), (19, 0), (15, 2), (15, 1), (15, 0), (0, 4), (13, 0), (0, 3), (11, 0), (0, 2), (9, 0), (0, 1), (3, 4), (3, 3), (3, 2), (3, 1), (3, 0), (0, 0), (1, 0)] 102092 L d48) _
  refine st_go 2 (pc' := 52) (lo' := [(0, .ref 38), (1, .ref 1), (2, .ref 19)]) (st' := [.int 0, .ref 38]) rfl ?_
  refine ct_putd (d' := sF d48 38 9 (0)) rfl rfl rfl (put_b rfl (Or.inl rfl)) ?_
  obtain ⟨d49, e49⟩ : ∃ x, x = sF d48 38 9 (0) := ⟨_, rfl⟩
  rw [← e49]
  have z49 : Zs 42 d49 := by rw [e49]; exact z48.sF (by decide)
  show vmWp 73 55 [(0, .ref 38), (1, .ref 1), (2, .ref 19)] [] (wK 42 [(38, 4), (38, 3), (38, 2), (0, 6), (20, 8), (33, 2), (33, 1), (33, 0), (33, 6), (33, 5), (33, 4), (33, 3), (20, 7), (28, 1), (28, 0), (28, 5), (28, 4), (28, 3), (28, 2), (20, 6), (24, 1), (24, 0), (24, 4), (24, 3), (24, 2), (20, 3), (20, 2), (20, 1), (20, 0), (20, 5), (22, 0), (20, 4), (0, 5), (19, 2), (19, 1), (19, 0), (15, 2), (15, 1), (15, 0), (0, 4), (13, 0), (0, 3), (11, 0), (0, 2), (9, 0), (0, 1), (3, 4), (3, 3), (3, 2), (3, 1), (3, 0), (0, 0), (1, 0)] 102092 L d49) _
  refine st_go 2 (pc' := 57) (lo' := [(0, .ref 38), (1, .ref 1), (2, .ref 19)]) (st' := [.ref 1, .ref 38]) rfl ?_
  refine ct_putr rfl rfl rfl rfl rfl ?_
  show vmWp 73 60 [(0, .ref 38), (1, .ref 1), (2, .ref 19)] [] (wK 42 [(38, 0), (38, 4), (38, 3), (38, 2), (0, 6), (20, 8), (33, 2), (33, 1), (33, 0), (33, 6), (33, 5), (33, 4), (33, 3), (20, 7), (28, 1), (28, 0), (28, 5), (28, 4), (28, 3), (28, 2), (20, 6), (24, 1), (24, 0), (24, 4), (24, 3), (24, 2), (20, 3), (20, 2), (20, 1), (20, 0), (20, 5), (22, 0), (20, 4), (0, 5), (19, 2), (19, 1), (19, 0), (15, 2), (15, 1), (15, 0), (0, 4), (13, 0), (0, 3), (11, 0), (0, 2), (9, 0), (0, 1), (3, 4), (3, 3), (3, 2), (3, 1), (3, 0), (0, 0), (1, 0)] 102092 L d49) _
  refine st_go 2 (pc' := 62) (lo' := [(0, .ref 38), (1, .ref 1), (2, .ref 19)]) (st' := [.ref 19, .ref 38]) rfl ?_
  refine ct_putr rfl rfl rfl rfl rfl ?_
  show vmWp 73 65 [(0, .ref 38), (1, .ref 1), (2, .ref 19)] [] (wK 42 [(38, 1), (38, 0), (38, 4), (38, 3), (38, 2), (0, 6), (20, 8), (33, 2), (33, 1), (33, 0), (33, 6), (33, 5), (33, 4), (33, 3), (20, 7), (28, 1), (28, 0), (28, 5), (28, 4), (28, 3), (28, 2), (20, 6), (24, 1), (24, 0), (24, 4), (24, 3), (24, 2), (20, 3), (20, 2), (20, 1), (20, 0), (20, 5), (22, 0), (20, 4), (0, 5), (19, 2), (19, 1), (19, 0), (15, 2), (15, 1), (15, 0), (0, 4), (13, 0), (0, 3), (11, 0), (0, 2), (9, 0), (0, 1), (3, 4), (3, 3), (3, 2), (3, 1), (3, 0), (0, 0), (1, 0)] 102092 L d49) _
  refine st_go 1 (pc' := 66) (lo' := [(0, .ref 38), (1, .ref 1), (2, .ref 19)]) (st' := [.ref 38]) rfl ?_
  refine vmWp.call (k' := 74) (args := [.ref 38]) (rest := []) rfl rfl ?_
  show vmWp 74 0 [(0, .ref 38)] [] (wK 42 [(38, 1), (38, 0), (38, 4), (38, 3), (38, 2), (0, 6), (20, 8), (33, 2), (33, 1), (33, 0), (33, 6), (33, 5), (33, 4), (33, 3), (20, 7), (28, 1), (28, 0), (28, 5), (28, 4), (28, 3), (28, 2), (20, 6), (24, 1), (24, 0), (24, 4), (24, 3), (24, 2), (20, 3), (20, 2), (20, 1), (20, 0), (20, 5), (22, 0), (20, 4), (0, 5), (19, 2), (19, 1), (19, 0), (15, 2), (15, 1), (15, 0), (0, 4), (13, 0), (0, 3), (11, 0), (0, 2), (9, 0), (0, 1), (3, 4), (3, 3), (3, 2), (3, 1), (3, 0), (0, 0), (1, 0)] 102092 L d49) _
  refine st_go 3 (pc' := 5) (lo' := [(0, .ref 38)]) (st' := [.int 0, .ref 39]) rfl ?_
  refine vmWp.call (k' := 403) (args := [.ref 39, .int 0]) (rest := []) rfl rfl (fillW (len := 17) (fun _ => rfl) rfl (by decide) ?_)
  obtain ⟨d50, e50⟩ : ∃ x, x = fillA d49 39 (0) 17 := ⟨_, rfl⟩
  rw [← e50]
  have z50 : Zs 42 d50 := by rw [e50]; exact z49.fill (by decide) _
  show vmWp 74 8 [(0, .ref 38)] [] (wK 42 [(38, 1), (38, 0), (38, 4), (38, 3), (38, 2), (0, 6), (20, 8), (33, 2), (33, 1), (33, 0), (33, 6), (33, 5), (33, 4), (33, 3), (20, 7), (28, 1), (28, 0), (28, 5), (28, 4), (28, 3), (28, 2), (20, 6), (24, 1), (24, 0), (24, 4), (24, 3), (24, 2), (20, 3), (20, 2), (20, 1), (20, 0), (20, 5), (22, 0), (20, 4), (0, 5), (19, 2), (19, 1), (19, 0), (15, 2), (15, 1), (15, 0), (0, 4), (13, 0), (0, 3), (11, 0), (0, 2), (9, 0), (0, 1), (3, 4), (3, 3), (3, 2), (3, 1), (3, 0), (0, 0), (1, 0)] 102092 L d50) _
  refine st_go 3 (pc' := 13) (lo' := [(0, .ref 38)]) (st' := [.int 0, .ref 40]) rfl ?_
  refine vmWp.call (k' := 403) (args := [.ref 40, .int 0]) (rest := []) rfl rfl (fillW (len := 256) (fun _ => rfl) rfl (by decide) ?_)
  obtain ⟨d51, e51⟩ : ∃ x, x = fillA d50 40 (0) 256 := ⟨_, rfl⟩
  rw [← e51]
  have z51 : Zs 42 d51 := by rw [e51]; exact z50.fill (by decide) _
  show vmWp 74 16 [(0, .ref 38)] [] (wK 42 [(38, 1), (38, 0), (38, 4), (38, 3), (38, 2), (0, 6), (20, 8), (33, 2), (33, 1), (33, 0), (33, 6), (33, 5), (33, 4), (33, 3), (20, 7), (28, 1), (28, 0), (28, 5), (28, 4), (28, 3), (28, 2), (20, 6), (24, 1), (24, 0), (24, 4), (24, 3), (24, 2), (20, 3), (20, 2), (20, 1), (20, 0), (20, 5), (22, 0), (20, 4), (0, 5), (19, 2), (19, 1), (19, 0), (15, 2), (15, 1), (15, 0), (0, 4), (13, 0), (0, 3), (11, 0), (0, 2), (9, 0), (0, 1), (3, 4), (3, 3), (3, 2), (3, 1), (3, 0), (0, 0), (1, 0)] 102092 L d51) _
  refine st_go 3 (pc' := 21) (lo' := [(0, .ref 38)]) (st' := [.int 0, .ref 41]) rfl ?_
  refine vmWp.call (k' := 403) (args := [.ref 41, .int 0]) (rest := []) rfl rfl (fillW (len := 256) (fun _ => rfl) rfl (by decide) ?_)
  obtain ⟨d52, e52⟩ : ∃ x, x = fillA d51 41 (0) 256 := ⟨_, rfl⟩
  rw [← e52]
  have z52 : Zs 42 d52 := by rw [e52]; exact z51.fill (by decide) _
  show vmWp 74 24 [(0, .ref 38)] [] (wK 42 [(38, 1), (38, 0), (38, 4), (38, 3), (38, 2), (0, 6), (20, 8), (33, 2), (33, 1), (33, 0), (33, 6), (33, 5), (33, 4), (33, 3), (20, 7), (28, 1), (28, 0), (28, 5), (28, 4), (28, 3), (28, 2), (20, 6), (24, 1), (24, 0), (24, 4), (24, 3), (24, 2), (20, 3), (20, 2), (20, 1), (20, 0), (20, 5), (22, 0), (20, 4), (0, 5), (19, 2), (19, 1), (19, 0), (15, 2), (15, 1), (15, 0), (0, 4), (13, 0), (0, 3), (11, 0), (0, 2), (9, 0), (0, 1), (3, 4), (3, 3), (3, 2), (3, 1), (3, 0), (0, 0), (1, 0)] 102092 L d52) _
  refine st_go 4 (pc' := 32) (lo' := [(0, .ref 38)]) (st' := [.int 65535, .int 10, .ref 39]) rfl ?_
  refine ct_ast (j := 10) rfl rfl (show 10 < 17 by decide) (by decide) ?_
  obtain ⟨d53, e53⟩ : ∃ x, x = sA d52 39 10 (65535) := ⟨_, rfl⟩
  rw [← e53]
  have z53 : Zs 42 d53 := by rw [e53]; exact z52.sA (by decide)
  show vmWp 74 33 [(0, .ref 38)] [] (wK 42 [(38, 1), (38, 0), (38, 4), (38, 3), (38, 2), (0, 6), (20, 8), (33, 2), (33, 1), (33, 0), (33, 6), (33, 5), (33, 4), (33, 3), (20, 7), (28, 1), (28, 0), (28, 5), (28, 4), (28, 3), (28, 2), (20, 6), (24, 1), (24, 0), (24, 4), (24, 3), (24, 2), (20, 3), (20, 2), (20, 1), (20, 0), (20, 5), (22, 0), (20, 4), (0, 5), (19, 2), (19, 1), (19, 0), (15, 2), (15, 1), (15, 0), (0, 4), (13, 0), (0, 3), (11, 0), (0, 2), (9, 0), (0, 1), (3, 4), (3, 3), (3, 2), (3, 1), (3, 0), (0, 0), (1, 0)] 102092 L d53) _
  refine st_go 2 (pc' := 35) (lo' := [(0, .ref 38)]) (st' := [.long 0, .ref 38]) rfl ?_
  refine ct_putd (d' := sG d53 38 5 (0)) rfl rfl rfl rfl ?_
  obtain ⟨d54, e54⟩ : ∃ x, x = sG d53 38 5 (0) := ⟨_, rfl⟩
  rw [← e54]
  have z54 : Zs 42 d54 := by rw [e54]; exact z53.sG (by decide)
  show vmWp 74 38 [(0, .ref 38)] [] (wK 42 [(38, 1), (38, 0), (38, 4), (38, 3), (38, 2), (0, 6), (20, 8), (33, 2), (33, 1), (33, 0), (33, 6), (33, 5), (33, 4), (33, 3), (20, 7), (28, 1), (28, 0), (28, 5), (28, 4), (28, 3), (28, 2), (20, 6), (24, 1), (24, 0), (24, 4), (24, 3), (24, 2), (20, 3), (20, 2), (20, 1), (20, 0), (20, 5), (22, 0), (20, 4), (0, 5), (19, 2), (19, 1), (19, 0), (15, 2), (15, 1), (15, 0), (0, 4), (13, 0), (0, 3), (11, 0), (0, 2), (9, 0), (0, 1), (3, 4), (3, 3), (3, 2), (3, 1), (3, 0), (0, 0), (1, 0)] 102092 L d54) _
  refine st_go 2 (pc' := 40) (lo' := [(0, .ref 38)]) (st' := [.int 0, .ref 38]) rfl ?_
  refine ct_putd (d' := sF d54 38 6 (0)) rfl rfl rfl (put_b rfl (Or.inl rfl)) ?_
  obtain ⟨d55, e55⟩ : ∃ x, x = sF d54 38 6 (0) := ⟨_, rfl⟩
  rw [← e55]
  have z55 : Zs 42 d55 := by rw [e55]; exact z54.sF (by decide)
  show vmWp 74 43 [(0, .ref 38)] [] (wK 42 [(38, 1), (38, 0), (38, 4), (38, 3), (38, 2), (0, 6), (20, 8), (33, 2), (33, 1), (33, 0), (33, 6), (33, 5), (33, 4), (33, 3), (20, 7), (28, 1), (28, 0), (28, 5), (28, 4), (28, 3), (28, 2), (20, 6), (24, 1), (24, 0), (24, 4), (24, 3), (24, 2), (20, 3), (20, 2), (20, 1), (20, 0), (20, 5), (22, 0), (20, 4), (0, 5), (19, 2), (19, 1), (19, 0), (15, 2), (15, 1), (15, 0), (0, 4), (13, 0), (0, 3), (11, 0), (0, 2), (9, 0), (0, 1), (3, 4), (3, 3), (3, 2), (3, 1), (3, 0), (0, 0), (1, 0)] 102092 L d55) _
  refine st_go 2 (pc' := 45) (lo' := [(0, .ref 38)]) (st' := [.int 0, .ref 38]) rfl ?_
  refine ct_putd (d' := sF d55 38 7 (0)) rfl rfl rfl (put_b rfl (Or.inl rfl)) ?_
  obtain ⟨d56, e56⟩ : ∃ x, x = sF d55 38 7 (0) := ⟨_, rfl⟩
  rw [← e56]
  have z56 : Zs 42 d56 := by rw [e56]; exact z55.sF (by decide)
  show vmWp 74 48 [(0, .ref 38)] [] (wK 42 [(38, 1), (38, 0), (38, 4), (38, 3), (38, 2), (0, 6), (20, 8), (33, 2), (33, 1), (33, 0), (33, 6), (33, 5), (33, 4), (33, 3), (20, 7), (28, 1), (28, 0), (28, 5), (28, 4), (28, 3), (28, 2), (20, 6), (24, 1), (24, 0), (24, 4), (24, 3), (24, 2), (20, 3), (20, 2), (20, 1), (20, 0), (20, 5), (22, 0), (20, 4), (0, 5), (19, 2), (19, 1), (19, 0), (15, 2), (15, 1), (15, 0), (0, 4), (13, 0), (0, 3), (11, 0), (0, 2), (9, 0), (0, 1), (3, 4), (3, 3), (3, 2), (3, 1), (3, 0), (0, 0), (1, 0)] 102092 L d56) _
  refine st_go 2 (pc' := 50) (lo' := [(0, .ref 38)]) (st' := [.int 0, .ref 38]) rfl ?_
  refine ct_putd (d' := sF d56 38 8 (0)) rfl rfl rfl rfl ?_
  obtain ⟨d57, e57⟩ : ∃ x, x = sF d56 38 8 (0) := ⟨_, rfl⟩
  rw [← e57]
  have z57 : Zs 42 d57 := by rw [e57]; exact z56.sF (by decide)
  show vmWp 74 53 [(0, .ref 38)] [] (wK 42 [(38, 1), (38, 0), (38, 4), (38, 3), (38, 2), (0, 6), (20, 8), (33, 2), (33, 1), (33, 0), (33, 6), (33, 5), (33, 4), (33, 3), (20, 7), (28, 1), (28, 0), (28, 5), (28, 4), (28, 3), (28, 2), (20, 6), (24, 1), (24, 0), (24, 4), (24, 3), (24, 2), (20, 3), (20, 2), (20, 1), (20, 0), (20, 5), (22, 0), (20, 4), (0, 5), (19, 2), (19, 1), (19, 0), (15, 2), (15, 1), (15, 0), (0, 4), (13, 0), (0, 3), (11, 0), (0, 2), (9, 0), (0, 1), (3, 4), (3, 3), (3, 2), (3, 1), (3, 0), (0, 0), (1, 0)] 102092 L d57) _
  refine st_go 2 (pc' := 55) (lo' := [(0, .ref 38)]) (st' := [.int 0, .ref 38]) rfl ?_
  refine ct_putd (d' := sF d57 38 9 (0)) rfl rfl rfl (put_b rfl (Or.inl rfl)) ?_
  obtain ⟨d58, e58⟩ : ∃ x, x = sF d57 38 9 (0) := ⟨_, rfl⟩
  rw [← e58]
  have z58 : Zs 42 d58 := by rw [e58]; exact z57.sF (by decide)
  show vmWp 74 58 [(0, .ref 38)] [] (wK 42 [(38, 1), (38, 0), (38, 4), (38, 3), (38, 2), (0, 6), (20, 8), (33, 2), (33, 1), (33, 0), (33, 6), (33, 5), (33, 4), (33, 3), (20, 7), (28, 1), (28, 0), (28, 5), (28, 4), (28, 3), (28, 2), (20, 6), (24, 1), (24, 0), (24, 4), (24, 3), (24, 2), (20, 3), (20, 2), (20, 1), (20, 0), (20, 5), (22, 0), (20, 4), (0, 5), (19, 2), (19, 1), (19, 0), (15, 2), (15, 1), (15, 0), (0, 4), (13, 0), (0, 3), (11, 0), (0, 2), (9, 0), (0, 1), (3, 4), (3, 3), (3, 2), (3, 1), (3, 0), (0, 0), (1, 0)] 102092 L d58) _
  refine vmWp.ret rfl rfl ?_
  show vmWp 73 69 [(0, .ref 38), (1, .ref 1), (2, .ref 19)] [] (wK 42 [(38, 1), (38, 0), (38, 4), (38, 3), (38, 2), (0, 6), (20, 8), (33, 2), (33, 1), (33, 0), (33, 6), (33, 5), (33, 4), (33, 3), (20, 7), (28, 1), (28, 0), (28, 5), (28, 4), (28, 3), (28, 2), (20, 6), (24, 1), (24, 0), (24, 4), (24, 3), (24, 2), (20, 3), (20, 2), (20, 1), (20, 0), (20, 5), (22, 0), (20, 4), (0, 5), (19, 2), (19, 1), (19, 0), (15, 2), (15, 1), (15, 0), (0, 4), (13, 0), (0, 3), (11, 0), (0, 2), (9, 0), (0, 1), (3, 4), (3, 3), (3, 2), (3, 1), (3, 0), (0, 0), (1, 0)] 102092 L d58) _
  refine vmWp.ret rfl rfl ?_
  show vmWp 221 135 [(1, .ref 15), (0, .ref 0)] [.ref 38, .ref 0] (wK 42 [(38, 1), (38, 0), (38, 4), (38, 3), (38, 2), (0, 6), (20, 8), (33, 2), (33, 1), (33, 0), (33, 6), (33, 5), (33, 4), (33, 3), (20, 7), (28, 1), (28, 0), (28, 5), (28, 4), (28, 3), (28, 2), (20, 6), (24, 1), (24, 0), (24, 4), (24, 3), (24, 2), (20, 3), (20, 2), (20, 1), (20, 0), (20, 5), (22, 0), (20, 4), (0, 5), (19, 2), (19, 1), (19, 0), (15, 2), (15, 1), (15, 0), (0, 4), (13, 0), (0, 3), (11, 0), (0, 2), (9, 0), (0, 1), (3, 4), (3, 3), (3, 2), (3, 1), (3, 0), (0, 0), (1, 0)] 102092 L d58) _
  refine ct_putr rfl rfl rfl rfl rfl ?_
  show vmWp 221 138 [(1, .ref 15), (0, .ref 0)] [] (wK 42 [(0, 7), (38, 1), (38, 0), (38, 4), (38, 3), (38, 2), (0, 6), (20, 8), (33, 2), (33, 1), (33, 0), (33, 6), (33, 5), (33, 4), (33, 3), (20, 7), (28, 1), (28, 0), (28, 5), (28, 4), (28, 3), (28, 2), (20, 6), (24, 1), (24, 0), (24, 4), (24, 3), (24, 2), (20, 3), (20, 2), (20, 1), (20, 0), (20, 5), (22, 0), (20, 4), (0, 5), (19, 2), (19, 1), (19, 0), (15, 2), (15, 1), (15, 0), (0, 4), (13, 0), (0, 3), (11, 0), (0, 2), (9, 0), (0, 1), (3, 4), (3, 3), (3, 2), (3, 1), (3, 0), (0, 0), (1, 0)] 102092 L d58) _
  refine vmWp.ret rfl rfl ?_
  show vmWp 406 7 [(0, .ref 1000)] [.ref 0] (wK 42 [(0, 7), (38, 1), (38, 0), (38, 4), (38, 3), (38, 2), (0, 6), (20, 8), (33, 2), (33, 1), (33, 0), (33, 6), (33, 5), (33, 4), (33, 3), (20, 7), (28, 1), (28, 0), (28, 5), (28, 4), (28, 3), (28, 2), (20, 6), (24, 1), (24, 0), (24, 4), (24, 3), (24, 2), (20, 3), (20, 2), (20, 1), (20, 0), (20, 5), (22, 0), (20, 4), (0, 5), (19, 2), (19, 1), (19, 0), (15, 2), (15, 1), (15, 0), (0, 4), (13, 0), (0, 3), (11, 0), (0, 2), (9, 0), (0, 1), (3, 4), (3, 3), (3, 2), (3, 1), (3, 0), (0, 0), (1, 0)] 102092 L d58) _
  refine st_go 1 (pc' := 8) (lo' := [(1, .ref 0), (0, .ref 1000)]) (st' := []) rfl ?_
  refine ct_new rfl rfl (by decide) rfl rfl rfl rfl z58 ?_
  have z58 := z58.up
  show vmWp 406 11 [(1, .ref 0), (0, .ref 1000)] [.ref 42] (wK 43 [(0, 7), (38, 1), (38, 0), (38, 4), (38, 3), (38, 2), (0, 6), (20, 8), (33, 2), (33, 1), (33, 0), (33, 6), (33, 5), (33, 4), (33, 3), (20, 7), (28, 1), (28, 0), (28, 5), (28, 4), (28, 3), (28, 2), (20, 6), (24, 1), (24, 0), (24, 4), (24, 3), (24, 2), (20, 3), (20, 2), (20, 1), (20, 0), (20, 5), (22, 0), (20, 4), (0, 5), (19, 2), (19, 1), (19, 0), (15, 2), (15, 1), (15, 0), (0, 4), (13, 0), (0, 3), (11, 0), (0, 2), (9, 0), (0, 1), (3, 4), (3, 3), (3, 2), (3, 1), (3, 0), (0, 0), (1, 0)] 102179 L d58) _
  refine st_go 1 (pc' := 12) (lo' := [(1, .ref 0), (0, .ref 1000)]) (st' := [.ref 42, .ref 42]) rfl ?_
  refine vmWp.call (k' := 242) (args := [.ref 42]) (rest := [.ref 42]) rfl rfl ?_
  show vmWp 242 0 [(0, .ref 42)] [] (wK 43 [(0, 7), (38, 1), (38, 0), (38, 4), (38, 3), (38, 2), (0, 6), (20, 8), (33, 2), (33, 1), (33, 0), (33, 6), (33, 5), (33, 4), (33, 3), (20, 7), (28, 1), (28, 0), (28, 5), (28, 4), (28, 3), (28, 2), (20, 6), (24, 1), (24, 0), (24, 4), (24, 3), (24, 2), (20, 3), (20, 2), (20, 1), (20, 0), (20, 5), (22, 0), (20, 4), (0, 5), (19, 2), (19, 1), (19, 0), (15, 2), (15, 1), (15, 0), (0, 4), (13, 0), (0, 3), (11, 0), (0, 2), (9, 0), (0, 1), (3, 4), (3, 3), (3, 2), (3, 1), (3, 0), (0, 0), (1, 0)] 102179 L d58) _
  refine st_go 4 (pc' := 8) (lo' := [(0, .ref 42)]) (st' := [.int 6000, .ref 42]) rfl ?_
  refine ct_arr (len := 6000) rfl rfl rfl (by decide) (by decide) rfl rfl rfl z58 ?_
  have z58 := z58.up
  show vmWp 242 10 [(0, .ref 42)] [.ref 43, .ref 42] (wK 44 [(0, 7), (38, 1), (38, 0), (38, 4), (38, 3), (38, 2), (0, 6), (20, 8), (33, 2), (33, 1), (33, 0), (33, 6), (33, 5), (33, 4), (33, 3), (20, 7), (28, 1), (28, 0), (28, 5), (28, 4), (28, 3), (28, 2), (20, 6), (24, 1), (24, 0), (24, 4), (24, 3), (24, 2), (20, 3), (20, 2), (20, 1), (20, 0), (20, 5), (22, 0), (20, 4), (0, 5), (19, 2), (19, 1), (19, 0), (15, 2), (15, 1), (15, 0), (0, 4), (13, 0), (0, 3), (11, 0), (0, 2), (9, 0), (0, 1), (3, 4), (3, 3), (3, 2), (3, 1), (3, 0), (0, 0), (1, 0)] 108179 L d58) _
  refine ct_putr rfl rfl rfl rfl rfl ?_
  show vmWp 242 13 [(0, .ref 42)] [] (wK 44 [(42, 0), (0, 7), (38, 1), (38, 0), (38, 4), (38, 3), (38, 2), (0, 6), (20, 8), (33, 2), (33, 1), (33, 0), (33, 6), (33, 5), (33, 4), (33, 3), (20, 7), (28, 1), (28, 0), (28, 5), (28, 4), (28, 3), (28, 2), (20, 6), (24, 1), (24, 0), (24, 4), (24, 3), (24, 2), (20, 3), (20, 2), (20, 1), (20, 0), (20, 5), (22, 0), (20, 4), (0, 5), (19, 2), (19, 1), (19, 0), (15, 2), (15, 1), (15, 0), (0, 4), (13, 0), (0, 3), (11, 0), (0, 2), (9, 0), (0, 1), (3, 4), (3, 3), (3, 2), (3, 1), (3, 0), (0, 0), (1, 0)] 108179 L d58) _
  refine st_go 2 (pc' := 17) (lo' := [(0, .ref 42)]) (st' := [.int 2400, .ref 42]) rfl ?_
  refine ct_arr (len := 2400) rfl rfl rfl (by decide) (by decide) rfl rfl rfl z58 ?_
  have z58 := z58.up
  show vmWp 242 19 [(0, .ref 42)] [.ref 44, .ref 42] (wK 45 [(42, 0), (0, 7), (38, 1), (38, 0), (38, 4), (38, 3), (38, 2), (0, 6), (20, 8), (33, 2), (33, 1), (33, 0), (33, 6), (33, 5), (33, 4), (33, 3), (20, 7), (28, 1), (28, 0), (28, 5), (28, 4), (28, 3), (28, 2), (20, 6), (24, 1), (24, 0), (24, 4), (24, 3), (24, 2), (20, 3), (20, 2), (20, 1), (20, 0), (20, 5), (22, 0), (20, 4), (0, 5), (19, 2), (19, 1), (19, 0), (15, 2), (15, 1), (15, 0), (0, 4), (13, 0), (0, 3), (11, 0), (0, 2), (9, 0), (0, 1), (3, 4), (3, 3), (3, 2), (3, 1), (3, 0), (0, 0), (1, 0)] 110579 L d58) _
  refine ct_putr rfl rfl rfl rfl rfl ?_
  show vmWp 242 22 [(0, .ref 42)] [] (wK 45 [(42, 10), (42, 0), (0, 7), (38, 1), (38, 0), (38, 4), (38, 3), (38, 2), (0, 6), (20, 8), (33, 2), (33, 1), (33, 0), (33, 6), (33, 5), (33, 4), (33, 3), (20, 7), (28, 1), (28, 0), (28, 5), (28, 4), (28, 3), (28, 2), (20, 6), (24, 1), (24, 0), (24, 4), (24, 3), (24, 2), (20, 3), (20, 2), (20, 1), (20, 0), (20, 5), (22, 0), (20, 4), (0, 5), (19, 2), (19, 1), (19, 0), (15, 2), (15, 1), (15, 0), (0, 4), (13, 0), (0, 3), (11, 0), (0, 2), (9, 0), (0, 1), (3, 4), (3, 3), (3, 2), (3, 1), (3, 0), (0, 0), (1, 0)] 110579 L d58) _
  refine st_go 2 (pc' := 26) (lo' := [(0, .ref 42)]) (st' := [.int 200, .ref 42]) rfl ?_
  refine ct_arr (len := 200) rfl rfl rfl (by decide) (by decide) rfl rfl rfl z58 ?_
  have z58 := z58.up
  show vmWp 242 28 [(0, .ref 42)] [.ref 45, .ref 42] (wK 46 [(42, 10), (42, 0), (0, 7), (38, 1), (38, 0), (38, 4), (38, 3), (38, 2), (0, 6), (20, 8), (33, 2), (33, 1), (33, 0), (33, 6), (33, 5), (33, 4), (33, 3), (20, 7), (28, 1), (28, 0), (28, 5), (28, 4), (28, 3), (28, 2), (20, 6), (24, 1), (24, 0), (24, 4), (24, 3), (24, 2), (20, 3), (20, 2), (20, 1), (20, 0), (20, 5), (22, 0), (20, 4), (0, 5), (19, 2), (19, 1), (19, 0), (15, 2), (15, 1), (15, 0), (0, 4), (13, 0), (0, 3), (11, 0), (0, 2), (9, 0), (0, 1), (3, 4), (3, 3), (3, 2), (3, 1), (3, 0), (0, 0), (1, 0)] 110779 L d58) _
  refine ct_putr rfl rfl rfl rfl rfl ?_
  show vmWp 242 31 [(0, .ref 42)] [] (wK 46 [(42, 11), (42, 10), (42, 0), (0, 7), (38, 1), (38, 0), (38, 4), (38, 3), (38, 2), (0, 6), (20, 8), (33, 2), (33, 1), (33, 0), (33, 6), (33, 5), (33, 4), (33, 3), (20, 7), (28, 1), (28, 0), (28, 5), (28, 4), (28, 3), (28, 2), (20, 6), (24, 1), (24, 0), (24, 4), (24, 3), (24, 2), (20, 3), (20, 2), (20, 1), (20, 0), (20, 5), (22, 0), (20, 4), (0, 5), (19, 2), (19, 1), (19, 0), (15, 2), (15, 1), (15, 0), (0, 4), (13, 0), (0, 3), (11, 0), (0, 2), (9, 0), (0, 1), (3, 4), (3, 3), (3, 2), (3, 1), (3, 0), (0, 0), (1, 0)] 110779 L d58) _
  refine st_go 2 (pc' := 35) (lo' := [(0, .ref 42)]) (st' := [.int 200, .ref 42]) rfl ?_
  refine ct_arr (len := 200) rfl rfl rfl (by decide) (by decide) rfl rfl rfl z58 ?_
  have z58 := z58.up
  show vmWp 242 37 [(0, .ref 42)] [.ref 46, .ref 42] (wK 47 [(42, 11), (42, 10), (42, 0), (0, 7), (38, 1), (38, 0), (38, 4), (38, 3), (38, 2), (0, 6), (20, 8), (33, 2), (33, 1), (33, 0), (33, 6), (33, 5), (33, 4), (33, 3), (20, 7), (28, 1), (28, 0), (28, 5), (28, 4), (28, 3), (28, 2), (20, 6), (24, 1), (24, 0), (24, 4), (24, 3), (24, 2), (20, 3), (20, 2), (20, 1), (20, 0), (20, 5), (22, 0), (20, 4), (0, 5), (19, 2), (19, 1), (19, 0), (15, 2), (15, 1), (15, 0), (0, 4), (13, 0), (0, 3), (11, 0), (0, 2), (9, 0), (0, 1), (3, 4), (3, 3), (3, 2), (3, 1), (3, 0), (0, 0), (1, 0)] 110979 L d58) _
  refine ct_putr rfl rfl rfl rfl rfl ?_
  show vmWp 242 40 [(0, .ref 42)] [] (wK 47 [(42, 12), (42, 11), (42, 10), (42, 0), (0, 7), (38, 1), (38, 0), (38, 4), (38, 3), (38, 2), (0, 6), (20, 8), (33, 2), (33, 1), (33, 0), (33, 6), (33, 5), (33, 4), (33, 3), (20, 7), (28, 1), (28, 0), (28, 5), (28, 4), (28, 3), (28, 2), (20, 6), (24, 1), (24, 0), (24, 4), (24, 3), (24, 2), (20, 3), (20, 2), (20, 1), (20, 0), (20, 5), (22, 0), (20, 4), (0, 5), (19, 2), (19, 1), (19, 0), (15, 2), (15, 1), (15, 0), (0, 4), (13, 0), (0, 3), (11, 0), (0, 2), (9, 0), (0, 1), (3, 4), (3, 3), (3, 2), (3, 1), (3, 0), (0, 0), (1, 0)] 110979 L d58) _
  refine st_go 2 (pc' := 44) (lo' := [(0, .ref 42)]) (st' := [.int 400, .ref 42]) rfl ?_
  refine ct_arr (len := 400) rfl rfl rfl (by decide) (by decide) rfl rfl rfl z58 ?_
  have z58 := z58.up
  show vmWp 242 46 [(0, .ref 42)] [.ref 47, .ref 42] (wK 48 [(42, 12), (42, 11), (42, 10), (42, 0), (0, 7), (38, 1), (38, 0), (38, 4), (38, 3), (38, 2), (0, 6), (20, 8), (33, 2), (33, 1), (33, 0), (33, 6), (33, 5), (33, 4), (33, 3), (20, 7), (28, 1), (28, 0), (28, 5), (28, 4), (28, 3), (28, 2), (20, 6), (24, 1), (24, 0), (24, 4), (24, 3), (24, 2), (20, 3), (20, 2), (20, 1), (20, 0), (20, 5), (22, 0), (20, 4), (0, 5), (19, 2), (19, 1), (19, 0), (15, 2), (15, 1), (15, 0), (0, 4), (13, 0), (0, 3), (11, 0), (0, 2), (9, 0), (0, 1), (3, 4), (3, 3), (3, 2), (3, 1), (3, 0), (0, 0), (1, 0)] 111379 L d58) _
  refine ct_putr rfl rfl rfl rfl rfl ?_
  show vmWp 242 49 [(0, .ref 42)] [] (wK 48 [(42, 14), (42, 12), (42, 11), (42, 10), (42, 0), (0, 7), (38, 1), (38, 0), (38, 4), (38, 3), (38, 2), (0, 6), (20, 8), (33, 2), (33, 1), (33, 0), (33, 6), (33, 5), (33, 4), (33, 3), (20, 7), (28, 1), (28, 0), (28, 5), (28, 4), (28, 3), (28, 2), (20, 6), (24, 1), (24, 0), (24, 4), (24, 3), (24, 2), (20, 3), (20, 2), (20, 1), (20, 0), (20, 5), (22, 0), (20, 4), (0, 5), (19, 2), (19, 1), (19, 0), (15, 2), (15, 1), (15, 0), (0, 4), (13, 0), (0, 3), (11, 0), (0, 2), (9, 0), (0, 1), (3, 4), (3, 3), (3, 2), (3, 1), (3, 0), (0, 0), (1, 0)] 111379 L d58) _
  refine st_go 2 (pc' := 53) (lo' := [(0, .ref 42)]) (st' := [.int 400, .ref 42]) rfl ?_
  refine ct_arr (len := 400) rfl rfl rfl (by decide) (by decide) rfl rfl rfl z58 ?_
  have z58 := z58.up
  show vmWp 242 55 [(0, .ref 42)] [.ref 48, .ref 42] (wK 49 [(42, 14), (42, 12), (42, 11), (42, 10), (42, 0), (0, 7), (38, 1), (38, 0), (38, 4), (38, 3), (38, 2), (0, 6), (20, 8), (33, 2), (33, 1), (33, 0), (33, 6), (33, 5), (33, 4), (33, 3), (20, 7), (28, 1), (28, 0), (28, 5), (28, 4), (28, 3), (28, 2), (20, 6), (24, 1), (24, 0), (24, 4), (24, 3), (24, 2), (20, 3), (20, 2), (20, 1), (20, 0), (20, 5), (22, 0), (20, 4), (0, 5), (19, 2), (19, 1), (19, 0), (15, 2), (15, 1), (15, 0), (0, 4), (13, 0), (0, 3), (11, 0), (0, 2), (9, 0), (0, 1), (3, 4), (3, 3), (3, 2), (3, 1), (3, 0), (0, 0), (1, 0)] 111779 L d58) _
  refine ct_putr rfl rfl rfl rfl rfl ?_
  show vmWp 242 58 [(0, .ref 42)] [] (wK 49 [(42, 15), (42, 14), (42, 12), (42, 11), (42, 10), (42, 0), (0, 7), (38, 1), (38, 0), (38, 4), (38, 3), (38, 2), (0, 6), (20, 8), (33, 2), (33, 1), (33, 0), (33, 6), (33, 5), (33, 4), (33, 3), (20, 7), (28, 1), (28, 0), (28, 5), (28, 4), (28, 3), (28, 2), (20, 6), (24, 1), (24, 0), (24, 4), (24, 3), (24, 2), (20, 3), (20, 2), (20, 1), (20, 0), (20, 5), (22, 0), (20, 4), (0, 5), (19, 2), (19, 1), (19, 0), (15, 2), (15, 1), (15, 0), (0, 4), (13, 0), (0, 3), (11, 0), (0, 2), (9, 0), (0, 1), (3, 4), (3, 3), (3, 2), (3, 1), (3, 0), (0, 0), (1, 0)] 111779 L d58) _
  refine st_go 2 (pc' := 62) (lo' := [(0, .ref 42)]) (st' := [.int 400, .ref 42]) rfl ?_
  refine ct_arr (len := 400) rfl rfl rfl (by decide) (by decide) rfl rfl rfl z58 ?_
  have z58 := z58.up
  show vmWp 242 64 [(0, .ref 42)] [.ref 49, .ref 42] (wK 50 [(42, 15), (42, 14), (42, 12), (42, 11), (42, 10), (42, 0), (0, 7), (38, 1), (38, 0), (38, 4), (38, 3), (38, 2), (0, 6), (20, 8), (33, 2), (33, 1), (33, 0), (33, 6), (33, 5), (33, 4), (33, 3), (20, 7), (28, 1), (28, 0), (28, 5), (28, 4), (28, 3), (28, 2), (20, 6), (24, 1), (24, 0), (24, 4), (24, 3), (24, 2), (20, 3), (20, 2), (20, 1), (20, 0), (20, 5), (22, 0), (20, 4), (0, 5), (19, 2), (19, 1), (19, 0), (15, 2), (15, 1), (15, 0), (0, 4), (13, 0), (0, 3), (11, 0), (0, 2), (9, 0), (0, 1), (3, 4), (3, 3), (3, 2), (3, 1), (3, 0), (0, 0), (1, 0)] 112179 L d58) _
  refine ct_putr rfl rfl rfl rfl rfl ?_
  show vmWp 242 67 [(0, .ref 42)] [] (wK 50 [(42, 17), (42, 15), (42, 14), (42, 12), (42, 11), (42, 10), (42, 0), (0, 7), (38, 1), (38, 0), (38, 4), (38, 3), (38, 2), (0, 6), (20, 8), (33, 2), (33, 1), (33, 0), (33, 6), (33, 5), (33, 4), (33, 3), (20, 7), (28, 1), (28, 0), (28, 5), (28, 4), (28, 3), (28, 2), (20, 6), (24, 1), (24, 0), (24, 4), (24, 3), (24, 2), (20, 3), (20, 2), (20, 1), (20, 0), (20, 5), (22, 0), (20, 4), (0, 5), (19, 2), (19, 1), (19, 0), (15, 2), (15, 1), (15, 0), (0, 4), (13, 0), (0, 3), (11, 0), (0, 2), (9, 0), (0, 1), (3, 4), (3, 3), (3, 2), (3, 1), (3, 0), (0, 0), (1, 0)] 112179 L d58) _
  refine st_go 2 (pc' := 70) (lo' := [(0, .ref 42)]) (st' := [.int 8, .ref 42]) rfl ?_
  refine ct_arr (len := 8) rfl rfl rfl (by decide) (by decide) rfl rfl rfl z58 ?_
  have z58 := z58.up
  show vmWp 242 72 [(0, .ref 42)] [.ref 50, .ref 42] (wK 51 [(42, 17), (42, 15), (42, 14), (42, 12), (42, 11), (42, 10), (42, 0), (0, 7), (38, 1), (38, 0), (38, 4), (38, 3), (38, 2), (0, 6), (20, 8), (33, 2), (33, 1), (33, 0), (33, 6), (33, 5), (33, 4), (33, 3), (20, 7), (28, 1), (28, 0), (28, 5), (28, 4), (28, 3), (28, 2), (20, 6), (24, 1), (24, 0), (24, 4), (24, 3), (24, 2), (20, 3), (20, 2), (20, 1), (20, 0), (20, 5), (22, 0), (20, 4), (0, 5), (19, 2), (19, 1), (19, 0), (15, 2), (15, 1), (15, 0), (0, 4), (13, 0), (0, 3), (11, 0), (0, 2), (9, 0), (0, 1), (3, 4), (3, 3), (3, 2), (3, 1), (3, 0), (0, 0), (1, 0)] 112187 L d58) _
  refine ct_putr rfl rfl rfl rfl rfl ?_
  show vmWp 242 75 [(0, .ref 42)] [] (wK 51 [(42, 23), (42, 17), (42, 15), (42, 14), (42, 12), (42, 11), (42, 10), (42, 0), (0, 7), (38, 1), (38, 0), (38, 4), (38, 3), (38, 2), (0, 6), (20, 8), (33, 2), (33, 1), (33, 0), (33, 6), (33, 5), (33, 4), (33, 3), (20, 7), (28, 1), (28, 0), (28, 5), (28, 4), (28, 3), (28, 2), (20, 6), (24, 1), (24, 0), (24, 4), (24, 3), (24, 2), (20, 3), (20, 2), (20, 1), (20, 0), (20, 5), (22, 0), (20, 4), (0, 5), (19, 2), (19, 1), (19, 0), (15, 2), (15, 1), (15, 0), (0, 4), (13, 0), (0, 3), (11, 0), (0, 2), (9, 0), (0, 1), (3, 4), (3, 3), (3, 2), (3, 1), (3, 0), (0, 0), (1, 0)] 112187 L d58) _
  refine st_go 2 (pc' := 78) (lo' := [(0, .ref 42)]) (st' := [.int 8, .ref 42]) rfl ?_
  refine ct_arr (len := 8) rfl rfl rfl (by decide) (by decide) rfl rfl rfl z58 ?_
  have z58 := z58.up
  show vmWp 242 80 [(0, .ref 42)] [.ref 51, .ref 42] (wK 52 [(42, 23), (42, 17), (42, 15), (42, 14), (42, 12), (42, 11), (42, 10), (42, 0), (0, 7), (38, 1), (38, 0), (38, 4), (38, 3), (38, 2), (0, 6), (20, 8), (33, 2), (33, 1), (33, 0), (33, 6), (33, 5), (33, 4), (33, 3), (20, 7), (28, 1), (28, 0), (28, 5), (28, 4), (28, 3), (28, 2), (20, 6), (24, 1), (24, 0), (24, 4), (24, 3), (24, 2), (20, 3), (20, 2), (20, 1), (20, 0), (20, 5), (22, 0), (20, 4), (0, 5), (19, 2), (19, 1), (19, 0), (15, 2), (15, 1), (15, 0), (0, 4), (13, 0), (0, 3), (11, 0), (0, 2), (9, 0), (0, 1), (3, 4), (3, 3), (3, 2), (3, 1), (3, 0), (0, 0), (1, 0)] 112195 L d58) _
  refine ct_putr rfl rfl rfl rfl rfl ?_
  show vmWp 242 83 [(0, .ref 42)] [] (wK 52 [(42, 24), (42, 23), (42, 17), (42, 15), (42, 14), (42, 12), (42, 11), (42, 10), (42, 0), (0, 7), (38, 1), (38, 0), (38, 4), (38, 3), (38, 2), (0, 6), (20, 8), (33, 2), (33, 1), (33, 0), (33, 6), (33, 5), (33, 4), (33, 3), (20, 7), (28, 1), (28, 0), (28, 5), (28, 4), (28, 3), (28, 2), (20, 6), (24, 1), (24, 0), (24, 4), (24, 3), (24, 2), (20, 3), (20, 2), (20, 1), (20, 0), (20, 5), (22, 0), (20, 4), (0, 5), (19, 2), (19, 1), (19, 0), (15, 2), (15, 1), (15, 0), (0, 4), (13, 0), (0, 3), (11, 0), (0, 2), (9, 0), (0, 1), (3, 4), (3, 3), (3, 2), (3, 1), (3, 0), (0, 0), (1, 0)] 112195 L d58) _
  refine st_go 2 (pc' := 86) (lo' := [(0, .ref 42)]) (st' := [.int 8, .ref 42]) rfl ?_
  refine ct_arr (len := 8) rfl rfl rfl (by decide) (by decide) rfl rfl rfl z58 ?_
  have z58 := z58.up
  show vmWp 242 88 [(0, .ref 42)] [.ref 52, .ref 42] (wK 53 [(42, 24), (42, 23), (42, 17), (42, 15), (42, 14), (42, 12), (42, 11), (42, 10), (42, 0), (0, 7), (38, 1), (38, 0), (38, 4), (38, 3), (38, 2), (0, 6), (20, 8), (33, 2), (33, 1), (33, 0), (33, 6), (33, 5), (33, 4), (33, 3), (20, 7), (28, 1), (28, 0), (28, 5), (28, 4), (28, 3), (28, 2), (20, 6), (24, 1), (24, 0), (24, 4), (24, 3), (24, 2), (20, 3), (20, 2), (20, 1), (20, 0), (20, 5), (22, 0), (20, 4), (0, 5), (19, 2), (19, 1), (19, 0), (15, 2), (15, 1), (15, 0), (0, 4), (13, 0), (0, 3), (11, 0), (0, 2), (9, 0), (0, 1), (3, 4), (3, 3), (3, 2), (3, 1), (3, 0), (0, 0), (1, 0)] 112203 L d58) _
  refine ct_putr rfl rfl rfl rfl rfl ?_
  show vmWp 242 91 [(0, .ref 42)] [] (wK 53 [(42, 25), (42, 24), (42, 23), (42, 17), (42, 15), (42, 14), (42, 12), (42, 11), (42, 10), (42, 0), (0, 7), (38, 1), (38, 0), (38, 4), (38, 3), (38, 2), (0, 6), (20, 8), (33, 2), (33, 1), (33, 0), (33, 6), (33, 5), (33, 4), (33, 3), (20, 7), (28, 1), (28, 0), (28, 5), (28, 4), (28, 3), (28, 2), (20, 6), (24, 1), (24, 0), (24, 4), (24, 3), (24, 2), (20, 3), (20, 2), (20, 1), (20, 0), (20, 5), (22, 0), (20, 4), (0, 5), (19, 2), (19, 1), (19, 0), (15, 2), (15, 1), (15, 0), (0, 4), (13, 0), (0, 3), (11, 0), (0, 2), (9, 0), (0, 1), (3, 4), (3, 3), (3, 2), (3, 1), (3, 0), (0, 0), (1, 0)] 112203 L d58) _
  refine st_go 2 (pc' := 94) (lo' := [(0, .ref 42)]) (st' := [.int 8, .ref 42]) rfl ?_
  refine ct_arr (len := 8) rfl rfl rfl (by decide) (by decide) rfl rfl rfl z58 ?_
  have z58 := z58.up
  show vmWp 242 96 [(0, .ref 42)] [.ref 53, .ref 42] (wK 54 [(42, 25), (42, 24), (42, 23), (42, 17), (42, 15), (42, 14), (42, 12), (42, 11), (42, 10), (42, 0), (0, 7), (38, 1), (38, 0), (38, 4), (38, 3), (38, 2), (0, 6), (20, 8), (33, 2), (33, 1), (33, 0), (33, 6), (33, 5), (33, 4), (33, 3), (20, 7), (28, 1), (28, 0), (28, 5), (28, 4), (28, 3), (28, 2), (20, 6), (24, 1), (24, 0), (24, 4), (24, 3), (24, 2), (20, 3), (20, 2), (20, 1), (20, 0), (20, 5), (22, 0), (20, 4), (0, 5), (19, 2), (19, 1), (19, 0), (15, 2), (15, 1), (15, 0), (0, 4), (13, 0), (0, 3), (11, 0), (0, 2), (9, 0), (0, 1), (3, 4), (3, 3), (3, 2), (3, 1), (3, 0), (0, 0), (1, 0)] 112211 L d58) _
  refine ct_putr rfl rfl rfl rfl rfl ?_
  show vmWp 242 99 [(0, .ref 42)] [] (wK 54 [(42, 26), (42, 25), (42, 24), (42, 23), (42, 17), (42, 15), (42, 14), (42, 12), (42, 11), (42, 10), (42, 0), (0, 7), (38, 1), (38, 0), (38, 4), (38, 3), (38, 2), (0, 6), (20, 8), (33, 2), (33, 1), (33, 0), (33, 6), (33, 5), (33, 4), (33, 3), (20, 7), (28, 1), (28, 0), (28, 5), (28, 4), (28, 3), (28, 2), (20, 6), (24, 1), (24, 0), (24, 4), (24, 3), (24, 2), (20, 3), (20, 2), (20, 1), (20, 0), (20, 5), (22, 0), (20, 4), (0, 5), (19, 2), (19, 1), (19, 0), (15, 2), (15, 1), (15, 0), (0, 4), (13, 0), (0, 3), (11, 0), (0, 2), (9, 0), (0, 1), (3, 4), (3, 3), (3, 2), (3, 1), (3, 0), (0, 0), (1, 0)] 112211 L d58) _
  refine st_go 2 (pc' := 102) (lo' := [(0, .ref 42)]) (st' := [.int 8, .ref 42]) rfl ?_
  refine ct_arr (len := 8) rfl rfl rfl (by decide) (by decide) rfl rfl rfl z58 ?_
  have z58 := z58.up
  show vmWp 242 104 [(0, .ref 42)] [.ref 54, .ref 42] (wK 55 [(42, 26), (42, 25), (42, 24), (42, 23), (42, 17), (42, 15), (42, 14), (42, 12), (42, 11), (42, 10), (42, 0), (0, 7), (38, 1), (38, 0), (38, 4), (38, 3), (38, 2), (0, 6), (20, 8), (33, 2), (33, 1), (33, 0), (33, 6), (33, 5), (33, 4), (33, 3), (20, 7), (28, 1), (28, 0), (28, 5), (28, 4), (28, 3), (28, 2), (20, 6), (24, 1), (24, 0), (24, 4), (24, 3), (24, 2), (20, 3), (20, 2), (20, 1), (20, 0), (20, 5), (22, 0), (20, 4), (0, 5), (19, 2), (19, 1), (19, 0), (15, 2), (15, 1), (15, 0), (0, 4), (13, 0), (0, 3), (11, 0), (0, 2), (9, 0), (0, 1), (3, 4), (3, 3), (3, 2), (3, 1), (3, 0), (0, 0), (1, 0)] 112219 L d58) _
  refine ct_putr rfl rfl rfl rfl rfl ?_
  show vmWp 242 107 [(0, .ref 42)] [] (wK 55 [(42, 27), (42, 26), (42, 25), (42, 24), (42, 23), (42, 17), (42, 15), (42, 14), (42, 12), (42, 11), (42, 10), (42, 0), (0, 7), (38, 1), (38, 0), (38, 4), (38, 3), (38, 2), (0, 6), (20, 8), (33, 2), (33, 1), (33, 0), (33, 6), (33, 5), (33, 4), (33, 3), (20, 7), (28, 1), (28, 0), (28, 5), (28, 4), (28, 3), (28, 2), (20, 6), (24, 1), (24, 0), (24, 4), (24, 3), (24, 2), (20, 3), (20, 2), (20, 1), (20, 0), (20, 5), (22, 0), (20, 4), (0, 5), (19, 2), (19, 1), (19, 0), (15, 2), (15, 1), (15, 0), (0, 4), (13, 0), (0, 3), (11, 0), (0, 2), (9, 0), (0, 1), (3, 4), (3, 3), (3, 2), (3, 1), (3, 0), (0, 0), (1, 0)] 112219 L d58) _
  refine st_go 2 (pc' := 110) (lo' := [(0, .ref 42)]) (st' := [.int 65536, .ref 42]) rfl ?_
  refine ct_arr (len := 65536) rfl rfl rfl (by decide) (by decide) rfl rfl rfl z58 ?_
  have z58 := z58.up
  show vmWp 242 112 [(0, .ref 42)] [.ref 55, .ref 42] (wK 56 [(42, 27), (42, 26), (42, 25), (42, 24), (42, 23), (42, 17), (42, 15), (42, 14), (42, 12), (42, 11), (42, 10), (42, 0), (0, 7), (38, 1), (38, 0), (38, 4), (38, 3), (38, 2), (0, 6), (20, 8), (33, 2), (33, 1), (33, 0), (33, 6), (33, 5), (33, 4), (33, 3), (20, 7), (28, 1), (28, 0), (28, 5), (28, 4), (28, 3), (28, 2), (20, 6), (24, 1), (24, 0), (24, 4), (24, 3), (24, 2), (20, 3), (20, 2), (20, 1), (20, 0), (20, 5), (22, 0), (20, 4), (0, 5), (19, 2), (19, 1), (19, 0), (15, 2), (15, 1), (15, 0), (0, 4), (13, 0), (0, 3), (11, 0), (0, 2), (9, 0), (0, 1), (3, 4), (3, 3), (3, 2), (3, 1), (3, 0), (0, 0), (1, 0)] 177755 L d58) _
  refine ct_putr rfl rfl rfl rfl rfl ?_
  show vmWp 242 115 [(0, .ref 42)] [] (wK 56 [(42, 37), (42, 27), (42, 26), (42, 25), (42, 24), (42, 23), (42, 17), (42, 15), (42, 14), (42, 12), (42, 11), (42, 10), (42, 0), (0, 7), (38, 1), (38, 0), (38, 4), (38, 3), (38, 2), (0, 6), (20, 8), (33, 2), (33, 1), (33, 0), (33, 6), (33, 5), (33, 4), (33, 3), (20, 7), (28, 1), (28, 0), (28, 5), (28, 4), (28, 3), (28, 2), (20, 6), (24, 1), (24, 0), (24, 4), (24, 3), (24, 2), (20, 3), (20, 2), (20, 1), (20, 0), (20, 5), (22, 0), (20, 4), (0, 5), (19, 2), (19, 1), (19, 0), (15, 2), (15, 1), (15, 0), (0, 4), (13, 0), (0, 3), (11, 0), (0, 2), (9, 0), (0, 1), (3, 4), (3, 3), (3, 2), (3, 1), (3, 0), (0, 0), (1, 0)] 177755 L d58) _
  refine st_go 2 (pc' := 118) (lo' := [(0, .ref 42)]) (st' := [.int 65536, .ref 42]) rfl ?_
  refine ct_arr (len := 65536) rfl rfl rfl (by decide) (by decide) rfl rfl rfl z58 ?_
  have z58 := z58.up
  show vmWp 242 120 [(0, .ref 42)] [.ref 56, .ref 42] (wK 57 [(42, 37), (42, 27), (42, 26), (42, 25), (42, 24), (42, 23), (42, 17), (42, 15), (42, 14), (42, 12), (42, 11), (42, 10), (42, 0), (0, 7), (38, 1), (38, 0), (38, 4), (38, 3), (38, 2), (0, 6), (20, 8), (33, 2), (33, 1), (33, 0), (33, 6), (33, 5), (33, 4), (33, 3), (20, 7), (28, 1), (28, 0), (28, 5), (28, 4), (28, 3), (28, 2), (20, 6), (24, 1), (24, 0), (24, 4), (24, 3), (24, 2), (20, 3), (20, 2), (20, 1), (20, 0), (20, 5), (22, 0), (20, 4), (0, 5), (19, 2), (19, 1), (19, 0), (15, 2), (15, 1), (15, 0), (0, 4), (13, 0), (0, 3), (11, 0), (0, 2), (9, 0), (0, 1), (3, 4), (3, 3), (3, 2), (3, 1), (3, 0), (0, 0), (1, 0)] 243291 L d58) _
  refine ct_putr rfl rfl rfl rfl rfl ?_
  show vmWp 242 123 [(0, .ref 42)] [] (wK 57 [(42, 38), (42, 37), (42, 27), (42, 26), (42, 25), (42, 24), (42, 23), (42, 17), (42, 15), (42, 14), (42, 12), (42, 11), (42, 10), (42, 0), (0, 7), (38, 1), (38, 0), (38, 4), (38, 3), (38, 2), (0, 6), (20, 8), (33, 2), (33, 1), (33, 0), (33, 6), (33, 5), (33, 4), (33, 3), (20, 7), (28, 1), (28, 0), (28, 5), (28, 4), (28, 3), (28, 2), (20, 6), (24, 1), (24, 0), (24, 4), (24, 3), (24, 2), (20, 3), (20, 2), (20, 1), (20, 0), (20, 5), (22, 0), (20, 4), (0, 5), (19, 2), (19, 1), (19, 0), (15, 2), (15, 1), (15, 0), (0, 4), (13, 0), (0, 3), (11, 0), (0, 2), (9, 0), (0, 1), (3, 4), (3, 3), (3, 2), (3, 1), (3, 0), (0, 0), (1, 0)] 243291 L d58) _
  refine st_go 2 (pc' := 126) (lo' := [(0, .ref 42)]) (st' := [.int 9, .ref 42]) rfl ?_
  refine ct_arr (len := 9) rfl rfl rfl (by decide) (by decide) rfl rfl rfl z58 ?_
  have z58 := z58.up
  show vmWp 242 128 [(0, .ref 42)] [.ref 57, .ref 42] (wK 58 [(42, 38), (42, 37), (42, 27), (42, 26), (42, 25), (42, 24), (42, 23), (42, 17), (42, 15), (42, 14), (42, 12), (42, 11), (42, 10), (42, 0), (0, 7), (38, 1), (38, 0), (38, 4), (38, 3), (38, 2), (0, 6), (20, 8), (33, 2), (33, 1), (33, 0), (33, 6), (33, 5), (33, 4), (33, 3), (20, 7), (28, 1), (28, 0), (28, 5), (28, 4), (28, 3), (28, 2), (20, 6), (24, 1), (24, 0), (24, 4), (24, 3), (24, 2), (20, 3), (20, 2), (20, 1), (20, 0), (20, 5), (22, 0), (20, 4), (0, 5), (19, 2), (19, 1), (19, 0), (15, 2), (15, 1), (15, 0), (0, 4), (13, 0), (0, 3), (11, 0), (0, 2), (9, 0), (0, 1), (3, 4), (3, 3), (3, 2), (3, 1), (3, 0), (0, 0), (1, 0)] 243300 L d58) _
  refine ct_putr rfl rfl rfl rfl rfl ?_
  show vmWp 242 131 [(0, .ref 42)] [] (wK 58 [(42, 43), (42, 38), (42, 37), (42, 27), (42, 26), (42, 25), (42, 24), (42, 23), (42, 17), (42, 15), (42, 14), (42, 12), (42, 11), (42, 10), (42, 0), (0, 7), (38, 1), (38, 0), (38, 4), (38, 3), (38, 2), (0, 6), (20, 8), (33, 2), (33, 1), (33, 0), (33, 6), (33, 5), (33, 4), (33, 3), (20, 7), (28, 1), (28, 0), (28, 5), (28, 4), (28, 3), (28, 2), (20, 6), (24, 1), (24, 0), (24, 4), (24, 3), (24, 2), (20, 3), (20, 2), (20, 1), (20, 0), (20, 5), (22, 0), (20, 4), (0, 5), (19, 2), (19, 1), (19, 0), (15, 2), (15, 1), (15, 0), (0, 4), (13, 0), (0, 3), (11, 0), (0, 2), (9, 0), (0, 1), (3, 4), (3, 3), (3, 2), (3, 1), (3, 0), (0, 0), (1, 0)] 243300 L d58) _
  refine st_go 2 (pc' := 134) (lo' := [(0, .ref 42)]) (st' := [.int 9, .ref 42]) rfl ?_
  refine ct_arr (len := 9) rfl rfl rfl (by decide) (by decide) rfl rfl rfl z58 ?_
  have z58 := z58.up
  show vmWp 242 136 [(0, .ref 42)] [.ref 58, .ref 42] (wK 59 [(42, 43), (42, 38), (42, 37), (42, 27), (42, 26), (42, 25), (42, 24), (42, 23), (42, 17), (42, 15), (42, 14), (42, 12), (42, 11), (42, 10), (42, 0), (0, 7), (38, 1), (38, 0), (38, 4), (38, 3), (38, 2), (0, 6), (20, 8), (33, 2), (33, 1), (33, 0), (33, 6), (33, 5), (33, 4), (33, 3), (20, 7), (28, 1), (28, 0), (28, 5), (28, 4), (28, 3), (28, 2), (20, 6), (24, 1), (24, 0), (24, 4), (24, 3), (24, 2), (20, 3), (20, 2), (20, 1), (20, 0), (20, 5), (22, 0), (20, 4), (0, 5), (19, 2), (19, 1), (19, 0), (15, 2), (15, 1), (15, 0), (0, 4), (13, 0), (0, 3), (11, 0), (0, 2), (9, 0), (0, 1), (3, 4), (3, 3), (3, 2), (3, 1), (3, 0), (0, 0), (1, 0)] 243309 L d58) _
  refine ct_putr rfl rfl rfl rfl rfl ?_
  show vmWp 242 139 [(0, .ref 42)] [] (wK 59 [(42, 44), (42, 43), (42, 38), (42, 37), (42, 27), (42, 26), (42, 25), (42, 24), (42, 23), (42, 17), (42, 15), (42, 14), (42, 12), (42, 11), (42, 10), (42, 0), (0, 7), (38, 1), (38, 0), (38, 4), (38, 3), (38, 2), (0, 6), (20, 8), (33, 2), (33, 1), (33, 0), (33, 6), (33, 5), (33, 4), (33, 3), (20, 7), (28, 1), (28, 0), (28, 5), (28, 4), (28, 3), (28, 2), (20, 6), (24, 1), (24, 0), (24, 4), (24, 3), (24, 2), (20, 3), (20, 2), (20, 1), (20, 0), (20, 5), (22, 0), (20, 4), (0, 5), (19, 2), (19, 1), (19, 0), (15, 2), (15, 1), (15, 0), (0, 4), (13, 0), (0, 3), (11, 0), (0, 2), (9, 0), (0, 1), (3, 4), (3, 3), (3, 2), (3, 1), (3, 0), (0, 0), (1, 0)] 243309 L d58) _
  refine st_go 2 (pc' := 143) (lo' := [(0, .ref 42)]) (st' := [.int 2400, .ref 42]) rfl ?_
  refine ct_arr (len := 2400) rfl rfl rfl (by decide) (by decide) rfl rfl rfl z58 ?_
  have z58 := z58.up
  show vmWp 242 145 [(0, .ref 42)] [.ref 59, .ref 42] (wK 60 [(42, 44), (42, 43), (42, 38), (42, 37), (42, 27), (42, 26), (42, 25), (42, 24), (42, 23), (42, 17), (42, 15), (42, 14), (42, 12), (42, 11), (42, 10), (42, 0), (0, 7), (38, 1), (38, 0), (38, 4), (38, 3), (38, 2), (0, 6), (20, 8), (33, 2), (33, 1), (33, 0), (33, 6), (33, 5), (33, 4), (33, 3), (20, 7), (28, 1), (28, 0), (28, 5), (28, 4), (28, 3), (28, 2), (20, 6), (24, 1), (24, 0), (24, 4), (24, 3), (24, 2), (20, 3), (20, 2), (20, 1), (20, 0), (20, 5), (22, 0), (20, 4), (0, 5), (19, 2), (19, 1), (19, 0), (15, 2), (15, 1), (15, 0), (0, 4), (13, 0), (0, 3), (11, 0), (0, 2), (9, 0), (0, 1), (3, 4), (3, 3), (3, 2), (3, 1), (3, 0), (0, 0), (1, 0)] 245709 L d58) _
  refine ct_putr rfl rfl rfl rfl rfl ?_
  show vmWp 242 148 [(0, .ref 42)] [] (wK 60 [(42, 52), (42, 44), (42, 43), (42, 38), (42, 37), (42, 27), (42, 26), (42, 25), (42, 24), (42, 23), (42, 17), (42, 15), (42, 14), (42, 12), (42, 11), (42, 10), (42, 0), (0, 7), (38, 1), (38, 0), (38, 4), (38, 3), (38, 2), (0, 6), (20, 8), (33, 2), (33, 1), (33, 0), (33, 6), (33, 5), (33, 4), (33, 3), (20, 7), (28, 1), (28, 0), (28, 5), (28, 4), (28, 3), (28, 2), (20, 6), (24, 1), (24, 0), (24, 4), (24, 3), (24, 2), (20, 3), (20, 2), (20, 1), (20, 0), (20, 5), (22, 0), (20, 4), (0, 5), (19, 2), (19, 1), (19, 0), (15, 2), (15, 1), (15, 0), (0, 4), (13, 0), (0, 3), (11, 0), (0, 2), (9, 0), (0, 1), (3, 4), (3, 3), (3, 2), (3, 1), (3, 0), (0, 0), (1, 0)] 245709 L d58) _
  refine st_go 2 (pc' := 152) (lo' := [(0, .ref 42)]) (st' := [.int 200, .ref 42]) rfl ?_
  refine ct_arr (len := 200) rfl rfl rfl (by decide) (by decide) rfl rfl rfl z58 ?_
  have z58 := z58.up
  show vmWp 242 154 [(0, .ref 42)] [.ref 60, .ref 42] (wK 61 [(42, 52), (42, 44), (42, 43), (42, 38), (42, 37), (42, 27), (42, 26), (42, 25), (42, 24), (42, 23), (42, 17), (42, 15), (42, 14), (42, 12), (42, 11), (42, 10), (42, 0), (0, 7), (38, 1), (38, 0), (38, 4), (38, 3), (38, 2), (0, 6), (20, 8), (33, 2), (33, 1), (33, 0), (33, 6), (33, 5), (33, 4), (33, 3), (20, 7), (28, 1), (28, 0), (28, 5), (28, 4), (28, 3), (28, 2), (20, 6), (24, 1), (24, 0), (24, 4), (24, 3), (24, 2), (20, 3), (20, 2), (20, 1), (20, 0), (20, 5), (22, 0), (20, 4), (0, 5), (19, 2), (19, 1), (19, 0), (15, 2), (15, 1), (15, 0), (0, 4), (13, 0), (0, 3), (11, 0), (0, 2), (9, 0), (0, 1), (3, 4), (3, 3), (3, 2), (3, 1), (3, 0), (0, 0), (1, 0)] 245909 L d58) _
  refine ct_putr rfl rfl rfl rfl rfl ?_
  show vmWp 242 157 [(0, .ref 42)] [] (wK 61 [(42, 53), (42, 52), (42, 44), (42, 43), (42, 38), (42, 37), (42, 27), (42, 26), (42, 25), (42, 24), (42, 23), (42, 17), (42, 15), (42, 14), (42, 12), (42, 11), (42, 10), (42, 0), (0, 7), (38, 1), (38, 0), (38, 4), (38, 3), (38, 2), (0, 6), (20, 8), (33, 2), (33, 1), (33, 0), (33, 6), (33, 5), (33, 4), (33, 3), (20, 7), (28, 1), (28, 0), (28, 5), (28, 4), (28, 3), (28, 2), (20, 6), (24, 1), (24, 0), (24, 4), (24, 3), (24, 2), (20, 3), (20, 2), (20, 1), (20, 0), (20, 5), (22, 0), (20, 4), (0, 5), (19, 2), (19, 1), (19, 0), (15, 2), (15, 1), (15, 0), (0, 4), (13, 0), (0, 3), (11, 0), (0, 2), (9, 0), (0, 1), (3, 4), (3, 3), (3, 2), (3, 1), (3, 0), (0, 0), (1, 0)] 245909 L d58) _
  refine st_go 2 (pc' := 161) (lo' := [(0, .ref 42)]) (st' := [.int 200, .ref 42]) rfl ?_
  refine ct_arr (len := 200) rfl rfl rfl (by decide) (by decide) rfl rfl rfl z58 ?_
  have z58 := z58.up
  show vmWp 242 163 [(0, .ref 42)] [.ref 61, .ref 42] (wK 62 [(42, 53), (42, 52), (42, 44), (42, 43), (42, 38), (42, 37), (42, 27), (42, 26), (42, 25), (42, 24), (42, 23), (42, 17), (42, 15), (42, 14), (42, 12), (42, 11), (42, 10), (42, 0), (0, 7), (38, 1), (38, 0), (38, 4), (38, 3), (38, 2), (0, 6), (20, 8), (33, 2), (33, 1), (33, 0), (33, 6), (33, 5), (33, 4), (33, 3), (20, 7), (28, 1), (28, 0), (28, 5), (28, 4), (28, 3), (28, 2), (20, 6), (24, 1), (24, 0), (24, 4), (24, 3), (24, 2), (20, 3), (20, 2), (20, 1), (20, 0), (20, 5), (22, 0), (20, 4), (0, 5), (19, 2), (19, 1), (19, 0), (15, 2), (15, 1), (15, 0), (0, 4), (13, 0), (0, 3), (11, 0), (0, 2), (9, 0), (0, 1), (3, 4), (3, 3), (3, 2), (3, 1), (3, 0), (0, 0), (1, 0)] 246109 L d58) _
  refine ct_putr rfl rfl rfl rfl rfl ?_
  show vmWp 242 166 [(0, .ref 42)] [] (wK 62 [(42, 54), (42, 53), (42, 52), (42, 44), (42, 43), (42, 38), (42, 37), (42, 27), (42, 26), (42, 25), (42, 24), (42, 23), (42, 17), (42, 15), (42, 14), (42, 12), (42, 11), (42, 10), (42, 0), (0, 7), (38, 1), (38, 0), (38, 4), (38, 3), (38, 2), (0, 6), (20, 8), (33, 2), (33, 1), (33, 0), (33, 6), (33, 5), (33, 4), (33, 3), (20, 7), (28, 1), (28, 0), (28, 5), (28, 4), (28, 3), (28, 2), (20, 6), (24, 1), (24, 0), (24, 4), (24, 3), (24, 2), (20, 3), (20, 2), (20, 1), (20, 0), (20, 5), (22, 0), (20, 4), (0, 5), (19, 2), (19, 1), (19, 0), (15, 2), (15, 1), (15, 0), (0, 4), (13, 0), (0, 3), (11, 0), (0, 2), (9, 0), (0, 1), (3, 4), (3, 3), (3, 2), (3, 1), (3, 0), (0, 0), (1, 0)] 246109 L d58) _
  refine st_go 2 (pc' := 169) (lo' := [(0, .ref 42)]) (st' := [.int 40, .ref 42]) rfl ?_
  refine ct_arr (len := 40) rfl rfl rfl (by decide) (by decide) rfl rfl rfl z58 ?_
  have z58 := z58.up
  show vmWp 242 171 [(0, .ref 42)] [.ref 62, .ref 42] (wK 63 [(42, 54), (42, 53), (42, 52), (42, 44), (42, 43), (42, 38), (42, 37), (42, 27), (42, 26), (42, 25), (42, 24), (42, 23), (42, 17), (42, 15), (42, 14), (42, 12), (42, 11), (42, 10), (42, 0), (0, 7), (38, 1), (38, 0), (38, 4), (38, 3), (38, 2), (0, 6), (20, 8), (33, 2), (33, 1), (33, 0), (33, 6), (33, 5), (33, 4), (33, 3), (20, 7), (28, 1), (28, 0), (28, 5), (28, 4), (28, 3), (28, 2), (20, 6), (24, 1), (24, 0), (24, 4), (24, 3), (24, 2), (20, 3), (20, 2), (20, 1), (20, 0), (20, 5), (22, 0), (20, 4), (0, 5), (19, 2), (19, 1), (19, 0), (15, 2), (15, 1), (15, 0), (0, 4), (13, 0), (0, 3), (11, 0), (0, 2), (9, 0), (0, 1), (3, 4), (3, 3), (3, 2), (3, 1), (3, 0), (0, 0), (1, 0)] 246149 L d58) _
  refine ct_putr rfl rfl rfl rfl rfl ?_
  show vmWp 242 174 [(0, .ref 42)] [] (wK 63 [(42, 65), (42, 54), (42, 53), (42, 52), (42, 44), (42, 43), (42, 38), (42, 37), (42, 27), (42, 26), (42, 25), (42, 24), (42, 23), (42, 17), (42, 15), (42, 14), (42, 12), (42, 11), (42, 10), (42, 0), (0, 7), (38, 1), (38, 0), (38, 4), (38, 3), (38, 2), (0, 6), (20, 8), (33, 2), (33, 1), (33, 0), (33, 6), (33, 5), (33, 4), (33, 3), (20, 7), (28, 1), (28, 0), (28, 5), (28, 4), (28, 3), (28, 2), (20, 6), (24, 1), (24, 0), (24, 4), (24, 3), (24, 2), (20, 3), (20, 2), (20, 1), (20, 0), (20, 5), (22, 0), (20, 4), (0, 5), (19, 2), (19, 1), (19, 0), (15, 2), (15, 1), (15, 0), (0, 4), (13, 0), (0, 3), (11, 0), (0, 2), (9, 0), (0, 1), (3, 4), (3, 3), (3, 2), (3, 1), (3, 0), (0, 0), (1, 0)] 246149 L d58) _
  refine st_go 2 (pc' := 177) (lo' := [(0, .ref 42)]) (st' := [.int 40, .ref 42]) rfl ?_
  refine ct_arr (len := 40) rfl rfl rfl (by decide) (by decide) rfl rfl rfl z58 ?_
  have z58 := z58.up
  show vmWp 242 179 [(0, .ref 42)] [.ref 63, .ref 42] (wK 64 [(42, 65), (42, 54), (42, 53), (42, 52), (42, 44), (42, 43), (42, 38), (42, 37), (42, 27), (42, 26), (42, 25), (42, 24), (42, 23), (42, 17), (42, 15), (42, 14), (42, 12), (42, 11), (42, 10), (42, 0), (0, 7), (38, 1), (38, 0), (38, 4), (38, 3), (38, 2), (0, 6), (20, 8), (33, 2), (33, 1), (33, 0), (33, 6), (33, 5), (33, 4), (33, 3), (20, 7), (28, 1), (28, 0), (28, 5), (28, 4), (28, 3), (28, 2), (20, 6), (24, 1), (24, 0), (24, 4), (24, 3), (24, 2), (20, 3), (20, 2), (20, 1), (20, 0), (20, 5), (22, 0), (20, 4), (0, 5), (19, 2), (19, 1), (19, 0), (15, 2), (15, 1), (15, 0), (0, 4), (13, 0), (0, 3), (11, 0), (0, 2), (9, 0), (0, 1), (3, 4), (3, 3), (3, 2), (3, 1), (3, 0), (0, 0), (1, 0)] 246189 L d58) _
  refine ct_putr rfl rfl rfl rfl rfl ?_
  show vmWp 242 182 [(0, .ref 42)] [] (wK 64 [(42, 67), (42, 65), (42, 54), (42, 53), (42, 52), (42, 44), (42, 43), (42, 38), (42, 37), (42, 27), (42, 26), (42, 25), (42, 24), (42, 23), (42, 17), (42, 15), (42, 14), (42, 12), (42, 11), (42, 10), (42, 0), (0, 7), (38, 1), (38, 0), (38, 4), (38, 3), (38, 2), (0, 6), (20, 8), (33, 2), (33, 1), (33, 0), (33, 6), (33, 5), (33, 4), (33, 3), (20, 7), (28, 1), (28, 0), (28, 5), (28, 4), (28, 3), (28, 2), (20, 6), (24, 1), (24, 0), (24, 4), (24, 3), (24, 2), (20, 3), (20, 2), (20, 1), (20, 0), (20, 5), (22, 0), (20, 4), (0, 5), (19, 2), (19, 1), (19, 0), (15, 2), (15, 1), (15, 0), (0, 4), (13, 0), (0, 3), (11, 0), (0, 2), (9, 0), (0, 1), (3, 4), (3, 3), (3, 2), (3, 1), (3, 0), (0, 0), (1, 0)] 246189 L d58) _
  refine st_go 2 (pc' := 186) (lo' := [(0, .ref 42)]) (st' := [.int 9000, .ref 42]) rfl ?_
  refine ct_arr (len := 9000) rfl rfl rfl (by decide) (by decide) rfl rfl rfl z58 ?_
  have z58 := z58.up
  show vmWp 242 188 [(0, .ref 42)] [.ref 64, .ref 42] (wK 65 [(42, 67), (42, 65), (42, 54), (42, 53), (42, 52), (42, 44), (42, 43), (42, 38), (42, 37), (42, 27), (42, 26), (42, 25), (42, 24), (42, 23), (42, 17), (42, 15), (42, 14), (42, 12), (42, 11), (42, 10), (42, 0), (0, 7), (38, 1), (38, 0), (38, 4), (38, 3), (38, 2), (0, 6), (20, 8), (33, 2), (33, 1), (33, 0), (33, 6), (33, 5), (33, 4), (33, 3), (20, 7), (28, 1), (28, 0), (28, 5), (28, 4), (28, 3), (28, 2), (20, 6), (24, 1), (24, 0), (24, 4), (24, 3), (24, 2), (20, 3), (20, 2), (20, 1), (20, 0), (20, 5), (22, 0), (20, 4), (0, 5), (19, 2), (19, 1), (19, 0), (15, 2), (15, 1), (15, 0), (0, 4), (13, 0), (0, 3), (11, 0), (0, 2), (9, 0), (0, 1), (3, 4), (3, 3), (3, 2), (3, 1), (3, 0), (0, 0), (1, 0)] 255189 L d58) _
  refine ct_putr rfl rfl rfl rfl rfl ?_
  show vmWp 242 191 [(0, .ref 42)] [] (wK 65 [(42, 69), (42, 67), (42, 65), (42, 54), (42, 53), (42, 52), (42, 44), (42, 43), (42, 38), (42, 37), (42, 27), (42, 26), (42, 25), (42, 24), (42, 23), (42, 17), (42, 15), (42, 14), (42, 12), (42, 11), (42, 10), (42, 0), (0, 7), (38, 1), (38, 0), (38, 4), (38, 3), (38, 2), (0, 6), (20, 8), (33, 2), (33, 1), (33, 0), (33, 6), (33, 5), (33, 4), (33, 3), (20, 7), (28, 1), (28, 0), (28, 5), (28, 4), (28, 3), (28, 2), (20, 6), (24, 1), (24, 0), (24, 4), (24, 3), (24, 2), (20, 3), (20, 2), (20, 1), (20, 0), (20, 5), (22, 0), (20, 4), (0, 5), (19, 2), (19, 1), (19, 0), (15, 2), (15, 1), (15, 0), (0, 4), (13, 0), (0, 3), (11, 0), (0, 2), (9, 0), (0, 1), (3, 4), (3, 3), (3, 2), (3, 1), (3, 0), (0, 0), (1, 0)] 255189 L d58) _
  refine st_go 2 (pc' := 194) (lo' := [(0, .ref 42)]) (st' := [.int 8, .ref 42]) rfl ?_
  refine ct_arr (len := 8) rfl rfl rfl (by decide) (by decide) rfl rfl rfl z58 ?_
  have z58 := z58.up
  show vmWp 242 196 [(0, .ref 42)] [.ref 65, .ref 42] (wK 66 [(42, 69), (42, 67), (42, 65), (42, 54), (42, 53), (42, 52), (42, 44), (42, 43), (42, 38), (42, 37), (42, 27), (42, 26), (42, 25), (42, 24), (42, 23), (42, 17), (42, 15), (42, 14), (42, 12), (42, 11), (42, 10), (42, 0), (0, 7), (38, 1), (38, 0), (38, 4), (38, 3), (38, 2), (0, 6), (20, 8), (33, 2), (33, 1), (33, 0), (33, 6), (33, 5), (33, 4), (33, 3), (20, 7), (28, 1), (28, 0), (28, 5), (28, 4), (28, 3), (28, 2), (20, 6), (24, 1), (24, 0), (24, 4), (24, 3), (24, 2), (20, 3), (20, 2), (20, 1), (20, 0), (20, 5), (22, 0), (20, 4), (0, 5), (19, 2), (19, 1), (19, 0), (15, 2), (15, 1), (15, 0), (0, 4), (13, 0), (0, 3), (11, 0), (0, 2), (9, 0), (0, 1), (3, 4), (3, 3), (3, 2), (3, 1), (3, 0), (0, 0), (1, 0)] 255197 L d58) _
  refine ct_putr rfl rfl rfl rfl rfl ?_
  show vmWp 242 199 [(0, .ref 42)] [] (wK 66 [(42, 70), (42, 69), (42, 67), (42, 65), (42, 54), (42, 53), (42, 52), (42, 44), (42, 43), (42, 38), (42, 37), (42, 27), (42, 26), (42, 25), (42, 24), (42, 23), (42, 17), (42, 15), (42, 14), (42, 12), (42, 11), (42, 10), (42, 0), (0, 7), (38, 1), (38, 0), (38, 4), (38, 3), (38, 2), (0, 6), (20, 8), (33, 2), (33, 1), (33, 0), (33, 6), (33, 5), (33, 4), (33, 3), (20, 7), (28, 1), (28, 0), (28, 5), (28, 4), (28, 3), (28, 2), (20, 6), (24, 1), (24, 0), (24, 4), (24, 3), (24, 2), (20, 3), (20, 2), (20, 1), (20, 0), (20, 5), (22, 0), (20, 4), (0, 5), (19, 2), (19, 1), (19, 0), (15, 2), (15, 1), (15, 0), (0, 4), (13, 0), (0, 3), (11, 0), (0, 2), (9, 0), (0, 1), (3, 4), (3, 3), (3, 2), (3, 1), (3, 0), (0, 0), (1, 0)] 255197 L d58) _
  refine st_go 2 (pc' := 202) (lo' := [(0, .ref 42)]) (st' := [.int 8, .ref 42]) rfl ?_
  refine ct_arr (len := 8) rfl rfl rfl (by decide) (by decide) rfl rfl rfl z58 ?_
  have z58 := z58.up
  show vmWp 242 204 [(0, .ref 42)] [.ref 66, .ref 42] (wK 67 [(42, 70), (42, 69), (42, 67), (42, 65), (42, 54), (42, 53), (42, 52), (42, 44), (42, 43), (42, 38), (42, 37), (42, 27), (42, 26), (42, 25), (42, 24), (42, 23), (42, 17), (42, 15), (42, 14), (42, 12), (42, 11), (42, 10), (42, 0), (0, 7), (38, 1), (38, 0), (38, 4), (38, 3), (38, 2), (0, 6), (20, 8), (33, 2), (33, 1), (33, 0), (33, 6), (33, 5), (33, 4), (33, 3), (20, 7), (28, 1), (28, 0), (28, 5), (28, 4), (28, 3), (28, 2), (20, 6), (24, 1), (24, 0), (24, 4), (24, 3), (24, 2), (20, 3), (20, 2), (20, 1), (20, 0), (20, 5), (22, 0), (20, 4), (0, 5), (19, 2), (19, 1), (19, 0), (15, 2), (15, 1), (15, 0), (0, 4), (13, 0), (0, 3), (11, 0), (0, 2), (9, 0), (0, 1), (3, 4), (3, 3), (3, 2), (3, 1), (3, 0), (0, 0), (1, 0)] 255205 L d58) _
  refine ct_putr rfl rfl rfl rfl rfl ?_
  show vmWp 242 207 [(0, .ref 42)] [] (wK 67 [(42, 71), (42, 70), (42, 69), (42, 67), (42, 65), (42, 54), (42, 53), (42, 52), (42, 44), (42, 43), (42, 38), (42, 37), (42, 27), (42, 26), (42, 25), (42, 24), (42, 23), (42, 17), (42, 15), (42, 14), (42, 12), (42, 11), (42, 10), (42, 0), (0, 7), (38, 1), (38, 0), (38, 4), (38, 3), (38, 2), (0, 6), (20, 8), (33, 2), (33, 1), (33, 0), (33, 6), (33, 5), (33, 4), (33, 3), (20, 7), (28, 1), (28, 0), (28, 5), (28, 4), (28, 3), (28, 2), (20, 6), (24, 1), (24, 0), (24, 4), (24, 3), (24, 2), (20, 3), (20, 2), (20, 1), (20, 0), (20, 5), (22, 0), (20, 4), (0, 5), (19, 2), (19, 1), (19, 0), (15, 2), (15, 1), (15, 0), (0, 4), (13, 0), (0, 3), (11, 0), (0, 2), (9, 0), (0, 1), (3, 4), (3, 3), (3, 2), (3, 1), (3, 0), (0, 0), (1, 0)] 255205 L d58) _
  refine st_go 2 (pc' := 209) (lo' := [(0, .ref 42)]) (st' := [.int 3, .ref 42]) rfl ?_
  refine ct_arr (len := 3) rfl rfl rfl (by decide) (by decide) rfl rfl rfl z58 ?_
  have z58 := z58.up
  show vmWp 242 211 [(0, .ref 42)] [.ref 67, .ref 42] (wK 68 [(42, 71), (42, 70), (42, 69), (42, 67), (42, 65), (42, 54), (42, 53), (42, 52), (42, 44), (42, 43), (42, 38), (42, 37), (42, 27), (42, 26), (42, 25), (42, 24), (42, 23), (42, 17), (42, 15), (42, 14), (42, 12), (42, 11), (42, 10), (42, 0), (0, 7), (38, 1), (38, 0), (38, 4), (38, 3), (38, 2), (0, 6), (20, 8), (33, 2), (33, 1), (33, 0), (33, 6), (33, 5), (33, 4), (33, 3), (20, 7), (28, 1), (28, 0), (28, 5), (28, 4), (28, 3), (28, 2), (20, 6), (24, 1), (24, 0), (24, 4), (24, 3), (24, 2), (20, 3), (20, 2), (20, 1), (20, 0), (20, 5), (22, 0), (20, 4), (0, 5), (19, 2), (19, 1), (19, 0), (15, 2), (15, 1), (15, 0), (0, 4), (13, 0), (0, 3), (11, 0), (0, 2), (9, 0), (0, 1), (3, 4), (3, 3), (3, 2), (3, 1), (3, 0), (0, 0), (1, 0)] 255208 L d58) _
  refine ct_putr rfl rfl rfl rfl rfl ?_
  show vmWp 242 214 [(0, .ref 42)] [] (wK 68 [(42, 74), (42, 71), (42, 70), (42, 69), (42, 67), (42, 65), (42, 54), (42, 53), (42, 52), (42, 44), (42, 43), (42, 38), (42, 37), (42, 27), (42, 26), (42, 25), (42, 24), (42, 23), (42, 17), (42, 15), (42, 14), (42, 12), (42, 11), (42, 10), (42, 0), (0, 7), (38, 1), (38, 0), (38, 4), (38, 3), (38, 2), (0, 6), (20, 8), (33, 2), (33, 1), (33, 0), (33, 6), (33, 5), (33, 4), (33, 3), (20, 7), (28, 1), (28, 0), (28, 5), (28, 4), (28, 3), (28, 2), (20, 6), (24, 1), (24, 0), (24, 4), (24, 3), (24, 2), (20, 3), (20, 2), (20, 1), (20, 0), (20, 5), (22, 0), (20, 4), (0, 5), (19, 2), (19, 1), (19, 0), (15, 2), (15, 1), (15, 0), (0, 4), (13, 0), (0, 3), (11, 0), (0, 2), (9, 0), (0, 1), (3, 4), (3, 3), (3, 2), (3, 1), (3, 0), (0, 0), (1, 0)] 255208 L d58) _
  refine st_go 2 (pc' := 217) (lo' := [(0, .ref 42)]) (st' := [.int 65535, .ref 42]) rfl ?_
  refine ct_putd (d' := sF d58 42 75 (65535)) rfl rfl rfl rfl ?_
  obtain ⟨d59, e59⟩ : ∃ x, x = sF d58 42 75 (65535) := ⟨_, rfl⟩
  rw [← e59]
  have z59 : Zs 68 d59 := by rw [e59]; exact z58.sF (by decide)
  show vmWp 242 220 [(0, .ref 42)] [] (wK 68 [(42, 74), (42, 71), (42, 70), (42, 69), (42, 67), (42, 65), (42, 54), (42, 53), (42, 52), (42, 44), (42, 43), (42, 38), (42, 37), (42, 27), (42, 26), (42, 25), (42, 24), (42, 23), (42, 17), (42, 15), (42, 14), (42, 12), (42, 11), (42, 10), (42, 0), (0, 7), (38, 1), (38, 0), (38, 4), (38, 3), (38, 2), (0, 6), (20, 8), (33, 2), (33, 1), (33, 0), (33, 6), (33, 5), (33, 4), (33, 3), (20, 7), (28, 1), (28, 0), (28, 5), (28, 4), (28, 3), (28, 2), (20, 6), (24, 1), (24, 0), (24, 4), (24, 3), (24, 2), (20, 3), (20, 2), (20, 1), (20, 0), (20, 5), (22, 0), (20, 4), (0, 5), (19, 2), (19, 1), (19, 0), (15, 2), (15, 1), (15, 0), (0, 4), (13, 0), (0, 3), (11, 0), (0, 2), (9, 0), (0, 1), (3, 4), (3, 3), (3, 2), (3, 1), (3, 0), (0, 0), (1, 0)] 255208 L d59) _
  refine st_go 2 (pc' := 224) (lo' := [(0, .ref 42)]) (st' := [.int 256, .ref 42]) rfl ?_
  refine ct_arr (len := 256) rfl rfl rfl (by decide) (by decide) rfl rfl rfl z59 ?_
  have z59 := z59.up
  show vmWp 242 226 [(0, .ref 42)] [.ref 68, .ref 42] (wK 69 [(42, 74), (42, 71), (42, 70), (42, 69), (42, 67), (42, 65), (42, 54), (42, 53), (42, 52), (42, 44), (42, 43), (42, 38), (42, 37), (42, 27), (42, 26), (42, 25), (42, 24), (42, 23), (42, 17), (42, 15), (42, 14), (42, 12), (42, 11), (42, 10), (42, 0), (0, 7), (38, 1), (38, 0), (38, 4), (38, 3), (38, 2), (0, 6), (20, 8), (33, 2), (33, 1), (33, 0), (33, 6), (33, 5), (33, 4), (33, 3), (20, 7), (28, 1), (28, 0), (28, 5), (28, 4), (28, 3), (28, 2), (20, 6), (24, 1), (24, 0), (24, 4), (24, 3), (24, 2), (20, 3), (20, 2), (20, 1), (20, 0), (20, 5), (22, 0), (20, 4), (0, 5), (19, 2), (19, 1), (19, 0), (15, 2), (15, 1), (15, 0), (0, 4), (13, 0), (0, 3), (11, 0), (0, 2), (9, 0), (0, 1), (3, 4), (3, 3), (3, 2), (3, 1), (3, 0), (0, 0), (1, 0)] 255464 L d59) _
  refine ct_putr rfl rfl rfl rfl rfl ?_
  show vmWp 242 229 [(0, .ref 42)] [] (wK 69 [(42, 80), (42, 74), (42, 71), (42, 70), (42, 69), (42, 67), (42, 65), (42, 54), (42, 53), (42, 52), (42, 44), (42, 43), (42, 38), (42, 37), (42, 27), (42, 26), (42, 25), (42, 24), (42, 23), (42, 17), (42, 15), (42, 14), (42, 12), (42, 11), (42, 10), (42, 0), (0, 7), (38, 1), (38, 0), (38, 4), (38, 3), (38, 2), (0, 6), (20, 8), (33, 2), (33, 1), (33, 0), (33, 6), (33, 5), (33, 4), (33, 3), (20, 7), (28, 1), (28, 0), (28, 5), (28, 4), (28, 3), (28, 2), (20, 6), (24, 1), (24, 0), (24, 4), (24, 3), (24, 2), (20, 3), (20, 2), (20, 1), (20, 0), (20, 5), (22, 0), (20, 4), (0, 5), (19, 2), (19, 1), (19, 0), (15, 2), (15, 1), (15, 0), (0, 4), (13, 0), (0, 3), (11, 0), (0, 2), (9, 0), (0, 1), (3, 4), (3, 3), (3, 2), (3, 1), (3, 0), (0, 0), (1, 0)] 255464 L d59) _
  refine st_go 2 (pc' := 233) (lo' := [(0, .ref 42)]) (st' := [.int 256, .ref 42]) rfl ?_
  refine ct_arr (len := 256) rfl rfl rfl (by decide) (by decide) rfl rfl rfl z59 ?_
  have z59 := z59.up
  show vmWp 242 235 [(0, .ref 42)] [.ref 69, .ref 42] (wK 70 [(42, 80), (42, 74), (42, 71), (42, 70), (42, 69), (42, 67), (42, 65), (42, 54), (42, 53), (42, 52), (42, 44), (42, 43), (42, 38), (42, 37), (42, 27), (42, 26), (42, 25), (42, 24), (42, 23), (42, 17), (42, 15), (42, 14), (42, 12), (42, 11), (42, 10), (42, 0), (0, 7), (38, 1), (38, 0), (38, 4), (38, 3), (38, 2), (0, 6), (20, 8), (33, 2), (33, 1), (33, 0), (33, 6), (33, 5), (33, 4), (33, 3), (20, 7), (28, 1), (28, 0), (28, 5), (28, 4), (28, 3), (28, 2), (20, 6), (24, 1), (24, 0), (24, 4), (24, 3), (24, 2), (20, 3), (20, 2), (20, 1), (20, 0), (20, 5), (22, 0), (20, 4), (0, 5), (19, 2), (19, 1), (19, 0), (15, 2), (15, 1), (15, 0), (0, 4), (13, 0), (0, 3), (11, 0), (0, 2), (9, 0), (0, 1), (3, 4), (3, 3), (3, 2), (3, 1), (3, 0), (0, 0), (1, 0)] 255720 L d59) _
  refine ct_putr rfl rfl rfl rfl rfl ?_
  show vmWp 242 238 [(0, .ref 42)] [] (wK 70 [(42, 81), (42, 80), (42, 74), (42, 71), (42, 70), (42, 69), (42, 67), (42, 65), (42, 54), (42, 53), (42, 52), (42, 44), (42, 43), (42, 38), (42, 37), (42, 27), (42, 26), (42, 25), (42, 24), (42, 23), (42, 17), (42, 15), (42, 14), (42, 12), (42, 11), (42, 10), (42, 0), (0, 7), (38, 1), (38, 0), (38, 4), (38, 3), (38, 2), (0, 6), (20, 8), (33, 2), (33, 1), (33, 0), (33, 6), (33, 5), (33, 4), (33, 3), (20, 7), (28, 1), (28, 0), (28, 5), (28, 4), (28, 3), (28, 2), (20, 6), (24, 1), (24, 0), (24, 4), (24, 3), (24, 2), (20, 3), (20, 2), (20, 1), (20, 0), (20, 5), (22, 0), (20, 4), (0, 5), (19, 2), (19, 1), (19, 0), (15, 2), (15, 1), (15, 0), (0, 4), (13, 0), (0, 3), (11, 0), (0, 2), (9, 0), (0, 1), (3, 4), (3, 3), (3, 2), (3, 1), (3, 0), (0, 0), (1, 0)] 255720 L d59) _
  refine vmWp.ret rfl rfl ?_
  show vmWp 406 15 [(1, .ref 0), (0, .ref 1000)] [.ref 42] (wK 70 [(42, 81), (42, 80), (42, 74), (42, 71), (42, 70), (42, 69), (42, 67), (42, 65), (42, 54), (42, 53), (42, 52), (42, 44), (42, 43), (42, 38), (42, 37), (42, 27), (42, 26), (42, 25), (42, 24), (42, 23), (42, 17), (42, 15), (42, 14), (42, 12), (42, 11), (42, 10), (42, 0), (0, 7), (38, 1), (38, 0), (38, 4), (38, 3), (38, 2), (0, 6), (20, 8), (33, 2), (33, 1), (33, 0), (33, 6), (33, 5), (33, 4), (33, 3), (20, 7), (28, 1), (28, 0), (28, 5), (28, 4), (28, 3), (28, 2), (20, 6), (24, 1), (24, 0), (24, 4), (24, 3), (24, 2), (20, 3), (20, 2), (20, 1), (20, 0), (20, 5), (22, 0), (20, 4), (0, 5), (19, 2), (19, 1), (19, 0), (15, 2), (15, 1), (15, 0), (0, 4), (13, 0), (0, 3), (11, 0), (0, 2), (9, 0), (0, 1), (3, 4), (3, 3), (3, 2), (3, 1), (3, 0), (0, 0), (1, 0)] 255720 L d59) _
  refine st_go 3 (pc' := 18) (lo' := [(3, .int 0), (2, .ref 42), (1, .ref 0), (0, .ref 1000)]) (st' := []) rfl ?_
  exact h d59 ⟨d1, d2, d3, d4, d5, d6, d7, d8, d9, d10, d11, d12, d13, d14, d15, d16, d17, d18, d19, d20, d21, d22, d23, d24, d25, d26, d27, d28, d29, d30, d31, d32, d33, d34, d35, d36, d37, d38, d39, d40, d41, d42, d43, d44, d45, d46, d47, d48, d49, d50, d51, d52, d53, d54, d55, d56, d57, d58, e1, e2, e3, e4, e5, e6, e7, e8, e9, e10, e11, e12, e13, e14, e15, e16, e17, e18, e19, e20, e21, e22, e23, e24, e25, e26, e27, e28, e29, e30, e31, e32, e33, e34, e35, e36, e37, e38, e39, e40, e41, e42, e43, e44, e45, e46, e47, e48, e49, e50, e51, e52, e53, e54, e55, e56, e57, e58, e59⟩
