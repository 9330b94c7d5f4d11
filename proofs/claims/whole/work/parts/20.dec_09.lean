/-! The decompiled program, 4.9 -/
set_option maxRecDepth 100000 in
def MO_writeAt_191 (d : vmD) (Q : Int32 → vmD → Prop) : Prop :=
  Q (gF d 42 63) d
set_option maxRecDepth 100000 in
set_option maxHeartbeats 4000000 in
theorem tMO_writeAt_191 {L : Nat} {e : vmD} {Qo : Option Value → vmW → Prop} {Q : Int32 → vmD → Prop} (hQ : ∀ r d, Q r d → Qo (some (.int r)) (wR L d e)) (d : vmD) (h : MO_writeAt_191 d Q) : vmWp 347 191 [(0, .ref 42)] [] (wR L d e) Qo := by
  unfold MO_writeAt_191 at h
  refine st_go 2 (pc' := 195) (lo' := [(0, .ref 42)]) (st' := [.int (gF d 42 63)]) rfl ?_
  exact st_retI rfl rfl (hQ _ _ h)
set_option maxRecDepth 100000 in
def MO_writeAt (x1 : Int32) (d : vmD) (Q : Int32 → vmD → Prop) : Prop :=
  bnd (sF d 42 66 0) fun d_1 =>
  MO_decode x1 d_1 fun r_3 d_2 =>
  if r_3 = 0 then
  (MO_say 4473376 d_2 fun d_5 =>
  MO_peek x1 d_5 fun r_7 d_6 =>
  MO_number r_7 d_6 fun d_8 =>
  Q 1 d_8)
  else
  (if (gF d_2 42 59) = 1 then
  (MO_write203 d_2 fun d_10 =>
  MO_writeAt_191 d_10 Q)
  else
  (if (gF d_2 42 59) = 2 then
  (MO_write237 d_2 fun d_12 =>
  MO_writeAt_191 d_12 Q)
  else
  (if ((gF d_2 42 61) >>> ((6 : Int32) &&& 31)) = 0 then
  (MO_writeFirst x1 d_2 fun d_14 =>
  MO_writeAt_191 d_14 Q)
  else
  (if ((gF d_2 42 61) >>> ((6 : Int32) &&& 31)) = 3 then
  (MO_writeLast d_2 fun d_16 =>
  MO_writeAt_191 d_16 Q)
  else
  (if (gF d_2 42 61) = 118 then
  (MO_say 1212238932 d_2 fun d_18 =>
  MO_writeAt_191 d_18 Q)
  else
  (if ((gF d_2 42 61) >>> ((6 : Int32) &&& 31)) = 1 then
  (MO_say 4998176 d_2 fun d_20 =>
  MO_octetName (((gF d_20 42 61) >>> ((3 : Int32) &&& 31)) &&& 7) d_20 fun d_21 =>
  MO_one 44 d_21 fun d_22 =>
  MO_octetName ((gF d_22 42 61) &&& 7) d_22 fun d_23 =>
  MO_writeAt_191 d_23 Q)
  else
  (MO_sumName (((gF d_2 42 61) >>> ((3 : Int32) &&& 31)) &&& 7) d_2 fun d_24 =>
  MO_octetName ((gF d_24 42 61) &&& 7) d_24 fun d_25 =>
  MO_writeAt_191 d_25 Q)))))))
set_option maxRecDepth 100000 in
set_option maxHeartbeats 4000000 in
theorem tMO_writeAt {L : Nat} {e : vmD} {Qo : Option Value → vmW → Prop} {Q : Int32 → vmD → Prop} (hQ : ∀ r d, Q r d → Qo (some (.int r)) (wR L d e)) (x1 : Int32) (d : vmD) (h : MO_writeAt x1 d Q) : vmWp 347 0 [(0, .ref 42), (1, .int x1)] [] (wR L d e) Qo := by
  unfold MO_writeAt at h
  refine st_go 2 (pc' := 2) (lo' := [(0, .ref 42), (1, .int x1)]) (st' := [.int 0, .ref 42]) rfl ?_
  refine st_putIR (o := 42) (f := 66) rfl rfl rfl rfl rfl (fun d_1 hy_d_1 => ?_)
  have h := h d_1 hy_d_1
  refine st_go 2 (pc' := 7) (lo' := [(0, .ref 42), (1, .int x1)]) (st' := [.int x1, .ref 42]) rfl ?_
  refine st_calli (k' := 327) (as := [.ref 42, .int x1]) (rest := []) (lo' := [(0, .ref 42), (1, .int x1)]) (wf := fun d => wR L d e) rfl rfl rfl ?_
  refine tMO_decode (fun r_3 d_2 h => ⟨r_3, d_2, rfl, rfl, ?_⟩) x1 d_1 h
  by_cases hc_4 : r_3 = 0
  · have h := Eq.mp (if_pos hc_4) h
    refine st_if (t := 13) (b := false) rfl (decide_eq_false (fun z => z hc_4)) rfl ?_
    refine st_go 2 (pc' := 17) (lo' := [(0, .ref 42), (1, .int x1)]) (st' := [.long 4473376, .ref 42]) rfl ?_
    refine st_callv (k' := 329) (as := [.ref 42, .long 4473376]) (rest := []) (lo' := [(0, .ref 42), (1, .long 4473376)]) (wf := fun d => wR L d e) rfl rfl rfl ?_
    refine tMO_say (fun d_5 h => ⟨d_5, rfl, rfl, ?_⟩) 4473376 d_2 h
    refine st_go 3 (pc' := 23) (lo' := [(0, .ref 42), (1, .int x1)]) (st' := [.int x1, .ref 42, .ref 42]) rfl ?_
    refine st_calli (k' := 320) (as := [.ref 42, .int x1]) (rest := [.ref 42]) (lo' := [(0, .ref 42), (1, .int x1)]) (wf := fun d => wR L d e) rfl rfl rfl ?_
    refine tMO_peek (fun r_7 d_6 h => ⟨r_7, d_6, rfl, rfl, ?_⟩) x1 d_5 h
    refine st_callv (k' := 330) (as := [.ref 42, .int r_7]) (rest := []) (lo' := [(0, .ref 42), (1, .int r_7)]) (wf := fun d => wR L d e) rfl rfl rfl ?_
    refine tMO_number (fun d_8 h => ⟨d_8, rfl, rfl, ?_⟩) r_7 d_6 h
    refine st_go 1 (pc' := 30) (lo' := [(0, .ref 42), (1, .int x1)]) (st' := [.int 1]) rfl ?_
    exact st_retI rfl rfl (hQ _ _ h)
  · have h := Eq.mp (if_neg hc_4) h
    refine st_if (t := 31) (b := true) rfl (decide_eq_true hc_4) rfl ?_
    refine st_go 3 (pc' := 36) (lo' := [(0, .ref 42), (1, .int x1)]) (st' := [.int 1, .int (gF d_2 42 59)]) rfl ?_
    by_cases hc_9 : (gF d_2 42 59) = 1
    · have h := Eq.mp (if_pos hc_9) h
      refine st_icmp (t := 39) (b := false) rfl (decide_eq_false (fun z => z hc_9)) rfl ?_
      refine st_go 1 (pc' := 40) (lo' := [(0, .ref 42), (1, .int x1)]) (st' := [.ref 42]) rfl ?_
      refine st_callv (k' := 346) (as := [.ref 42]) (rest := []) (lo' := [(0, .ref 42)]) (wf := fun d => wR L d e) rfl rfl rfl ?_
      refine tMO_write203 (fun d_10 h => ⟨d_10, rfl, rfl, ?_⟩) d_2 h
      refine st_go 1 (pc' := 191) (lo' := [(0, .ref 42), (1, .int x1)]) (st' := []) rfl ?_
      refine vmWp.sub (lo' := [(0, .ref 42)]) ⟨rfl, trivial⟩ ?_
      exact tMO_writeAt_191 hQ d_10 h
    · have h := Eq.mp (if_neg hc_9) h
      refine st_icmp (t := 46) (b := true) rfl (decide_eq_true hc_9) rfl ?_
      refine st_go 3 (pc' := 51) (lo' := [(0, .ref 42), (1, .int x1)]) (st' := [.int 2, .int (gF d_2 42 59)]) rfl ?_
      by_cases hc_11 : (gF d_2 42 59) = 2
      · have h := Eq.mp (if_pos hc_11) h
        refine st_icmp (t := 54) (b := false) rfl (decide_eq_false (fun z => z hc_11)) rfl ?_
        refine st_go 1 (pc' := 55) (lo' := [(0, .ref 42), (1, .int x1)]) (st' := [.ref 42]) rfl ?_
        refine st_callv (k' := 345) (as := [.ref 42]) (rest := []) (lo' := [(0, .ref 42)]) (wf := fun d => wR L d e) rfl rfl rfl ?_
        refine tMO_write237 (fun d_12 h => ⟨d_12, rfl, rfl, ?_⟩) d_2 h
        refine st_go 1 (pc' := 191) (lo' := [(0, .ref 42), (1, .int x1)]) (st' := []) rfl ?_
        refine vmWp.sub (lo' := [(0, .ref 42)]) ⟨rfl, trivial⟩ ?_
        exact tMO_writeAt_191 hQ d_12 h
      · have h := Eq.mp (if_neg hc_11) h
        refine st_icmp (t := 61) (b := true) rfl (decide_eq_true hc_11) rfl ?_
        refine st_go 4 (pc' := 68) (lo' := [(0, .ref 42), (1, .int x1)]) (st' := [.int ((gF d_2 42 61) >>> ((6 : Int32) &&& 31))]) rfl ?_
        by_cases hc_13 : ((gF d_2 42 61) >>> ((6 : Int32) &&& 31)) = 0
        · have h := Eq.mp (if_pos hc_13) h
          refine st_if (t := 71) (b := false) rfl (decide_eq_false (fun z => z hc_13)) rfl ?_
          refine st_go 2 (pc' := 73) (lo' := [(0, .ref 42), (1, .int x1)]) (st' := [.int x1, .ref 42]) rfl ?_
          refine st_callv (k' := 341) (as := [.ref 42, .int x1]) (rest := []) (lo' := [(0, .ref 42), (1, .int x1)]) (wf := fun d => wR L d e) rfl rfl rfl ?_
          refine tMO_writeFirst (fun d_14 h => ⟨d_14, rfl, rfl, ?_⟩) x1 d_2 h
          refine st_go 1 (pc' := 191) (lo' := [(0, .ref 42), (1, .int x1)]) (st' := []) rfl ?_
          refine vmWp.sub (lo' := [(0, .ref 42)]) ⟨rfl, trivial⟩ ?_
          exact tMO_writeAt_191 hQ d_14 h
        · have h := Eq.mp (if_neg hc_13) h
          refine st_if (t := 79) (b := true) rfl (decide_eq_true hc_13) rfl ?_
          refine st_go 5 (pc' := 87) (lo' := [(0, .ref 42), (1, .int x1)]) (st' := [.int 3, .int ((gF d_2 42 61) >>> ((6 : Int32) &&& 31))]) rfl ?_
          by_cases hc_15 : ((gF d_2 42 61) >>> ((6 : Int32) &&& 31)) = 3
          · have h := Eq.mp (if_pos hc_15) h
            refine st_icmp (t := 90) (b := false) rfl (decide_eq_false (fun z => z hc_15)) rfl ?_
            refine st_go 1 (pc' := 91) (lo' := [(0, .ref 42), (1, .int x1)]) (st' := [.ref 42]) rfl ?_
            refine st_callv (k' := 343) (as := [.ref 42]) (rest := []) (lo' := [(0, .ref 42)]) (wf := fun d => wR L d e) rfl rfl rfl ?_
            refine tMO_writeLast (fun d_16 h => ⟨d_16, rfl, rfl, ?_⟩) d_2 h
            refine st_go 1 (pc' := 191) (lo' := [(0, .ref 42), (1, .int x1)]) (st' := []) rfl ?_
            refine vmWp.sub (lo' := [(0, .ref 42)]) ⟨rfl, trivial⟩ ?_
            exact tMO_writeAt_191 hQ d_16 h
          · have h := Eq.mp (if_neg hc_15) h
            refine st_icmp (t := 97) (b := true) rfl (decide_eq_true hc_15) rfl ?_
            refine st_go 3 (pc' := 103) (lo' := [(0, .ref 42), (1, .int x1)]) (st' := [.int 118, .int (gF d_2 42 61)]) rfl ?_
            by_cases hc_17 : (gF d_2 42 61) = 118
            · have h := Eq.mp (if_pos hc_17) h
              refine st_icmp (t := 106) (b := false) rfl (decide_eq_false (fun z => z hc_17)) rfl ?_
              refine st_go 2 (pc' := 110) (lo' := [(0, .ref 42), (1, .int x1)]) (st' := [.long 1212238932, .ref 42]) rfl ?_
              refine st_callv (k' := 329) (as := [.ref 42, .long 1212238932]) (rest := []) (lo' := [(0, .ref 42), (1, .long 1212238932)]) (wf := fun d => wR L d e) rfl rfl rfl ?_
              refine tMO_say (fun d_18 h => ⟨d_18, rfl, rfl, ?_⟩) 1212238932 d_2 h
              refine st_go 1 (pc' := 191) (lo' := [(0, .ref 42), (1, .int x1)]) (st' := []) rfl ?_
              refine vmWp.sub (lo' := [(0, .ref 42)]) ⟨rfl, trivial⟩ ?_
              exact tMO_writeAt_191 hQ d_18 h
            · have h := Eq.mp (if_neg hc_17) h
              refine st_icmp (t := 116) (b := true) rfl (decide_eq_true hc_17) rfl ?_
              refine st_go 5 (pc' := 124) (lo' := [(0, .ref 42), (1, .int x1)]) (st' := [.int 1, .int ((gF d_2 42 61) >>> ((6 : Int32) &&& 31))]) rfl ?_
              by_cases hc_19 : ((gF d_2 42 61) >>> ((6 : Int32) &&& 31)) = 1
              · have h := Eq.mp (if_pos hc_19) h
                refine st_icmp (t := 127) (b := false) rfl (decide_eq_false (fun z => z hc_19)) rfl ?_
                refine st_go 2 (pc' := 131) (lo' := [(0, .ref 42), (1, .int x1)]) (st' := [.long 4998176, .ref 42]) rfl ?_
                refine st_callv (k' := 329) (as := [.ref 42, .long 4998176]) (rest := []) (lo' := [(0, .ref 42), (1, .long 4998176)]) (wf := fun d => wR L d e) rfl rfl rfl ?_
                refine tMO_say (fun d_20 h => ⟨d_20, rfl, rfl, ?_⟩) 4998176 d_2 h
                refine st_go 7 (pc' := 144) (lo' := [(0, .ref 42), (1, .int x1)]) (st' := [.int (((gF d_20 42 61) >>> ((3 : Int32) &&& 31)) &&& 7), .ref 42]) rfl ?_
                refine st_callv (k' := 333) (as := [.ref 42, .int (((gF d_20 42 61) >>> ((3 : Int32) &&& 31)) &&& 7)]) (rest := []) (lo' := [(0, .ref 42), (1, .int (((gF d_20 42 61) >>> ((3 : Int32) &&& 31)) &&& 7))]) (wf := fun d => wR L d e) rfl rfl rfl ?_
                refine tMO_octetName (fun d_21 h => ⟨d_21, rfl, rfl, ?_⟩) (((gF d_20 42 61) >>> ((3 : Int32) &&& 31)) &&& 7) d_20 h
                refine st_go 2 (pc' := 150) (lo' := [(0, .ref 42), (1, .int x1)]) (st' := [.int 44, .ref 42]) rfl ?_
                refine st_callv (k' := 328) (as := [.ref 42, .int 44]) (rest := []) (lo' := [(0, .ref 42), (1, .int 44)]) (wf := fun d => wR L d e) rfl rfl rfl ?_
                refine tMO_one (fun d_22 h => ⟨d_22, rfl, rfl, ?_⟩) 44 d_21 h
                refine st_go 5 (pc' := 161) (lo' := [(0, .ref 42), (1, .int x1)]) (st' := [.int ((gF d_22 42 61) &&& 7), .ref 42]) rfl ?_
                refine st_callv (k' := 333) (as := [.ref 42, .int ((gF d_22 42 61) &&& 7)]) (rest := []) (lo' := [(0, .ref 42), (1, .int ((gF d_22 42 61) &&& 7))]) (wf := fun d => wR L d e) rfl rfl rfl ?_
                refine tMO_octetName (fun d_23 h => ⟨d_23, rfl, rfl, ?_⟩) ((gF d_22 42 61) &&& 7) d_22 h
                refine st_go 1 (pc' := 191) (lo' := [(0, .ref 42), (1, .int x1)]) (st' := []) rfl ?_
                refine vmWp.sub (lo' := [(0, .ref 42)]) ⟨rfl, trivial⟩ ?_
                exact tMO_writeAt_191 hQ d_23 h
              · have h := Eq.mp (if_neg hc_19) h
                refine st_icmp (t := 167) (b := true) rfl (decide_eq_true hc_19) rfl ?_
                refine st_go 7 (pc' := 177) (lo' := [(0, .ref 42), (1, .int x1)]) (st' := [.int (((gF d_2 42 61) >>> ((3 : Int32) &&& 31)) &&& 7), .ref 42]) rfl ?_
                refine st_callv (k' := 336) (as := [.ref 42, .int (((gF d_2 42 61) >>> ((3 : Int32) &&& 31)) &&& 7)]) (rest := []) (lo' := [(0, .ref 42), (1, .int (((gF d_2 42 61) >>> ((3 : Int32) &&& 31)) &&& 7))]) (wf := fun d => wR L d e) rfl rfl rfl ?_
                refine tMO_sumName (fun d_24 h => ⟨d_24, rfl, rfl, ?_⟩) (((gF d_2 42 61) >>> ((3 : Int32) &&& 31)) &&& 7) d_2 h
                refine st_go 5 (pc' := 188) (lo' := [(0, .ref 42), (1, .int x1)]) (st' := [.int ((gF d_24 42 61) &&& 7), .ref 42]) rfl ?_
                refine st_callv (k' := 333) (as := [.ref 42, .int ((gF d_24 42 61) &&& 7)]) (rest := []) (lo' := [(0, .ref 42), (1, .int ((gF d_24 42 61) &&& 7))]) (wf := fun d => wR L d e) rfl rfl rfl ?_
                refine tMO_octetName (fun d_25 h => ⟨d_25, rfl, rfl, ?_⟩) ((gF d_24 42 61) &&& 7) d_24 h
                refine vmWp.sub (lo' := [(0, .ref 42)]) ⟨rfl, trivial⟩ ?_
                exact tMO_writeAt_191 hQ d_25 h
set_option maxRecDepth 100000 in
def MO_write_29 (Q : Int32 → vmD → Prop) : Nat → Int32 → Int32 → vmD → Prop
  | 0, _, _, _ => False
  | n + 1, x2, x3, d => if x3 < (gF d 42 66) then
  (ixOk x3 40 ∧
  bnd (gA d 62 x3.toNatClampNeg) fun y_8 =>
  ixOk x3 40 ∧
  bnd (sA d 63 x3.toNatClampNeg y_8) fun d_10 =>
  bnd (x3 + 1) fun x3_11 =>
  (MO_write_29 Q n) x2 x3_11 d_10)
  else
  (Q x2 d)
set_option maxRecDepth 100000 in
set_option maxHeartbeats 4000000 in
theorem tMO_write_29 {L : Nat} {e : vmD} {Qo : Option Value → vmW → Prop} {Q : Int32 → vmD → Prop} (hQ : ∀ r d, Q r d → Qo (some (.int r)) (wR L d e)) : ∀ (n : Nat) (x2 : Int32) (x3 : Int32) (d : vmD), MO_write_29 Q n x2 x3 d → vmWp 348 29 [(0, .ref 42), (2, .int x2), (3, .int x3)] [] (wR L d e) Qo := by
  intro n
  induction n with
  | zero => intro x2 x3 d h; exact h.elim
  | succ n ih =>
    intro x2 x3 d h
    unfold MO_write_29 at h
    refine st_go 3 (pc' := 34) (lo' := [(0, .ref 42), (2, .int x2), (3, .int x3)]) (st' := [.int (gF d 42 66), .int x3]) rfl ?_
    by_cases hc_6 : x3 < (gF d 42 66)
    · have h := Eq.mp (if_pos hc_6) h
      refine st_icmp (t := 37) (b := false) rfl (decide_eq_false (Int32.not_le.mpr hc_6)) rfl ?_
      refine st_go 6 (pc' := 47) (lo' := [(0, .ref 42), (2, .int x2), (3, .int x3)]) (st' := [.int x3, .ref 62, .int x3, .ref 63]) rfl ?_
      obtain ⟨hj_7, h⟩ := h
      refine st_ialdR (o := 62) rfl rfl hj_7 rfl (fun y_8 hy_y_8 => ?_)
      have h := h y_8 hy_y_8
      obtain ⟨hj_9, h⟩ := h
      refine st_iastR (o := 63) rfl rfl hj_9 rfl (fun d_10 hy_d_10 => ?_)
      have h := h d_10 hy_d_10
      refine st_go 1 (pc' := 52) (lo' := [(3, .int (x3 + 1)), (0, .ref 42), (2, .int x2)]) (st' := []) rfl ?_
      refine st_locI (fun x3_11 hy_x3_11 => ?_)
      have h := h x3_11 hy_x3_11
      refine st_go 1 (pc' := 29) (lo' := [(3, .int x3_11), (0, .ref 42), (2, .int x2)]) (st' := []) rfl ?_
      refine vmWp.sub (lo' := [(0, .ref 42), (2, .int x2), (3, .int x3_11)]) ⟨rfl, rfl, rfl, trivial⟩ ?_
      exact ih x2 x3_11 d_10 h
    · have h := Eq.mp (if_neg hc_6) h
      refine st_icmp (t := 55) (b := true) rfl (decide_eq_true (Int32.not_lt.mp hc_6)) rfl ?_
      refine st_go 1 (pc' := 56) (lo' := [(0, .ref 42), (2, .int x2), (3, .int x3)]) (st' := [.int x2]) rfl ?_
      exact st_retI rfl rfl (hQ _ _ h)
set_option maxRecDepth 100000 in
def MO_write (x1 : Int32) (d : vmD) (Q : Int32 → vmD → Prop) : Prop :=
  if x1 < 0 then
  (Q (-2) d)
  else
  (if (65535 : Int32) < x1 then
  (Q (-2) d)
  else
  (MO_writeAt x1 d fun r_4 d_3 =>
  bnd (sF d_3 42 68 (gF d_3 42 66)) fun d_5 =>
  ∃ m29, MO_write_29 Q m29 r_4 0 d_5))
set_option maxRecDepth 100000 in
set_option maxHeartbeats 4000000 in
theorem tMO_write {L : Nat} {e : vmD} {Qo : Option Value → vmW → Prop} {Q : Int32 → vmD → Prop} (hQ : ∀ r d, Q r d → Qo (some (.int r)) (wR L d e)) (x1 : Int32) (d : vmD) (h : MO_write x1 d Q) : vmWp 348 0 [(0, .ref 42), (1, .int x1)] [] (wR L d e) Qo := by
  unfold MO_write at h
  refine st_go 1 (pc' := 1) (lo' := [(0, .ref 42), (1, .int x1)]) (st' := [.int x1]) rfl ?_
  by_cases hc_1 : x1 < 0
  · have h := Eq.mp (if_pos hc_1) h
    refine st_if (t := 10) (b := true) rfl (decide_eq_true hc_1) rfl ?_
    refine st_go 1 (pc' := 12) (lo' := [(0, .ref 42), (1, .int x1)]) (st' := [.int (-2)]) rfl ?_
    exact st_retI rfl rfl (hQ _ _ h)
  · have h := Eq.mp (if_neg hc_1) h
    refine st_if (t := 4) (b := false) rfl (decide_eq_false hc_1) rfl ?_
    refine st_go 2 (pc' := 7) (lo' := [(0, .ref 42), (1, .int x1)]) (st' := [.int 65535, .int x1]) rfl ?_
    by_cases hc_2 : (65535 : Int32) < x1
    · have h := Eq.mp (if_pos hc_2) h
      refine st_icmp (t := 10) (b := false) rfl (decide_eq_false (Int32.not_le.mpr hc_2)) rfl ?_
      refine st_go 1 (pc' := 12) (lo' := [(0, .ref 42), (1, .int x1)]) (st' := [.int (-2)]) rfl ?_
      exact st_retI rfl rfl (hQ _ _ h)
    · have h := Eq.mp (if_neg hc_2) h
      refine st_icmp (t := 13) (b := true) rfl (decide_eq_true (Int32.not_lt.mp hc_2)) rfl ?_
      refine st_go 2 (pc' := 15) (lo' := [(0, .ref 42), (1, .int x1)]) (st' := [.int x1, .ref 42]) rfl ?_
      refine st_calli (k' := 347) (as := [.ref 42, .int x1]) (rest := []) (lo' := [(0, .ref 42), (1, .int x1)]) (wf := fun d => wR L d e) rfl rfl rfl ?_
      refine tMO_writeAt (fun r_4 d_3 h => ⟨r_4, d_3, rfl, rfl, ?_⟩) x1 d h
      refine st_go 4 (pc' := 24) (lo' := [(2, .int r_4), (0, .ref 42), (1, .int x1)]) (st' := [.int (gF d_3 42 66), .ref 42]) rfl ?_
      refine st_putIR (o := 42) (f := 68) rfl rfl rfl rfl rfl (fun d_5 hy_d_5 => ?_)
      have h := h d_5 hy_d_5
      refine st_go 2 (pc' := 29) (lo' := [(3, .int 0), (2, .int r_4), (0, .ref 42), (1, .int x1)]) (st' := []) rfl ?_
      obtain ⟨m29, h⟩ := h
      refine vmWp.sub (lo' := [(0, .ref 42), (2, .int r_4), (3, .int 0)]) ⟨rfl, rfl, rfl, trivial⟩ ?_
      exact tMO_write_29 hQ m29 r_4 0 d_5 h
set_option maxRecDepth 100000 in
def MO_sign (x1 : Int32) (d : vmD) (Q : Int32 → vmD → Prop) : Prop :=
  if x1 < 0 then
  (Q (-1) d)
  else
  (if x1 < (gF d 42 68) then
  (ixOk x1 40 ∧
  bnd (gA d 63 x1.toNatClampNeg) fun y_4 =>
  Q y_4 d)
  else
  (Q (-1) d))
set_option maxRecDepth 100000 in
set_option maxHeartbeats 4000000 in
theorem tMO_sign {L : Nat} {e : vmD} {Qo : Option Value → vmW → Prop} {Q : Int32 → vmD → Prop} (hQ : ∀ r d, Q r d → Qo (some (.int r)) (wR L d e)) (x1 : Int32) (d : vmD) (h : MO_sign x1 d Q) : vmWp 349 0 [(0, .ref 42), (1, .int x1)] [] (wR L d e) Qo := by
  unfold MO_sign at h
  refine st_go 1 (pc' := 1) (lo' := [(0, .ref 42), (1, .int x1)]) (st' := [.int x1]) rfl ?_
  by_cases hc_1 : x1 < 0
  · have h := Eq.mp (if_pos hc_1) h
    refine st_if (t := 21) (b := true) rfl (decide_eq_true hc_1) rfl ?_
    refine st_go 1 (pc' := 22) (lo' := [(0, .ref 42), (1, .int x1)]) (st' := [.int (-1)]) rfl ?_
    exact st_retI rfl rfl (hQ _ _ h)
  · have h := Eq.mp (if_neg hc_1) h
    refine st_if (t := 4) (b := false) rfl (decide_eq_false hc_1) rfl ?_
    refine st_go 3 (pc' := 9) (lo' := [(0, .ref 42), (1, .int x1)]) (st' := [.int (gF d 42 68), .int x1]) rfl ?_
    by_cases hc_2 : x1 < (gF d 42 68)
    · have h := Eq.mp (if_pos hc_2) h
      refine st_icmp (t := 12) (b := false) rfl (decide_eq_false (Int32.not_le.mpr hc_2)) rfl ?_
      refine st_go 3 (pc' := 17) (lo' := [(0, .ref 42), (1, .int x1)]) (st' := [.int x1, .ref 63]) rfl ?_
      obtain ⟨hj_3, h⟩ := h
      refine st_ialdR (o := 63) rfl rfl hj_3 rfl (fun y_4 hy_y_4 => ?_)
      have h := h y_4 hy_y_4
      refine st_go 1 (pc' := 22) (lo' := [(0, .ref 42), (1, .int x1)]) (st' := [.int y_4]) rfl ?_
      exact st_retI rfl rfl (hQ _ _ h)
    · have h := Eq.mp (if_neg hc_2) h
      refine st_icmp (t := 21) (b := true) rfl (decide_eq_true (Int32.not_lt.mp hc_2)) rfl ?_
      refine st_go 1 (pc' := 22) (lo' := [(0, .ref 42), (1, .int x1)]) (st' := [.int (-1)]) rfl ?_
      exact st_retI rfl rfl (hQ _ _ h)
set_option maxRecDepth 100000 in
def MO_source_84 (b33 : Int32 → Int32 → Int32 → Int32 → Int32 → vmD → Prop) (Q : Int32 → vmD → Prop) : Nat → Int32 → Int32 → Int32 → Int32 → Int32 → Int32 → vmD → Prop
  | 0, _, _, _, _, _, _, _ => False
  | n + 1, x1, x2, x3, x4, x5, x6, d => if x6 < (gF d 42 66) then
  (ixOk x6 40 ∧
  bnd (gA d 62 x6.toNatClampNeg) fun y_12 =>
  ixOk x3 9000 ∧
  bnd (sA d 64 x3.toNatClampNeg y_12) fun d_14 =>
  bnd (x3 + 1) fun x3_15 =>
  bnd (x6 + 1) fun x6_16 =>
  (MO_source_84 b33 Q n) x1 x2 x3_15 x4 x5 x6_16 d_14)
  else
  (ixOk x3 9000 ∧
  bnd (sA d 64 x3.toNatClampNeg (10 : Int32)) fun d_18 =>
  bnd (x3 + 1) fun x3_19 =>
  bnd (x5 + 1) fun x5_20 =>
  b33 x1 x2 x3_19 x4 x5_20 d_18)
set_option maxRecDepth 100000 in
set_option maxHeartbeats 4000000 in
theorem tMO_source_84 {L : Nat} {e : vmD} {Qo : Option Value → vmW → Prop} {b33 : Int32 → Int32 → Int32 → Int32 → Int32 → vmD → Prop} {Q : Int32 → vmD → Prop} (hb33 : ∀ x1 x2 x3 x4 x5 d, b33 x1 x2 x3 x4 x5 d → vmWp 350 33 [(0, .ref 42), (1, .int x1), (2, .int x2), (3, .int x3), (4, .int x4), (5, .int x5)] [] (wR L d e) Qo) (hQ : ∀ r d, Q r d → Qo (some (.int r)) (wR L d e)) : ∀ (n : Nat) (x1 : Int32) (x2 : Int32) (x3 : Int32) (x4 : Int32) (x5 : Int32) (x6 : Int32) (d : vmD), MO_source_84 b33 Q n x1 x2 x3 x4 x5 x6 d → vmWp 350 84 [(0, .ref 42), (1, .int x1), (2, .int x2), (3, .int x3), (4, .int x4), (5, .int x5), (6, .int x6)] [] (wR L d e) Qo := by
  intro n
  induction n with
  | zero => intro x1 x2 x3 x4 x5 x6 d h; exact h.elim
  | succ n ih =>
    intro x1 x2 x3 x4 x5 x6 d h
    unfold MO_source_84 at h
    refine st_go 3 (pc' := 90) (lo' := [(0, .ref 42), (1, .int x1), (2, .int x2), (3, .int x3), (4, .int x4), (5, .int x5), (6, .int x6)]) (st' := [.int (gF d 42 66), .int x6]) rfl ?_
    by_cases hc_10 : x6 < (gF d 42 66)
    · have h := Eq.mp (if_pos hc_10) h
      refine st_icmp (t := 93) (b := false) rfl (decide_eq_false (Int32.not_le.mpr hc_10)) rfl ?_
      refine st_go 6 (pc' := 104) (lo' := [(0, .ref 42), (1, .int x1), (2, .int x2), (3, .int x3), (4, .int x4), (5, .int x5), (6, .int x6)]) (st' := [.int x6, .ref 62, .int x3, .ref 64]) rfl ?_
      obtain ⟨hj_11, h⟩ := h
      refine st_ialdR (o := 62) rfl rfl hj_11 rfl (fun y_12 hy_y_12 => ?_)
      have h := h y_12 hy_y_12
      obtain ⟨hj_13, h⟩ := h
      refine st_iastR (o := 64) rfl rfl hj_13 rfl (fun d_14 hy_d_14 => ?_)
      have h := h d_14 hy_d_14
      refine st_go 1 (pc' := 109) (lo' := [(3, .int (x3 + 1)), (0, .ref 42), (1, .int x1), (2, .int x2), (4, .int x4), (5, .int x5), (6, .int x6)]) (st' := []) rfl ?_
      refine st_locI (fun x3_15 hy_x3_15 => ?_)
      have h := h x3_15 hy_x3_15
      refine st_go 1 (pc' := 112) (lo' := [(6, .int (x6 + 1)), (3, .int x3_15), (0, .ref 42), (1, .int x1), (2, .int x2), (4, .int x4), (5, .int x5)]) (st' := []) rfl ?_
      refine st_locI (fun x6_16 hy_x6_16 => ?_)
      have h := h x6_16 hy_x6_16
      refine st_go 1 (pc' := 84) (lo' := [(6, .int x6_16), (3, .int x3_15), (0, .ref 42), (1, .int x1), (2, .int x2), (4, .int x4), (5, .int x5)]) (st' := []) rfl ?_
      refine vmWp.sub (lo' := [(0, .ref 42), (1, .int x1), (2, .int x2), (3, .int x3_15), (4, .int x4), (5, .int x5), (6, .int x6_16)]) ⟨rfl, rfl, rfl, rfl, rfl, rfl, rfl, trivial⟩ ?_
      exact ih x1 x2 x3_15 x4 x5 x6_16 d_14 h
    · have h := Eq.mp (if_neg hc_10) h
      refine st_icmp (t := 115) (b := true) rfl (decide_eq_true (Int32.not_lt.mp hc_10)) rfl ?_
      refine st_go 4 (pc' := 122) (lo' := [(0, .ref 42), (1, .int x1), (2, .int x2), (3, .int x3), (4, .int x4), (5, .int x5), (6, .int x6)]) (st' := [.int 10, .int x3, .ref 64]) rfl ?_
      obtain ⟨hj_17, h⟩ := h
      refine st_iastR (o := 64) rfl rfl hj_17 rfl (fun d_18 hy_d_18 => ?_)
      have h := h d_18 hy_d_18
      refine st_go 1 (pc' := 126) (lo' := [(3, .int (x3 + 1)), (0, .ref 42), (1, .int x1), (2, .int x2), (4, .int x4), (5, .int x5), (6, .int x6)]) (st' := []) rfl ?_
      refine st_locI (fun x3_19 hy_x3_19 => ?_)
      have h := h x3_19 hy_x3_19
      refine st_go 1 (pc' := 129) (lo' := [(5, .int (x5 + 1)), (3, .int x3_19), (0, .ref 42), (1, .int x1), (2, .int x2), (4, .int x4), (6, .int x6)]) (st' := []) rfl ?_
      refine st_locI (fun x5_20 hy_x5_20 => ?_)
      have h := h x5_20 hy_x5_20
      refine st_go 1 (pc' := 33) (lo' := [(5, .int x5_20), (3, .int x3_19), (0, .ref 42), (1, .int x1), (2, .int x2), (4, .int x4), (6, .int x6)]) (st' := []) rfl ?_
      refine vmWp.sub (lo' := [(0, .ref 42), (1, .int x1), (2, .int x2), (3, .int x3_19), (4, .int x4), (5, .int x5_20)]) ⟨rfl, rfl, rfl, rfl, rfl, rfl, trivial⟩ ?_
      exact hb33 x1 x2 x3_19 x4 x5_20 d_18 h
set_option maxRecDepth 100000 in
def MO_source_81 (b33 : Int32 → Int32 → Int32 → Int32 → Int32 → vmD → Prop) (x1 : Int32) (x2 : Int32) (x3 : Int32) (x4 : Int32) (x5 : Int32) (d : vmD) (Q : Int32 → vmD → Prop) : Prop :=
  ∃ m84, MO_source_84 b33 Q m84 x1 x2 x3 x4 x5 0 d
set_option maxRecDepth 100000 in
set_option maxHeartbeats 4000000 in
theorem tMO_source_81 {L : Nat} {e : vmD} {Qo : Option Value → vmW → Prop} {b33 : Int32 → Int32 → Int32 → Int32 → Int32 → vmD → Prop} {Q : Int32 → vmD → Prop} (hb33 : ∀ x1 x2 x3 x4 x5 d, b33 x1 x2 x3 x4 x5 d → vmWp 350 33 [(0, .ref 42), (1, .int x1), (2, .int x2), (3, .int x3), (4, .int x4), (5, .int x5)] [] (wR L d e) Qo) (hQ : ∀ r d, Q r d → Qo (some (.int r)) (wR L d e)) (x1 : Int32) (x2 : Int32) (x3 : Int32) (x4 : Int32) (x5 : Int32) (d : vmD) (h : MO_source_81 b33 x1 x2 x3 x4 x5 d Q) : vmWp 350 81 [(0, .ref 42), (1, .int x1), (2, .int x2), (3, .int x3), (4, .int x4), (5, .int x5)] [] (wR L d e) Qo := by
  unfold MO_source_81 at h
  refine st_go 2 (pc' := 84) (lo' := [(6, .int 0), (0, .ref 42), (1, .int x1), (2, .int x2), (3, .int x3), (4, .int x4), (5, .int x5)]) (st' := []) rfl ?_
  obtain ⟨m84, h⟩ := h
  refine vmWp.sub (lo' := [(0, .ref 42), (1, .int x1), (2, .int x2), (3, .int x3), (4, .int x4), (5, .int x5), (6, .int 0)]) ⟨rfl, rfl, rfl, rfl, rfl, rfl, rfl, trivial⟩ ?_
  exact tMO_source_84 hb33 hQ m84 x1 x2 x3 x4 x5 0 d h
set_option maxRecDepth 100000 in
def MO_source_145 (Q : Int32 → vmD → Prop) : Nat → Int32 → Int32 → vmD → Prop
  | 0, _, _, _ => False
  | n + 1, x3, x5, d => if x5 < x3 then
  (ixOk x5 9000 ∧
  bnd (gA d 64 x5.toNatClampNeg) fun y_27 =>
  ixOk x5 6000 ∧
  bnd (sA d 43 x5.toNatClampNeg y_27) fun d_29 =>
  bnd (x5 + 1) fun x5_30 =>
  (MO_source_145 Q n) x3 x5_30 d_29)
  else
  (bnd (sF d 42 1 x3) fun d_31 =>
  Q x3 d_31)
set_option maxRecDepth 100000 in
set_option maxHeartbeats 4000000 in
theorem tMO_source_145 {L : Nat} {e : vmD} {Qo : Option Value → vmW → Prop} {Q : Int32 → vmD → Prop} (hQ : ∀ r d, Q r d → Qo (some (.int r)) (wR L d e)) : ∀ (n : Nat) (x3 : Int32) (x5 : Int32) (d : vmD), MO_source_145 Q n x3 x5 d → vmWp 350 145 [(0, .ref 42), (3, .int x3), (5, .int x5)] [] (wR L d e) Qo := by
  intro n
  induction n with
  | zero => intro x3 x5 d h; exact h.elim
  | succ n ih =>
    intro x3 x5 d h
    unfold MO_source_145 at h
    refine st_go 2 (pc' := 148) (lo' := [(0, .ref 42), (3, .int x3), (5, .int x5)]) (st' := [.int x3, .int x5]) rfl ?_
    by_cases hc_25 : x5 < x3
    · have h := Eq.mp (if_pos hc_25) h
      refine st_icmp (t := 151) (b := false) rfl (decide_eq_false (Int32.not_le.mpr hc_25)) rfl ?_
      refine st_go 6 (pc' := 163) (lo' := [(0, .ref 42), (3, .int x3), (5, .int x5)]) (st' := [.int x5, .ref 64, .int x5, .ref 43]) rfl ?_
      obtain ⟨hj_26, h⟩ := h
      refine st_ialdR (o := 64) rfl rfl hj_26 rfl (fun y_27 hy_y_27 => ?_)
      have h := h y_27 hy_y_27
      obtain ⟨hj_28, h⟩ := h
      refine st_iastR (o := 43) rfl rfl hj_28 rfl (fun d_29 hy_d_29 => ?_)
      have h := h d_29 hy_d_29
      refine st_go 1 (pc' := 168) (lo' := [(5, .int (x5 + 1)), (0, .ref 42), (3, .int x3)]) (st' := []) rfl ?_
      refine st_locI (fun x5_30 hy_x5_30 => ?_)
      have h := h x5_30 hy_x5_30
      refine st_go 1 (pc' := 145) (lo' := [(5, .int x5_30), (0, .ref 42), (3, .int x3)]) (st' := []) rfl ?_
      refine vmWp.sub (lo' := [(0, .ref 42), (3, .int x3), (5, .int x5_30)]) ⟨rfl, rfl, rfl, trivial⟩ ?_
      exact ih x3 x5_30 d_29 h
    · have h := Eq.mp (if_neg hc_25) h
      refine st_icmp (t := 171) (b := true) rfl (decide_eq_true (Int32.not_lt.mp hc_25)) rfl ?_
      refine st_go 2 (pc' := 173) (lo' := [(0, .ref 42), (3, .int x3), (5, .int x5)]) (st' := [.int x3, .ref 42]) rfl ?_
      refine st_putIR (o := 42) (f := 1) rfl rfl rfl rfl rfl (fun d_31 hy_d_31 => ?_)
      have h := h d_31 hy_d_31
      refine st_go 1 (pc' := 177) (lo' := [(0, .ref 42), (3, .int x3), (5, .int x5)]) (st' := [.int x3]) rfl ?_
      exact st_retI rfl rfl (hQ _ _ h)
set_option maxRecDepth 100000 in
def MO_source_33 (Q : Int32 → vmD → Prop) : Nat → Int32 → Int32 → Int32 → Int32 → Int32 → vmD → Prop
  | 0, _, _, _, _, _, _ => False
  | n + 1, x1, x2, x3, x4, x5, d => if x5 < x2 then
  (if x5 < 0 then
  (bnd (sF d 42 66 0) fun d_7 =>
  MO_say 1330792224 d_7 fun d_8 =>
  MO_number x1 d_8 fun d_9 =>
  MO_source_81 (MO_source_33 Q n) x1 x2 x3 x4 x5 d_9 Q)
  else
  (MO_writeAt (x4 &&& 65535) d fun r_22 d_21 =>
  bnd ((x4 + r_22) &&& 65535) fun x4_23 =>
  MO_source_81 (MO_source_33 Q n) x1 x2 x3 x4_23 x5 d_21 Q))
  else
  (if (6000 : Int32) < x3 then
  (Q (-4) d)
  else
  (∃ m145, MO_source_145 Q m145 x3 0 d))
set_option maxRecDepth 100000 in
set_option maxHeartbeats 4000000 in
theorem tMO_source_33 {L : Nat} {e : vmD} {Qo : Option Value → vmW → Prop} {Q : Int32 → vmD → Prop} (hQ : ∀ r d, Q r d → Qo (some (.int r)) (wR L d e)) : ∀ (n : Nat) (x1 : Int32) (x2 : Int32) (x3 : Int32) (x4 : Int32) (x5 : Int32) (d : vmD), MO_source_33 Q n x1 x2 x3 x4 x5 d → vmWp 350 33 [(0, .ref 42), (1, .int x1), (2, .int x2), (3, .int x3), (4, .int x4), (5, .int x5)] [] (wR L d e) Qo := by
  intro n
  induction n with
  | zero => intro x1 x2 x3 x4 x5 d h; exact h.elim
  | succ n ih =>
    intro x1 x2 x3 x4 x5 d h
    unfold MO_source_33 at h
    refine st_go 2 (pc' := 36) (lo' := [(0, .ref 42), (1, .int x1), (2, .int x2), (3, .int x3), (4, .int x4), (5, .int x5)]) (st' := [.int x2, .int x5]) rfl ?_
    by_cases hc_5 : x5 < x2
    · have h := Eq.mp (if_pos hc_5) h
      refine st_icmp (t := 39) (b := false) rfl (decide_eq_false (Int32.not_le.mpr hc_5)) rfl ?_
      refine st_go 1 (pc' := 41) (lo' := [(0, .ref 42), (1, .int x1), (2, .int x2), (3, .int x3), (4, .int x4), (5, .int x5)]) (st' := [.int x5]) rfl ?_
      by_cases hc_6 : x5 < 0
      · have h := Eq.mp (if_pos hc_6) h
        refine st_if (t := 44) (b := false) rfl (decide_eq_false (Int32.not_le.mpr hc_6)) rfl ?_
        refine st_go 2 (pc' := 46) (lo' := [(0, .ref 42), (1, .int x1), (2, .int x2), (3, .int x3), (4, .int x4), (5, .int x5)]) (st' := [.int 0, .ref 42]) rfl ?_
        refine st_putIR (o := 42) (f := 66) rfl rfl rfl rfl rfl (fun d_7 hy_d_7 => ?_)
        have h := h d_7 hy_d_7
        refine st_go 2 (pc' := 53) (lo' := [(0, .ref 42), (1, .int x1), (2, .int x2), (3, .int x3), (4, .int x4), (5, .int x5)]) (st' := [.long 1330792224, .ref 42]) rfl ?_
        refine st_callv (k' := 329) (as := [.ref 42, .long 1330792224]) (rest := []) (lo' := [(0, .ref 42), (1, .long 1330792224)]) (wf := fun d => wR L d e) rfl rfl rfl ?_
        refine tMO_say (fun d_8 h => ⟨d_8, rfl, rfl, ?_⟩) 1330792224 d_7 h
        refine st_go 2 (pc' := 58) (lo' := [(0, .ref 42), (1, .int x1), (2, .int x2), (3, .int x3), (4, .int x4), (5, .int x5)]) (st' := [.int x1, .ref 42]) rfl ?_
        refine st_callv (k' := 330) (as := [.ref 42, .int x1]) (rest := []) (lo' := [(0, .ref 42), (1, .int x1)]) (wf := fun d => wR L d e) rfl rfl rfl ?_
        refine tMO_number (fun d_9 h => ⟨d_9, rfl, rfl, ?_⟩) x1 d_8 h
        refine st_go 1 (pc' := 81) (lo' := [(0, .ref 42), (1, .int x1), (2, .int x2), (3, .int x3), (4, .int x4), (5, .int x5)]) (st' := []) rfl ?_
        refine vmWp.sub (lo' := [(0, .ref 42), (1, .int x1), (2, .int x2), (3, .int x3), (4, .int x4), (5, .int x5)]) ⟨rfl, rfl, rfl, rfl, rfl, rfl, trivial⟩ ?_
        exact tMO_source_81 ih hQ x1 x2 x3 x4 x5 d_9 h
      · have h := Eq.mp (if_neg hc_6) h
        refine st_if (t := 64) (b := true) rfl (decide_eq_true (Int32.not_lt.mp hc_6)) rfl ?_
        refine st_go 5 (pc' := 72) (lo' := [(0, .ref 42), (1, .int x1), (2, .int x2), (3, .int x3), (4, .int x4), (5, .int x5)]) (st' := [.int (x4 &&& 65535), .ref 42, .int x4]) rfl ?_
        refine st_calli (k' := 347) (as := [.ref 42, .int (x4 &&& 65535)]) (rest := [.int x4]) (lo' := [(0, .ref 42), (1, .int (x4 &&& 65535))]) (wf := fun d => wR L d e) rfl rfl rfl ?_
        refine tMO_writeAt (fun r_22 d_21 h => ⟨r_22, d_21, rfl, rfl, ?_⟩) (x4 &&& 65535) d h
        refine st_go 4 (pc' := 81) (lo' := [(4, .int ((x4 + r_22) &&& 65535)), (0, .ref 42), (1, .int x1), (2, .int x2), (3, .int x3), (5, .int x5)]) (st' := []) rfl ?_
        refine st_locI (fun x4_23 hy_x4_23 => ?_)
        have h := h x4_23 hy_x4_23
        refine vmWp.sub (lo' := [(0, .ref 42), (1, .int x1), (2, .int x2), (3, .int x3), (4, .int x4_23), (5, .int x5)]) ⟨rfl, rfl, rfl, rfl, rfl, rfl, trivial⟩ ?_
        exact tMO_source_81 ih hQ x1 x2 x3 x4_23 x5 d_21 h
    · have h := Eq.mp (if_neg hc_5) h
      refine st_icmp (t := 132) (b := true) rfl (decide_eq_true (Int32.not_lt.mp hc_5)) rfl ?_
      refine st_go 2 (pc' := 136) (lo' := [(0, .ref 42), (1, .int x1), (2, .int x2), (3, .int x3), (4, .int x4), (5, .int x5)]) (st' := [.int 6000, .int x3]) rfl ?_
      by_cases hc_24 : (6000 : Int32) < x3
      · have h := Eq.mp (if_pos hc_24) h
        refine st_icmp (t := 139) (b := false) rfl (decide_eq_false (Int32.not_le.mpr hc_24)) rfl ?_
        refine st_go 1 (pc' := 141) (lo' := [(0, .ref 42), (1, .int x1), (2, .int x2), (3, .int x3), (4, .int x4), (5, .int x5)]) (st' := [.int (-4)]) rfl ?_
        exact st_retI rfl rfl (hQ _ _ h)
      · have h := Eq.mp (if_neg hc_24) h
        refine st_icmp (t := 142) (b := true) rfl (decide_eq_true (Int32.not_lt.mp hc_24)) rfl ?_
        refine st_go 2 (pc' := 145) (lo' := [(5, .int 0), (0, .ref 42), (1, .int x1), (2, .int x2), (3, .int x3), (4, .int x4)]) (st' := []) rfl ?_
        obtain ⟨m145, h⟩ := h
        refine vmWp.sub (lo' := [(0, .ref 42), (3, .int x3), (5, .int 0)]) ⟨rfl, rfl, rfl, trivial⟩ ?_
        exact tMO_source_145 hQ m145 x3 0 d h
set_option maxRecDepth 100000 in
def MO_source (x1 : Int32) (x2 : Int32) (d : vmD) (Q : Int32 → vmD → Prop) : Prop :=
  if x1 < 0 then
  (Q (-2) d)
  else
  (if (65535 : Int32) < x1 then
  (Q (-2) d)
  else
  (if x2 < 1 then
  (Q (-2) d)
  else
  (if (300 : Int32) < x2 then
  (Q (-2) d)
  else
  (∃ m33, MO_source_33 Q m33 x1 x2 0 x1 (-1) d))))
set_option maxRecDepth 100000 in
set_option maxHeartbeats 4000000 in
theorem tMO_source {L : Nat} {e : vmD} {Qo : Option Value → vmW → Prop} {Q : Int32 → vmD → Prop} (hQ : ∀ r d, Q r d → Qo (some (.int r)) (wR L d e)) (x1 : Int32) (x2 : Int32) (d : vmD) (h : MO_source x1 x2 d Q) : vmWp 350 0 [(0, .ref 42), (1, .int x1), (2, .int x2)] [] (wR L d e) Qo := by
  unfold MO_source at h
  refine st_go 1 (pc' := 1) (lo' := [(0, .ref 42), (1, .int x1), (2, .int x2)]) (st' := [.int x1]) rfl ?_
  by_cases hc_1 : x1 < 0
  · have h := Eq.mp (if_pos hc_1) h
    refine st_if (t := 22) (b := true) rfl (decide_eq_true hc_1) rfl ?_
    refine st_go 1 (pc' := 24) (lo' := [(0, .ref 42), (1, .int x1), (2, .int x2)]) (st' := [.int (-2)]) rfl ?_
    exact st_retI rfl rfl (hQ _ _ h)
  · have h := Eq.mp (if_neg hc_1) h
    refine st_if (t := 4) (b := false) rfl (decide_eq_false hc_1) rfl ?_
    refine st_go 2 (pc' := 7) (lo' := [(0, .ref 42), (1, .int x1), (2, .int x2)]) (st' := [.int 65535, .int x1]) rfl ?_
    by_cases hc_2 : (65535 : Int32) < x1
    · have h := Eq.mp (if_pos hc_2) h
      refine st_icmp (t := 22) (b := true) rfl (decide_eq_true hc_2) rfl ?_
      refine st_go 1 (pc' := 24) (lo' := [(0, .ref 42), (1, .int x1), (2, .int x2)]) (st' := [.int (-2)]) rfl ?_
      exact st_retI rfl rfl (hQ _ _ h)
    · have h := Eq.mp (if_neg hc_2) h
      refine st_icmp (t := 10) (b := false) rfl (decide_eq_false hc_2) rfl ?_
      refine st_go 2 (pc' := 12) (lo' := [(0, .ref 42), (1, .int x1), (2, .int x2)]) (st' := [.int 1, .int x2]) rfl ?_
      by_cases hc_3 : x2 < 1
      · have h := Eq.mp (if_pos hc_3) h
        refine st_icmp (t := 22) (b := true) rfl (decide_eq_true hc_3) rfl ?_
        refine st_go 1 (pc' := 24) (lo' := [(0, .ref 42), (1, .int x1), (2, .int x2)]) (st' := [.int (-2)]) rfl ?_
        exact st_retI rfl rfl (hQ _ _ h)
      · have h := Eq.mp (if_neg hc_3) h
        refine st_icmp (t := 15) (b := false) rfl (decide_eq_false hc_3) rfl ?_
        refine st_go 2 (pc' := 19) (lo' := [(0, .ref 42), (1, .int x1), (2, .int x2)]) (st' := [.int 300, .int x2]) rfl ?_
        by_cases hc_4 : (300 : Int32) < x2
        · have h := Eq.mp (if_pos hc_4) h
          refine st_icmp (t := 22) (b := false) rfl (decide_eq_false (Int32.not_le.mpr hc_4)) rfl ?_
          refine st_go 1 (pc' := 24) (lo' := [(0, .ref 42), (1, .int x1), (2, .int x2)]) (st' := [.int (-2)]) rfl ?_
          exact st_retI rfl rfl (hQ _ _ h)
        · have h := Eq.mp (if_neg hc_4) h
          refine st_icmp (t := 25) (b := true) rfl (decide_eq_true (Int32.not_lt.mp hc_4)) rfl ?_
          refine st_go 6 (pc' := 33) (lo' := [(5, .int (-1)), (4, .int x1), (3, .int 0), (0, .ref 42), (1, .int x1), (2, .int x2)]) (st' := []) rfl ?_
          obtain ⟨m33, h⟩ := h
          refine vmWp.sub (lo' := [(0, .ref 42), (1, .int x1), (2, .int x2), (3, .int 0), (4, .int x1), (5, .int (-1))]) ⟨rfl, rfl, rfl, rfl, rfl, rfl, trivial⟩ ?_
          exact tMO_source_33 hQ m33 x1 x2 0 x1 (-1) d h
set_option maxRecDepth 100000 in
def MO_octet (x1 : Int32) (d : vmD) (Q : Int32 → vmD → Prop) : Prop :=
  if x1 < 0 then
  (Q (-1) d)
  else
  (if x1 < 65536 then
  (ixOk x1 65536 ∧
  bnd (gA d 55 x1.toNatClampNeg) fun y_4 =>
  Q y_4 d)
  else
  (Q (-1) d))
set_option maxRecDepth 100000 in
set_option maxHeartbeats 4000000 in
theorem tMO_octet {L : Nat} {e : vmD} {Qo : Option Value → vmW → Prop} {Q : Int32 → vmD → Prop} (hQ : ∀ r d, Q r d → Qo (some (.int r)) (wR L d e)) (x1 : Int32) (d : vmD) (h : MO_octet x1 d Q) : vmWp 351 0 [(0, .ref 42), (1, .int x1)] [] (wR L d e) Qo := by
  unfold MO_octet at h
  refine st_go 1 (pc' := 1) (lo' := [(0, .ref 42), (1, .int x1)]) (st' := [.int x1]) rfl ?_
  by_cases hc_1 : x1 < 0
  · have h := Eq.mp (if_pos hc_1) h
    refine st_if (t := 19) (b := true) rfl (decide_eq_true hc_1) rfl ?_
    refine st_go 1 (pc' := 20) (lo' := [(0, .ref 42), (1, .int x1)]) (st' := [.int (-1)]) rfl ?_
    exact st_retI rfl rfl (hQ _ _ h)
  · have h := Eq.mp (if_neg hc_1) h
    refine st_if (t := 4) (b := false) rfl (decide_eq_false hc_1) rfl ?_
    refine st_go 2 (pc' := 7) (lo' := [(0, .ref 42), (1, .int x1)]) (st' := [.int 65536, .int x1]) rfl ?_
    by_cases hc_2 : x1 < 65536
    · have h := Eq.mp (if_pos hc_2) h
      refine st_icmp (t := 10) (b := false) rfl (decide_eq_false (Int32.not_le.mpr hc_2)) rfl ?_
      refine st_go 3 (pc' := 15) (lo' := [(0, .ref 42), (1, .int x1)]) (st' := [.int x1, .ref 55]) rfl ?_
      obtain ⟨hj_3, h⟩ := h
      refine st_ialdR (o := 55) rfl rfl hj_3 rfl (fun y_4 hy_y_4 => ?_)
      have h := h y_4 hy_y_4
      refine st_go 1 (pc' := 20) (lo' := [(0, .ref 42), (1, .int x1)]) (st' := [.int y_4]) rfl ?_
      exact st_retI rfl rfl (hQ _ _ h)
    · have h := Eq.mp (if_neg hc_2) h
      refine st_icmp (t := 19) (b := true) rfl (decide_eq_true (Int32.not_lt.mp hc_2)) rfl ?_
      refine st_go 1 (pc' := 20) (lo' := [(0, .ref 42), (1, .int x1)]) (st' := [.int (-1)]) rfl ?_
      exact st_retI rfl rfl (hQ _ _ h)
set_option maxRecDepth 100000 in
def MO_put (x1 : Int32) (x2 : Int32) (d : vmD) (Q : Int32 → vmD → Prop) : Prop :=
  if x1 < 0 then
  (Q (-1) d)
  else
  (if (65535 : Int32) < x1 then
  (Q (-1) d)
  else
  (if x2 < 0 then
  (Q (-2) d)
  else
  (if (255 : Int32) < x2 then
  (Q (-2) d)
  else
  (ixOk x1 65536 ∧
  bnd (gA d 55 x1.toNatClampNeg) fun y_6 =>
  ixOk x1 65536 ∧
  bnd (sA d 55 x1.toNatClampNeg x2) fun d_8 =>
  Q y_6 d_8))))
set_option maxRecDepth 100000 in
set_option maxHeartbeats 4000000 in
theorem tMO_put {L : Nat} {e : vmD} {Qo : Option Value → vmW → Prop} {Q : Int32 → vmD → Prop} (hQ : ∀ r d, Q r d → Qo (some (.int r)) (wR L d e)) (x1 : Int32) (x2 : Int32) (d : vmD) (h : MO_put x1 x2 d Q) : vmWp 352 0 [(0, .ref 42), (1, .int x1), (2, .int x2)] [] (wR L d e) Qo := by
  unfold MO_put at h
  refine st_go 1 (pc' := 1) (lo' := [(0, .ref 42), (1, .int x1), (2, .int x2)]) (st' := [.int x1]) rfl ?_
  by_cases hc_1 : x1 < 0
  · have h := Eq.mp (if_pos hc_1) h
    refine st_if (t := 10) (b := true) rfl (decide_eq_true hc_1) rfl ?_
    refine st_go 1 (pc' := 11) (lo' := [(0, .ref 42), (1, .int x1), (2, .int x2)]) (st' := [.int (-1)]) rfl ?_
    exact st_retI rfl rfl (hQ _ _ h)
  · have h := Eq.mp (if_neg hc_1) h
    refine st_if (t := 4) (b := false) rfl (decide_eq_false hc_1) rfl ?_
    refine st_go 2 (pc' := 7) (lo' := [(0, .ref 42), (1, .int x1), (2, .int x2)]) (st' := [.int 65535, .int x1]) rfl ?_
    by_cases hc_2 : (65535 : Int32) < x1
    · have h := Eq.mp (if_pos hc_2) h
      refine st_icmp (t := 10) (b := false) rfl (decide_eq_false (Int32.not_le.mpr hc_2)) rfl ?_
      refine st_go 1 (pc' := 11) (lo' := [(0, .ref 42), (1, .int x1), (2, .int x2)]) (st' := [.int (-1)]) rfl ?_
      exact st_retI rfl rfl (hQ _ _ h)
    · have h := Eq.mp (if_neg hc_2) h
      refine st_icmp (t := 12) (b := true) rfl (decide_eq_true (Int32.not_lt.mp hc_2)) rfl ?_
      refine st_go 1 (pc' := 13) (lo' := [(0, .ref 42), (1, .int x1), (2, .int x2)]) (st' := [.int x2]) rfl ?_
      by_cases hc_3 : x2 < 0
      · have h := Eq.mp (if_pos hc_3) h
        refine st_if (t := 23) (b := true) rfl (decide_eq_true hc_3) rfl ?_
        refine st_go 1 (pc' := 25) (lo' := [(0, .ref 42), (1, .int x1), (2, .int x2)]) (st' := [.int (-2)]) rfl ?_
        exact st_retI rfl rfl (hQ _ _ h)
      · have h := Eq.mp (if_neg hc_3) h
        refine st_if (t := 16) (b := false) rfl (decide_eq_false hc_3) rfl ?_
        refine st_go 2 (pc' := 20) (lo' := [(0, .ref 42), (1, .int x1), (2, .int x2)]) (st' := [.int 255, .int x2]) rfl ?_
        by_cases hc_4 : (255 : Int32) < x2
        · have h := Eq.mp (if_pos hc_4) h
          refine st_icmp (t := 23) (b := false) rfl (decide_eq_false (Int32.not_le.mpr hc_4)) rfl ?_
          refine st_go 1 (pc' := 25) (lo' := [(0, .ref 42), (1, .int x1), (2, .int x2)]) (st' := [.int (-2)]) rfl ?_
          exact st_retI rfl rfl (hQ _ _ h)
        · have h := Eq.mp (if_neg hc_4) h
          refine st_icmp (t := 26) (b := true) rfl (decide_eq_true (Int32.not_lt.mp hc_4)) rfl ?_
          refine st_go 3 (pc' := 31) (lo' := [(0, .ref 42), (1, .int x1), (2, .int x2)]) (st' := [.int x1, .ref 55]) rfl ?_
          obtain ⟨hj_5, h⟩ := h
          refine st_ialdR (o := 55) rfl rfl hj_5 rfl (fun y_6 hy_y_6 => ?_)
          have h := h y_6 hy_y_6
          refine st_go 5 (pc' := 39) (lo' := [(3, .int y_6), (0, .ref 42), (1, .int x1), (2, .int x2)]) (st' := [.int x2, .int x1, .ref 55]) rfl ?_
          obtain ⟨hj_7, h⟩ := h
          refine st_iastR (o := 55) rfl rfl hj_7 rfl (fun d_8 hy_d_8 => ?_)
          have h := h d_8 hy_d_8
          refine st_go 1 (pc' := 41) (lo' := [(3, .int y_6), (0, .ref 42), (1, .int x1), (2, .int x2)]) (st' := [.int y_6]) rfl ?_
          exact st_retI rfl rfl (hQ _ _ h)
set_option maxRecDepth 100000 in
def MO_clear_51 (Q : vmD → Prop) : Nat → Int32 → vmD → Prop
  | 0, _, _ => False
  | n + 1, x1, d => if x1 < 256 then
  (ixOk x1 256 ∧
  bnd (sA d 68 x1.toNatClampNeg (0 : Int32)) fun d_13 =>
  ixOk x1 256 ∧
  bnd (sA d_13 69 x1.toNatClampNeg (0 : Int32)) fun d_15 =>
  bnd (x1 + 1) fun x1_16 =>
  (MO_clear_51 Q n) x1_16 d_15)
  else
  (bnd (sF d 42 72 0) fun d_17 =>
  bnd (sF d_17 42 73 0) fun d_18 =>
  bnd (sA d_18 67 1 (0 : Int32)) fun d_19 =>
  bnd (sA d_19 67 2 (0 : Int32)) fun d_20 =>
  bnd (sF d_20 42 75 65535) fun d_21 =>
  bnd (sF d_21 42 76 0) fun d_22 =>
  bnd (sF d_22 42 77 0) fun d_23 =>
  bnd (sF d_23 42 78 0) fun d_24 =>
  bnd (sF d_24 42 79 0) fun d_25 =>
  bnd (sF d_25 42 82 0) fun d_26 =>
  bnd (sF d_26 42 83 0) fun d_27 =>
  bnd (sF d_27 42 85 0) fun d_28 =>
  bnd (sG d_28 42 86 0) fun d_29 =>
  Q d_29)
set_option maxRecDepth 100000 in
set_option maxHeartbeats 4000000 in
theorem tMO_clear_51 {L : Nat} {e : vmD} {Qo : Option Value → vmW → Prop} {Q : vmD → Prop} (hQ : ∀ d, Q d → Qo none (wR L d e)) : ∀ (n : Nat) (x1 : Int32) (d : vmD), MO_clear_51 Q n x1 d → vmWp 353 51 [(0, .ref 42), (1, .int x1)] [] (wR L d e) Qo := by
  intro n
  induction n with
  | zero => intro x1 d h; exact h.elim
  | succ n ih =>
    intro x1 d h
    unfold MO_clear_51 at h
    refine st_go 2 (pc' := 55) (lo' := [(0, .ref 42), (1, .int x1)]) (st' := [.int 256, .int x1]) rfl ?_
    by_cases hc_11 : x1 < 256
    · have h := Eq.mp (if_pos hc_11) h
      refine st_icmp (t := 58) (b := false) rfl (decide_eq_false (Int32.not_le.mpr hc_11)) rfl ?_
      refine st_go 4 (pc' := 64) (lo' := [(0, .ref 42), (1, .int x1)]) (st' := [.int 0, .int x1, .ref 68]) rfl ?_
      obtain ⟨hj_12, h⟩ := h
      refine st_iastR (o := 68) rfl rfl hj_12 rfl (fun d_13 hy_d_13 => ?_)
      have h := h d_13 hy_d_13
      refine st_go 4 (pc' := 71) (lo' := [(0, .ref 42), (1, .int x1)]) (st' := [.int 0, .int x1, .ref 69]) rfl ?_
      obtain ⟨hj_14, h⟩ := h
      refine st_iastR (o := 69) rfl rfl hj_14 rfl (fun d_15 hy_d_15 => ?_)
      have h := h d_15 hy_d_15
      refine st_go 1 (pc' := 75) (lo' := [(1, .int (x1 + 1)), (0, .ref 42)]) (st' := []) rfl ?_
      refine st_locI (fun x1_16 hy_x1_16 => ?_)
      have h := h x1_16 hy_x1_16
      refine st_go 1 (pc' := 51) (lo' := [(1, .int x1_16), (0, .ref 42)]) (st' := []) rfl ?_
      refine vmWp.sub (lo' := [(0, .ref 42), (1, .int x1_16)]) ⟨rfl, rfl, trivial⟩ ?_
      exact ih x1_16 d_15 h
    · have h := Eq.mp (if_neg hc_11) h
      refine st_icmp (t := 78) (b := true) rfl (decide_eq_true (Int32.not_lt.mp hc_11)) rfl ?_
      refine st_go 2 (pc' := 80) (lo' := [(0, .ref 42), (1, .int x1)]) (st' := [.int 0, .ref 42]) rfl ?_
      refine st_putIR (o := 42) (f := 72) rfl rfl rfl rfl rfl (fun d_17 hy_d_17 => ?_)
      have h := h d_17 hy_d_17
      refine st_go 2 (pc' := 85) (lo' := [(0, .ref 42), (1, .int x1)]) (st' := [.int 0, .ref 42]) rfl ?_
      refine st_putIR (o := 42) (f := 73) rfl rfl rfl rfl rfl (fun d_18 hy_d_18 => ?_)
      have h := h d_18 hy_d_18
      refine st_go 4 (pc' := 94) (lo' := [(0, .ref 42), (1, .int x1)]) (st' := [.int 0, .int 1, .ref 67]) rfl ?_
      refine st_iastR (o := 67) rfl rfl (show ixOk 1 3 by decide) rfl (fun d_19 hy_d_19 => ?_)
      have h := h d_19 hy_d_19
      refine st_go 4 (pc' := 101) (lo' := [(0, .ref 42), (1, .int x1)]) (st' := [.int 0, .int 2, .ref 67]) rfl ?_
      refine st_iastR (o := 67) rfl rfl (show ixOk 2 3 by decide) rfl (fun d_20 hy_d_20 => ?_)
      have h := h d_20 hy_d_20
      refine st_go 2 (pc' := 105) (lo' := [(0, .ref 42), (1, .int x1)]) (st' := [.int 65535, .ref 42]) rfl ?_
      refine st_putIR (o := 42) (f := 75) rfl rfl rfl rfl rfl (fun d_21 hy_d_21 => ?_)
      have h := h d_21 hy_d_21
      refine st_go 2 (pc' := 110) (lo' := [(0, .ref 42), (1, .int x1)]) (st' := [.int 0, .ref 42]) rfl ?_
      refine st_putIR (o := 42) (f := 76) rfl rfl rfl rfl rfl (fun d_22 hy_d_22 => ?_)
      have h := h d_22 hy_d_22
      refine st_go 2 (pc' := 115) (lo' := [(0, .ref 42), (1, .int x1)]) (st' := [.int 0, .ref 42]) rfl ?_
      refine st_putIR (o := 42) (f := 77) rfl rfl rfl rfl rfl (fun d_23 hy_d_23 => ?_)
      have h := h d_23 hy_d_23
      refine st_go 2 (pc' := 120) (lo' := [(0, .ref 42), (1, .int x1)]) (st' := [.int 0, .ref 42]) rfl ?_
      refine st_putIR (o := 42) (f := 78) rfl rfl rfl rfl rfl (fun d_24 hy_d_24 => ?_)
      have h := h d_24 hy_d_24
      refine st_go 2 (pc' := 125) (lo' := [(0, .ref 42), (1, .int x1)]) (st' := [.int 0, .ref 42]) rfl ?_
      refine st_putIR (o := 42) (f := 79) rfl rfl rfl rfl rfl (fun d_25 hy_d_25 => ?_)
      have h := h d_25 hy_d_25
      refine st_go 2 (pc' := 130) (lo' := [(0, .ref 42), (1, .int x1)]) (st' := [.int 0, .ref 42]) rfl ?_
      refine st_putZR (o := 42) (f := 82) rfl rfl rfl rfl (Or.inl rfl) rfl (fun d_26 hy_d_26 => ?_)
      have h := h d_26 hy_d_26
      refine st_go 2 (pc' := 135) (lo' := [(0, .ref 42), (1, .int x1)]) (st' := [.int 0, .ref 42]) rfl ?_
      refine st_putZR (o := 42) (f := 83) rfl rfl rfl rfl (Or.inl rfl) rfl (fun d_27 hy_d_27 => ?_)
      have h := h d_27 hy_d_27
      refine st_go 2 (pc' := 140) (lo' := [(0, .ref 42), (1, .int x1)]) (st' := [.int 0, .ref 42]) rfl ?_
      refine st_putZR (o := 42) (f := 85) rfl rfl rfl rfl (Or.inl rfl) rfl (fun d_28 hy_d_28 => ?_)
      have h := h d_28 hy_d_28
      refine st_go 2 (pc' := 145) (lo' := [(0, .ref 42), (1, .int x1)]) (st' := [.long 0, .ref 42]) rfl ?_
      refine st_putJR (o := 42) (f := 86) rfl rfl rfl rfl rfl (fun d_29 hy_d_29 => ?_)
      have h := h d_29 hy_d_29
      exact st_retV rfl rfl (hQ _ h)
set_option maxRecDepth 100000 in
def MO_clear_23 (Q : vmD → Prop) : Nat → Int32 → vmD → Prop
  | 0, _, _ => False
  | n + 1, x1, d => if x1 < 8 then
  (ixOk x1 8 ∧
  bnd (sA d 65 x1.toNatClampNeg (0 : Int32)) fun d_7 =>
  ixOk x1 8 ∧
  bnd (sA d_7 66 x1.toNatClampNeg (0 : Int32)) fun d_9 =>
  bnd (x1 + 1) fun x1_10 =>
  (MO_clear_23 Q n) x1_10 d_9)
  else
  (∃ m51, MO_clear_51 Q m51 0 d)
set_option maxRecDepth 100000 in
set_option maxHeartbeats 4000000 in
theorem tMO_clear_23 {L : Nat} {e : vmD} {Qo : Option Value → vmW → Prop} {Q : vmD → Prop} (hQ : ∀ d, Q d → Qo none (wR L d e)) : ∀ (n : Nat) (x1 : Int32) (d : vmD), MO_clear_23 Q n x1 d → vmWp 353 23 [(0, .ref 42), (1, .int x1)] [] (wR L d e) Qo := by
  intro n
  induction n with
  | zero => intro x1 d h; exact h.elim
  | succ n ih =>
    intro x1 d h
    unfold MO_clear_23 at h
    refine st_go 2 (pc' := 26) (lo' := [(0, .ref 42), (1, .int x1)]) (st' := [.int 8, .int x1]) rfl ?_
    by_cases hc_5 : x1 < 8
    · have h := Eq.mp (if_pos hc_5) h
      refine st_icmp (t := 29) (b := false) rfl (decide_eq_false (Int32.not_le.mpr hc_5)) rfl ?_
      refine st_go 4 (pc' := 35) (lo' := [(0, .ref 42), (1, .int x1)]) (st' := [.int 0, .int x1, .ref 65]) rfl ?_
      obtain ⟨hj_6, h⟩ := h
      refine st_iastR (o := 65) rfl rfl hj_6 rfl (fun d_7 hy_d_7 => ?_)
      have h := h d_7 hy_d_7
      refine st_go 4 (pc' := 42) (lo' := [(0, .ref 42), (1, .int x1)]) (st' := [.int 0, .int x1, .ref 66]) rfl ?_
      obtain ⟨hj_8, h⟩ := h
      refine st_iastR (o := 66) rfl rfl hj_8 rfl (fun d_9 hy_d_9 => ?_)
      have h := h d_9 hy_d_9
      refine st_go 1 (pc' := 46) (lo' := [(1, .int (x1 + 1)), (0, .ref 42)]) (st' := []) rfl ?_
      refine st_locI (fun x1_10 hy_x1_10 => ?_)
      have h := h x1_10 hy_x1_10
      refine st_go 1 (pc' := 23) (lo' := [(1, .int x1_10), (0, .ref 42)]) (st' := []) rfl ?_
      refine vmWp.sub (lo' := [(0, .ref 42), (1, .int x1_10)]) ⟨rfl, rfl, trivial⟩ ?_
      exact ih x1_10 d_9 h
    · have h := Eq.mp (if_neg hc_5) h
      refine st_icmp (t := 49) (b := true) rfl (decide_eq_true (Int32.not_lt.mp hc_5)) rfl ?_
      refine st_go 2 (pc' := 51) (lo' := [(1, .int 0), (0, .ref 42)]) (st' := []) rfl ?_
      obtain ⟨m51, h⟩ := h
      refine vmWp.sub (lo' := [(0, .ref 42), (1, .int 0)]) ⟨rfl, rfl, trivial⟩ ?_
      exact tMO_clear_51 hQ m51 0 d h
set_option maxRecDepth 100000 in
def MO_clear_2 (Q : vmD → Prop) : Nat → Int32 → vmD → Prop
  | 0, _, _ => False
  | n + 1, x1, d => if x1 < 65536 then
  (ixOk x1 65536 ∧
  bnd (sA d 55 x1.toNatClampNeg (0 : Int32)) fun d_3 =>
  bnd (x1 + 1) fun x1_4 =>
  (MO_clear_2 Q n) x1_4 d_3)
  else
  (∃ m23, MO_clear_23 Q m23 0 d)
set_option maxRecDepth 100000 in
set_option maxHeartbeats 4000000 in
theorem tMO_clear_2 {L : Nat} {e : vmD} {Qo : Option Value → vmW → Prop} {Q : vmD → Prop} (hQ : ∀ d, Q d → Qo none (wR L d e)) : ∀ (n : Nat) (x1 : Int32) (d : vmD), MO_clear_2 Q n x1 d → vmWp 353 2 [(0, .ref 42), (1, .int x1)] [] (wR L d e) Qo := by
  intro n
  induction n with
  | zero => intro x1 d h; exact h.elim
  | succ n ih =>
    intro x1 d h
    unfold MO_clear_2 at h
    refine st_go 2 (pc' := 5) (lo' := [(0, .ref 42), (1, .int x1)]) (st' := [.int 65536, .int x1]) rfl ?_
    by_cases hc_1 : x1 < 65536
    · have h := Eq.mp (if_pos hc_1) h
      refine st_icmp (t := 8) (b := false) rfl (decide_eq_false (Int32.not_le.mpr hc_1)) rfl ?_
      refine st_go 4 (pc' := 14) (lo' := [(0, .ref 42), (1, .int x1)]) (st' := [.int 0, .int x1, .ref 55]) rfl ?_
      obtain ⟨hj_2, h⟩ := h
      refine st_iastR (o := 55) rfl rfl hj_2 rfl (fun d_3 hy_d_3 => ?_)
      have h := h d_3 hy_d_3
      refine st_go 1 (pc' := 18) (lo' := [(1, .int (x1 + 1)), (0, .ref 42)]) (st' := []) rfl ?_
      refine st_locI (fun x1_4 hy_x1_4 => ?_)
      have h := h x1_4 hy_x1_4
      refine st_go 1 (pc' := 2) (lo' := [(1, .int x1_4), (0, .ref 42)]) (st' := []) rfl ?_
      refine vmWp.sub (lo' := [(0, .ref 42), (1, .int x1_4)]) ⟨rfl, rfl, trivial⟩ ?_
      exact ih x1_4 d_3 h
    · have h := Eq.mp (if_neg hc_1) h
      refine st_icmp (t := 21) (b := true) rfl (decide_eq_true (Int32.not_lt.mp hc_1)) rfl ?_
      refine st_go 2 (pc' := 23) (lo' := [(1, .int 0), (0, .ref 42)]) (st' := []) rfl ?_
      obtain ⟨m23, h⟩ := h
      refine vmWp.sub (lo' := [(0, .ref 42), (1, .int 0)]) ⟨rfl, rfl, trivial⟩ ?_
      exact tMO_clear_23 hQ m23 0 d h
set_option maxRecDepth 100000 in
def MO_clear (d : vmD) (Q : vmD → Prop) : Prop :=
  ∃ m2, MO_clear_2 Q m2 0 d
set_option maxRecDepth 100000 in
set_option maxHeartbeats 4000000 in
theorem tMO_clear {L : Nat} {e : vmD} {Qo : Option Value → vmW → Prop} {Q : vmD → Prop} (hQ : ∀ d, Q d → Qo none (wR L d e)) (d : vmD) (h : MO_clear d Q) : vmWp 353 0 [(0, .ref 42)] [] (wR L d e) Qo := by
  unfold MO_clear at h
  refine st_go 2 (pc' := 2) (lo' := [(1, .int 0), (0, .ref 42)]) (st' := []) rfl ?_
  obtain ⟨m2, h⟩ := h
  refine vmWp.sub (lo' := [(0, .ref 42), (1, .int 0)]) ⟨rfl, rfl, trivial⟩ ?_
  exact tMO_clear_2 hQ m2 0 d h
set_option maxRecDepth 100000 in
def MO_two (x1 : Int32) (d : vmD) (Q : Int32 → vmD → Prop) : Prop :=
  ixOk x1 8 ∧
  bnd (gA d 65 x1.toNatClampNeg) fun y_2 =>
  ixOk (x1 + 1) 8 ∧
  bnd (gA d 65 (x1 + 1).toNatClampNeg) fun y_4 =>
  Q ((y_2 <<< ((8 : Int32) &&& 31)) ||| y_4) d
set_option maxRecDepth 100000 in
set_option maxHeartbeats 4000000 in
theorem tMO_two {L : Nat} {e : vmD} {Qo : Option Value → vmW → Prop} {Q : Int32 → vmD → Prop} (hQ : ∀ r d, Q r d → Qo (some (.int r)) (wR L d e)) (x1 : Int32) (d : vmD) (h : MO_two x1 d Q) : vmWp 354 0 [(0, .ref 42), (1, .int x1)] [] (wR L d e) Qo := by
  unfold MO_two at h
  refine st_go 3 (pc' := 5) (lo' := [(0, .ref 42), (1, .int x1)]) (st' := [.int x1, .ref 65]) rfl ?_
  obtain ⟨hj_1, h⟩ := h
  refine st_ialdR (o := 65) rfl rfl hj_1 rfl (fun y_2 hy_y_2 => ?_)
  have h := h y_2 hy_y_2
  refine st_go 7 (pc' := 16) (lo' := [(0, .ref 42), (1, .int x1)]) (st' := [.int (x1 + 1), .ref 65, .int (y_2 <<< ((8 : Int32) &&& 31))]) rfl ?_
  obtain ⟨hj_3, h⟩ := h
  refine st_ialdR (o := 65) rfl rfl hj_3 rfl (fun y_4 hy_y_4 => ?_)
  have h := h y_4 hy_y_4
  refine st_go 1 (pc' := 18) (lo' := [(0, .ref 42), (1, .int x1)]) (st' := [.int ((y_2 <<< ((8 : Int32) &&& 31)) ||| y_4)]) rfl ?_
  exact st_retI rfl rfl (hQ _ _ h)
set_option maxRecDepth 100000 in
def MO_at (x1 : Int32) (d : vmD) (Q : Int32 → vmD → Prop) : Prop :=
  if x1 = 0 then
  (bnd (gA d 65 7) fun y_2 =>
  bnd (gA d 65 6) fun y_3 =>
  Q ((y_2 <<< ((8 : Int32) &&& 31)) ||| y_3) d)
  else
  if x1 = 1 then
  (MO_two (((2 : Int32) * x1) - 2) d fun r_6 d_5 =>
  Q r_6 d_5)
  else
  if x1 = 2 then
  (MO_two (((2 : Int32) * x1) - 2) d fun r_9 d_8 =>
  Q r_9 d_8)
  else
  if x1 = 3 then
  (MO_two (((2 : Int32) * x1) - 2) d fun r_12 d_11 =>
  Q r_12 d_11)
  else
  if x1 = 4 then
  (bnd (gA d 66 7) fun y_14 =>
  bnd (gA d 66 6) fun y_15 =>
  Q ((y_14 <<< ((8 : Int32) &&& 31)) ||| y_15) d)
  else
  if x1 = 5 then
  (ixOk (((2 : Int32) * x1) - 10) 8 ∧
  bnd (gA d 66 (((2 : Int32) * x1) - 10).toNatClampNeg) fun y_18 =>
  ixOk (((2 : Int32) * x1) - 9) 8 ∧
  bnd (gA d 66 (((2 : Int32) * x1) - 9).toNatClampNeg) fun y_20 =>
  Q ((y_18 <<< ((8 : Int32) &&& 31)) ||| y_20) d)
  else
  if x1 = 6 then
  (ixOk (((2 : Int32) * x1) - 10) 8 ∧
  bnd (gA d 66 (((2 : Int32) * x1) - 10).toNatClampNeg) fun y_23 =>
  ixOk (((2 : Int32) * x1) - 9) 8 ∧
  bnd (gA d 66 (((2 : Int32) * x1) - 9).toNatClampNeg) fun y_25 =>
  Q ((y_23 <<< ((8 : Int32) &&& 31)) ||| y_25) d)
  else
  if x1 = 7 then
  (ixOk (((2 : Int32) * x1) - 10) 8 ∧
  bnd (gA d 66 (((2 : Int32) * x1) - 10).toNatClampNeg) fun y_28 =>
  ixOk (((2 : Int32) * x1) - 9) 8 ∧
  bnd (gA d 66 (((2 : Int32) * x1) - 9).toNatClampNeg) fun y_30 =>
  Q ((y_28 <<< ((8 : Int32) &&& 31)) ||| y_30) d)
  else
  if x1 = 8 then
  (ixOk (x1 - 7) 3 ∧
  bnd (gA d 67 (x1 - 7).toNatClampNeg) fun y_33 =>
  Q y_33 d)
  else
  if x1 = 9 then
  (ixOk (x1 - 7) 3 ∧
  bnd (gA d 67 (x1 - 7).toNatClampNeg) fun y_36 =>
  Q y_36 d)
  else
  if x1 = 10 then
  (Q (gF d 42 75) d)
  else
  if x1 = 11 then
  (Q (gF d 42 76) d)
  else
  if x1 = 12 then
  (Q (gF d 42 72) d)
  else
  if x1 = 13 then
  (Q (gF d 42 73) d)
  else
  if x1 = 14 then
  (Q (gF d 42 77) d)
  else
  if x1 = 15 then
  (Q (gF d 42 78) d)
  else
  (Q (gF d 42 79) d)
set_option maxRecDepth 100000 in
set_option maxHeartbeats 4000000 in
theorem tMO_at {L : Nat} {e : vmD} {Qo : Option Value → vmW → Prop} {Q : Int32 → vmD → Prop} (hQ : ∀ r d, Q r d → Qo (some (.int r)) (wR L d e)) (x1 : Int32) (d : vmD) (h : MO_at x1 d Q) : vmWp 356 0 [(0, .ref 42), (1, .int x1)] [] (wR L d e) Qo := by
  unfold MO_at at h
  refine st_go 1 (pc' := 1) (lo' := [(0, .ref 42), (1, .int x1)]) (st' := [.int x1]) rfl ?_
  by_cases hc_1 : x1 = 0
  · have h := Eq.mp (if_pos hc_1) h
    refine st_tab (t := 80) rfl (by rw [hc_1]; rfl) ?_
    refine st_go 3 (pc' := 86) (lo' := [(0, .ref 42), (1, .int x1)]) (st' := [.int 7, .ref 65]) rfl ?_
    refine st_ialdR (o := 65) rfl rfl (show ixOk 7 8 by decide) rfl (fun y_2 hy_y_2 => ?_)
    have h := h y_2 hy_y_2
    refine st_go 5 (pc' := 96) (lo' := [(0, .ref 42), (1, .int x1)]) (st' := [.int 6, .ref 65, .int (y_2 <<< ((8 : Int32) &&& 31))]) rfl ?_
    refine st_ialdR (o := 65) rfl rfl (show ixOk 6 8 by decide) rfl (fun y_3 hy_y_3 => ?_)
    have h := h y_3 hy_y_3
    refine st_go 1 (pc' := 98) (lo' := [(0, .ref 42), (1, .int x1)]) (st' := [.int ((y_2 <<< ((8 : Int32) &&& 31)) ||| y_3)]) rfl ?_
    exact st_retI rfl rfl (hQ _ _ h)
  · have h := Eq.mp (if_neg hc_1) h
    by_cases hc_4 : x1 = 1
    · have h := Eq.mp (if_pos hc_4) h
      refine st_tab (t := 99) rfl (by rw [hc_4]; rfl) ?_
      refine st_go 6 (pc' := 105) (lo' := [(0, .ref 42), (1, .int x1)]) (st' := [.int (((2 : Int32) * x1) - 2), .ref 42]) rfl ?_
      refine st_calli (k' := 354) (as := [.ref 42, .int (((2 : Int32) * x1) - 2)]) (rest := []) (lo' := [(0, .ref 42), (1, .int (((2 : Int32) * x1) - 2))]) (wf := fun d => wR L d e) rfl rfl rfl ?_
      refine tMO_two (fun r_6 d_5 h => ⟨r_6, d_5, rfl, rfl, ?_⟩) (((2 : Int32) * x1) - 2) d h
      exact st_retI rfl rfl (hQ _ _ h)
    · have h := Eq.mp (if_neg hc_4) h
      by_cases hc_7 : x1 = 2
      · have h := Eq.mp (if_pos hc_7) h
        refine st_tab (t := 99) rfl (by rw [hc_7]; rfl) ?_
        refine st_go 6 (pc' := 105) (lo' := [(0, .ref 42), (1, .int x1)]) (st' := [.int (((2 : Int32) * x1) - 2), .ref 42]) rfl ?_
        refine st_calli (k' := 354) (as := [.ref 42, .int (((2 : Int32) * x1) - 2)]) (rest := []) (lo' := [(0, .ref 42), (1, .int (((2 : Int32) * x1) - 2))]) (wf := fun d => wR L d e) rfl rfl rfl ?_
        refine tMO_two (fun r_9 d_8 h => ⟨r_9, d_8, rfl, rfl, ?_⟩) (((2 : Int32) * x1) - 2) d h
        exact st_retI rfl rfl (hQ _ _ h)
      · have h := Eq.mp (if_neg hc_7) h
        by_cases hc_10 : x1 = 3
        · have h := Eq.mp (if_pos hc_10) h
          refine st_tab (t := 99) rfl (by rw [hc_10]; rfl) ?_
          refine st_go 6 (pc' := 105) (lo' := [(0, .ref 42), (1, .int x1)]) (st' := [.int (((2 : Int32) * x1) - 2), .ref 42]) rfl ?_
          refine st_calli (k' := 354) (as := [.ref 42, .int (((2 : Int32) * x1) - 2)]) (rest := []) (lo' := [(0, .ref 42), (1, .int (((2 : Int32) * x1) - 2))]) (wf := fun d => wR L d e) rfl rfl rfl ?_
          refine tMO_two (fun r_12 d_11 h => ⟨r_12, d_11, rfl, rfl, ?_⟩) (((2 : Int32) * x1) - 2) d h
          exact st_retI rfl rfl (hQ _ _ h)
        · have h := Eq.mp (if_neg hc_10) h
          by_cases hc_13 : x1 = 4
          · have h := Eq.mp (if_pos hc_13) h
            refine st_tab (t := 109) rfl (by rw [hc_13]; rfl) ?_
            refine st_go 3 (pc' := 115) (lo' := [(0, .ref 42), (1, .int x1)]) (st' := [.int 7, .ref 66]) rfl ?_
            refine st_ialdR (o := 66) rfl rfl (show ixOk 7 8 by decide) rfl (fun y_14 hy_y_14 => ?_)
            have h := h y_14 hy_y_14
            refine st_go 5 (pc' := 125) (lo' := [(0, .ref 42), (1, .int x1)]) (st' := [.int 6, .ref 66, .int (y_14 <<< ((8 : Int32) &&& 31))]) rfl ?_
            refine st_ialdR (o := 66) rfl rfl (show ixOk 6 8 by decide) rfl (fun y_15 hy_y_15 => ?_)
            have h := h y_15 hy_y_15
            refine st_go 1 (pc' := 127) (lo' := [(0, .ref 42), (1, .int x1)]) (st' := [.int ((y_14 <<< ((8 : Int32) &&& 31)) ||| y_15)]) rfl ?_
            exact st_retI rfl rfl (hQ _ _ h)
          · have h := Eq.mp (if_neg hc_13) h
            by_cases hc_16 : x1 = 5
            · have h := Eq.mp (if_pos hc_16) h
              refine st_tab (t := 128) rfl (by rw [hc_16]; rfl) ?_
              refine st_go 7 (pc' := 138) (lo' := [(0, .ref 42), (1, .int x1)]) (st' := [.int (((2 : Int32) * x1) - 10), .ref 66]) rfl ?_
              obtain ⟨hj_17, h⟩ := h
              refine st_ialdR (o := 66) rfl rfl hj_17 rfl (fun y_18 hy_y_18 => ?_)
              have h := h y_18 hy_y_18
              refine st_go 9 (pc' := 152) (lo' := [(0, .ref 42), (1, .int x1)]) (st' := [.int (((2 : Int32) * x1) - 9), .ref 66, .int (y_18 <<< ((8 : Int32) &&& 31))]) rfl ?_
              obtain ⟨hj_19, h⟩ := h
              refine st_ialdR (o := 66) rfl rfl hj_19 rfl (fun y_20 hy_y_20 => ?_)
              have h := h y_20 hy_y_20
              refine st_go 1 (pc' := 154) (lo' := [(0, .ref 42), (1, .int x1)]) (st' := [.int ((y_18 <<< ((8 : Int32) &&& 31)) ||| y_20)]) rfl ?_
              exact st_retI rfl rfl (hQ _ _ h)
            · have h := Eq.mp (if_neg hc_16) h
              by_cases hc_21 : x1 = 6
              · have h := Eq.mp (if_pos hc_21) h
                refine st_tab (t := 128) rfl (by rw [hc_21]; rfl) ?_
                refine st_go 7 (pc' := 138) (lo' := [(0, .ref 42), (1, .int x1)]) (st' := [.int (((2 : Int32) * x1) - 10), .ref 66]) rfl ?_
                obtain ⟨hj_22, h⟩ := h
                refine st_ialdR (o := 66) rfl rfl hj_22 rfl (fun y_23 hy_y_23 => ?_)
                have h := h y_23 hy_y_23
                refine st_go 9 (pc' := 152) (lo' := [(0, .ref 42), (1, .int x1)]) (st' := [.int (((2 : Int32) * x1) - 9), .ref 66, .int (y_23 <<< ((8 : Int32) &&& 31))]) rfl ?_
                obtain ⟨hj_24, h⟩ := h
                refine st_ialdR (o := 66) rfl rfl hj_24 rfl (fun y_25 hy_y_25 => ?_)
                have h := h y_25 hy_y_25
                refine st_go 1 (pc' := 154) (lo' := [(0, .ref 42), (1, .int x1)]) (st' := [.int ((y_23 <<< ((8 : Int32) &&& 31)) ||| y_25)]) rfl ?_
                exact st_retI rfl rfl (hQ _ _ h)
              · have h := Eq.mp (if_neg hc_21) h
                by_cases hc_26 : x1 = 7
                · have h := Eq.mp (if_pos hc_26) h
                  refine st_tab (t := 128) rfl (by rw [hc_26]; rfl) ?_
                  refine st_go 7 (pc' := 138) (lo' := [(0, .ref 42), (1, .int x1)]) (st' := [.int (((2 : Int32) * x1) - 10), .ref 66]) rfl ?_
                  obtain ⟨hj_27, h⟩ := h
                  refine st_ialdR (o := 66) rfl rfl hj_27 rfl (fun y_28 hy_y_28 => ?_)
                  have h := h y_28 hy_y_28
                  refine st_go 9 (pc' := 152) (lo' := [(0, .ref 42), (1, .int x1)]) (st' := [.int (((2 : Int32) * x1) - 9), .ref 66, .int (y_28 <<< ((8 : Int32) &&& 31))]) rfl ?_
                  obtain ⟨hj_29, h⟩ := h
                  refine st_ialdR (o := 66) rfl rfl hj_29 rfl (fun y_30 hy_y_30 => ?_)
                  have h := h y_30 hy_y_30
                  refine st_go 1 (pc' := 154) (lo' := [(0, .ref 42), (1, .int x1)]) (st' := [.int ((y_28 <<< ((8 : Int32) &&& 31)) ||| y_30)]) rfl ?_
                  exact st_retI rfl rfl (hQ _ _ h)
                · have h := Eq.mp (if_neg hc_26) h
                  by_cases hc_31 : x1 = 8
                  · have h := Eq.mp (if_pos hc_31) h
                    refine st_tab (t := 155) rfl (by rw [hc_31]; rfl) ?_
                    refine st_go 5 (pc' := 163) (lo' := [(0, .ref 42), (1, .int x1)]) (st' := [.int (x1 - 7), .ref 67]) rfl ?_
                    obtain ⟨hj_32, h⟩ := h
                    refine st_ialdR (o := 67) rfl rfl hj_32 rfl (fun y_33 hy_y_33 => ?_)
                    have h := h y_33 hy_y_33
                    exact st_retI rfl rfl (hQ _ _ h)
                  · have h := Eq.mp (if_neg hc_31) h
                    by_cases hc_34 : x1 = 9
                    · have h := Eq.mp (if_pos hc_34) h
                      refine st_tab (t := 155) rfl (by rw [hc_34]; rfl) ?_
                      refine st_go 5 (pc' := 163) (lo' := [(0, .ref 42), (1, .int x1)]) (st' := [.int (x1 - 7), .ref 67]) rfl ?_
                      obtain ⟨hj_35, h⟩ := h
                      refine st_ialdR (o := 67) rfl rfl hj_35 rfl (fun y_36 hy_y_36 => ?_)
                      have h := h y_36 hy_y_36
                      exact st_retI rfl rfl (hQ _ _ h)
                    · have h := Eq.mp (if_neg hc_34) h
                      by_cases hc_37 : x1 = 10
                      · have h := Eq.mp (if_pos hc_37) h
                        refine st_tab (t := 165) rfl (by rw [hc_37]; rfl) ?_
                        refine st_go 2 (pc' := 169) (lo' := [(0, .ref 42), (1, .int x1)]) (st' := [.int (gF d 42 75)]) rfl ?_
                        exact st_retI rfl rfl (hQ _ _ h)
                      · have h := Eq.mp (if_neg hc_37) h
                        by_cases hc_38 : x1 = 11
                        · have h := Eq.mp (if_pos hc_38) h
                          refine st_tab (t := 170) rfl (by rw [hc_38]; rfl) ?_
                          refine st_go 2 (pc' := 174) (lo' := [(0, .ref 42), (1, .int x1)]) (st' := [.int (gF d 42 76)]) rfl ?_
                          exact st_retI rfl rfl (hQ _ _ h)
                        · have h := Eq.mp (if_neg hc_38) h
                          by_cases hc_39 : x1 = 12
                          · have h := Eq.mp (if_pos hc_39) h
                            refine st_tab (t := 175) rfl (by rw [hc_39]; rfl) ?_
                            refine st_go 2 (pc' := 179) (lo' := [(0, .ref 42), (1, .int x1)]) (st' := [.int (gF d 42 72)]) rfl ?_
                            exact st_retI rfl rfl (hQ _ _ h)
                          · have h := Eq.mp (if_neg hc_39) h
                            by_cases hc_40 : x1 = 13
                            · have h := Eq.mp (if_pos hc_40) h
                              refine st_tab (t := 180) rfl (by rw [hc_40]; rfl) ?_
                              refine st_go 2 (pc' := 184) (lo' := [(0, .ref 42), (1, .int x1)]) (st' := [.int (gF d 42 73)]) rfl ?_
                              exact st_retI rfl rfl (hQ _ _ h)
                            · have h := Eq.mp (if_neg hc_40) h
                              by_cases hc_41 : x1 = 14
                              · have h := Eq.mp (if_pos hc_41) h
                                refine st_tab (t := 185) rfl (by rw [hc_41]; rfl) ?_
                                refine st_go 2 (pc' := 189) (lo' := [(0, .ref 42), (1, .int x1)]) (st' := [.int (gF d 42 77)]) rfl ?_
                                exact st_retI rfl rfl (hQ _ _ h)
                              · have h := Eq.mp (if_neg hc_41) h
                                by_cases hc_42 : x1 = 15
                                · have h := Eq.mp (if_pos hc_42) h
                                  refine st_tab (t := 190) rfl (by rw [hc_42]; rfl) ?_
                                  refine st_go 2 (pc' := 194) (lo' := [(0, .ref 42), (1, .int x1)]) (st' := [.int (gF d 42 78)]) rfl ?_
                                  exact st_retI rfl rfl (hQ _ _ h)
                                · have h := Eq.mp (if_neg hc_42) h
                                  refine st_tab (t := 195) rfl (tab_def rfl (by decide) rfl (by
                                    intro j hj hx
                                    have hj : j < 16 := hj
                                    rcases (j = 0 ∨ j = 1 ∨ j = 2 ∨ j = 3 ∨ j = 4 ∨ j = 5 ∨ j = 6 ∨ j = 7 ∨ j = 8 ∨ j = 9 ∨ j = 10 ∨ j = 11 ∨ j = 12 ∨ j = 13 ∨ j = 14 ∨ j = 15 : Prop) |> fun _ => (show j = 0 ∨ j = 1 ∨ j = 2 ∨ j = 3 ∨ j = 4 ∨ j = 5 ∨ j = 6 ∨ j = 7 ∨ j = 8 ∨ j = 9 ∨ j = 10 ∨ j = 11 ∨ j = 12 ∨ j = 13 ∨ j = 14 ∨ j = 15 by omega) with rfl | rfl | rfl | rfl | rfl | rfl | rfl | rfl | rfl | rfl | rfl | rfl | rfl | rfl | rfl | rfl <;> first | rfl | exact absurd hx hc_1 | exact absurd hx hc_4 | exact absurd hx hc_7 | exact absurd hx hc_10 | exact absurd hx hc_13 | exact absurd hx hc_16 | exact absurd hx hc_21 | exact absurd hx hc_26 | exact absurd hx hc_31 | exact absurd hx hc_34 | exact absurd hx hc_37 | exact absurd hx hc_38 | exact absurd hx hc_39 | exact absurd hx hc_40 | exact absurd hx hc_41 | exact absurd hx hc_42)) ?_
                                  refine st_go 2 (pc' := 199) (lo' := [(0, .ref 42), (1, .int x1)]) (st' := [.int (gF d 42 79)]) rfl ?_
                                  exact st_retI rfl rfl (hQ _ _ h)
set_option maxRecDepth 100000 in
def MO_register (x1 : Int32) (d : vmD) (Q : Int32 → vmD → Prop) : Prop :=
  if x1 < 0 then
  (Q (-1) d)
  else
  (if (16 : Int32) < x1 then
  (Q (-1) d)
  else
  (MO_at x1 d fun r_4 d_3 =>
  Q r_4 d_3))
set_option maxRecDepth 100000 in
set_option maxHeartbeats 4000000 in
theorem tMO_register {L : Nat} {e : vmD} {Qo : Option Value → vmW → Prop} {Q : Int32 → vmD → Prop} (hQ : ∀ r d, Q r d → Qo (some (.int r)) (wR L d e)) (x1 : Int32) (d : vmD) (h : MO_register x1 d Q) : vmWp 357 0 [(0, .ref 42), (1, .int x1)] [] (wR L d e) Qo := by
  unfold MO_register at h
  refine st_go 1 (pc' := 1) (lo' := [(0, .ref 42), (1, .int x1)]) (st' := [.int x1]) rfl ?_
  by_cases hc_1 : x1 < 0
  · have h := Eq.mp (if_pos hc_1) h
    refine st_if (t := 18) (b := true) rfl (decide_eq_true hc_1) rfl ?_
    refine st_go 1 (pc' := 19) (lo' := [(0, .ref 42), (1, .int x1)]) (st' := [.int (-1)]) rfl ?_
    exact st_retI rfl rfl (hQ _ _ h)
  · have h := Eq.mp (if_neg hc_1) h
    refine st_if (t := 4) (b := false) rfl (decide_eq_false hc_1) rfl ?_
    refine st_go 2 (pc' := 7) (lo' := [(0, .ref 42), (1, .int x1)]) (st' := [.int 16, .int x1]) rfl ?_
    by_cases hc_2 : (16 : Int32) < x1
    · have h := Eq.mp (if_pos hc_2) h
      refine st_icmp (t := 18) (b := true) rfl (decide_eq_true hc_2) rfl ?_
      refine st_go 1 (pc' := 19) (lo' := [(0, .ref 42), (1, .int x1)]) (st' := [.int (-1)]) rfl ?_
      exact st_retI rfl rfl (hQ _ _ h)
    · have h := Eq.mp (if_neg hc_2) h
      refine st_icmp (t := 10) (b := false) rfl (decide_eq_false hc_2) rfl ?_
      refine st_go 2 (pc' := 12) (lo' := [(0, .ref 42), (1, .int x1)]) (st' := [.int x1, .ref 42]) rfl ?_
      refine st_calli (k' := 356) (as := [.ref 42, .int x1]) (rest := []) (lo' := [(0, .ref 42), (1, .int x1)]) (wf := fun d => wR L d e) rfl rfl rfl ?_
      refine tMO_at (fun r_4 d_3 h => ⟨r_4, d_3, rfl, rfl, ?_⟩) x1 d h
      refine st_go 1 (pc' := 19) (lo' := [(0, .ref 42), (1, .int x1)]) (st' := [.int r_4]) rfl ?_
      exact st_retI rfl rfl (hQ _ _ h)
set_option maxRecDepth 100000 in
def MO_setTwo (x1 : Int32) (x2 : Int32) (d : vmD) (Q : vmD → Prop) : Prop :=
  ixOk x1 8 ∧
  bnd (sA d 65 x1.toNatClampNeg ((x2 >>> ((8 : Int32) &&& 31)) &&& 255)) fun d_2 =>
  ixOk (x1 + 1) 8 ∧
  bnd (sA d_2 65 (x1 + 1).toNatClampNeg (x2 &&& 255)) fun d_4 =>
  Q d_4
set_option maxRecDepth 100000 in
set_option maxHeartbeats 4000000 in
theorem tMO_setTwo {L : Nat} {e : vmD} {Qo : Option Value → vmW → Prop} {Q : vmD → Prop} (hQ : ∀ d, Q d → Qo none (wR L d e)) (x1 : Int32) (x2 : Int32) (d : vmD) (h : MO_setTwo x1 x2 d Q) : vmWp 355 0 [(0, .ref 42), (1, .int x1), (2, .int x2)] [] (wR L d e) Qo := by
  unfold MO_setTwo at h
  refine st_go 8 (pc' := 13) (lo' := [(0, .ref 42), (1, .int x1), (2, .int x2)]) (st' := [.int ((x2 >>> ((8 : Int32) &&& 31)) &&& 255), .int x1, .ref 65]) rfl ?_
  obtain ⟨hj_1, h⟩ := h
  refine st_iastR (o := 65) rfl rfl hj_1 rfl (fun d_2 hy_d_2 => ?_)
  have h := h d_2 hy_d_2
  refine st_go 8 (pc' := 26) (lo' := [(0, .ref 42), (1, .int x1), (2, .int x2)]) (st' := [.int (x2 &&& 255), .int (x1 + 1), .ref 65]) rfl ?_
  obtain ⟨hj_3, h⟩ := h
  refine st_iastR (o := 65) rfl rfl hj_3 rfl (fun d_4 hy_d_4 => ?_)
  have h := h d_4 hy_d_4
  exact st_retV rfl rfl (hQ _ h)
set_option maxRecDepth 100000 in
def MO_set_46 (x1 : Int32) (x2 : Int32) (s0 : Int32) (d : vmD) (Q : Int32 → vmD → Prop) : Prop :=
  if x2 < 0 then
  (Q (-2) d)
  else
  (if s0 < x2 then
  (Q (-2) d)
  else
  (MO_at x1 d fun r_7 d_6 =>
  if x1 = 0 then
  (bnd (sA d_6 65 7 (x2 >>> ((8 : Int32) &&& 31))) fun d_9 =>
  bnd (sA d_9 65 6 (x2 &&& 255)) fun d_10 =>
  Q r_7 d_10)
  else
  if x1 = 1 then
  (MO_setTwo (((2 : Int32) * x1) - 2) x2 d_6 fun d_12 =>
  Q r_7 d_12)
  else
  if x1 = 2 then
  (MO_setTwo (((2 : Int32) * x1) - 2) x2 d_6 fun d_14 =>
  Q r_7 d_14)
  else
  if x1 = 3 then
  (MO_setTwo (((2 : Int32) * x1) - 2) x2 d_6 fun d_16 =>
  Q r_7 d_16)
  else
  if x1 = 4 then
  (bnd (sA d_6 66 7 (x2 >>> ((8 : Int32) &&& 31))) fun d_18 =>
  bnd (sA d_18 66 6 (x2 &&& 255)) fun d_19 =>
  Q r_7 d_19)
  else
  if x1 = 5 then
  (ixOk (((2 : Int32) * x1) - 10) 8 ∧
  bnd (sA d_6 66 (((2 : Int32) * x1) - 10).toNatClampNeg (x2 >>> ((8 : Int32) &&& 31))) fun d_22 =>
  ixOk (((2 : Int32) * x1) - 9) 8 ∧
  bnd (sA d_22 66 (((2 : Int32) * x1) - 9).toNatClampNeg (x2 &&& 255)) fun d_24 =>
  Q r_7 d_24)
  else
  if x1 = 6 then
  (ixOk (((2 : Int32) * x1) - 10) 8 ∧
  bnd (sA d_6 66 (((2 : Int32) * x1) - 10).toNatClampNeg (x2 >>> ((8 : Int32) &&& 31))) fun d_27 =>
  ixOk (((2 : Int32) * x1) - 9) 8 ∧
  bnd (sA d_27 66 (((2 : Int32) * x1) - 9).toNatClampNeg (x2 &&& 255)) fun d_29 =>
  Q r_7 d_29)
  else
  if x1 = 7 then
  (ixOk (((2 : Int32) * x1) - 10) 8 ∧
  bnd (sA d_6 66 (((2 : Int32) * x1) - 10).toNatClampNeg (x2 >>> ((8 : Int32) &&& 31))) fun d_32 =>
  ixOk (((2 : Int32) * x1) - 9) 8 ∧
  bnd (sA d_32 66 (((2 : Int32) * x1) - 9).toNatClampNeg (x2 &&& 255)) fun d_34 =>
  Q r_7 d_34)
  else
  if x1 = 8 then
  (ixOk (x1 - 7) 3 ∧
  bnd (sA d_6 67 (x1 - 7).toNatClampNeg x2) fun d_37 =>
  Q r_7 d_37)
  else
  if x1 = 9 then
  (ixOk (x1 - 7) 3 ∧
  bnd (sA d_6 67 (x1 - 7).toNatClampNeg x2) fun d_40 =>
  Q r_7 d_40)
  else
  if x1 = 10 then
  (bnd (sF d_6 42 75 x2) fun d_42 =>
  Q r_7 d_42)
  else
  if x1 = 11 then
  (bnd (sF d_6 42 76 x2) fun d_44 =>
  Q r_7 d_44)
  else
  if x1 = 12 then
  (bnd (sF d_6 42 72 x2) fun d_46 =>
  Q r_7 d_46)
  else
  if x1 = 13 then
  (bnd (sF d_6 42 73 x2) fun d_48 =>
  Q r_7 d_48)
  else
  if x1 = 14 then
  (bnd (sF d_6 42 77 x2) fun d_50 =>
  Q r_7 d_50)
  else
  if x1 = 15 then
  (bnd (sF d_6 42 78 x2) fun d_52 =>
  Q r_7 d_52)
  else
  (bnd (sF d_6 42 79 x2) fun d_53 =>
  Q r_7 d_53)))
set_option maxRecDepth 100000 in
set_option maxHeartbeats 4000000 in
theorem tMO_set_46 {L : Nat} {e : vmD} {Qo : Option Value → vmW → Prop} {Q : Int32 → vmD → Prop} (hQ : ∀ r d, Q r d → Qo (some (.int r)) (wR L d e)) (x1 : Int32) (x2 : Int32) (s0 : Int32) (d : vmD) (h : MO_set_46 x1 x2 s0 d Q) : vmWp 358 46 [(0, .ref 42), (1, .int x1), (2, .int x2)] [.int s0] (wR L d e) Qo := by
  unfold MO_set_46 at h
  refine st_go 2 (pc' := 48) (lo' := [(3, .int s0), (0, .ref 42), (1, .int x1), (2, .int x2)]) (st' := [.int x2]) rfl ?_
  by_cases hc_4 : x2 < 0
  · have h := Eq.mp (if_pos hc_4) h
    refine st_if (t := 56) (b := true) rfl (decide_eq_true hc_4) rfl ?_
    refine st_go 1 (pc' := 58) (lo' := [(3, .int s0), (0, .ref 42), (1, .int x1), (2, .int x2)]) (st' := [.int (-2)]) rfl ?_
    exact st_retI rfl rfl (hQ _ _ h)
  · have h := Eq.mp (if_neg hc_4) h
    refine st_if (t := 51) (b := false) rfl (decide_eq_false hc_4) rfl ?_
    refine st_go 2 (pc' := 53) (lo' := [(3, .int s0), (0, .ref 42), (1, .int x1), (2, .int x2)]) (st' := [.int s0, .int x2]) rfl ?_
    by_cases hc_5 : s0 < x2
    · have h := Eq.mp (if_pos hc_5) h
      refine st_icmp (t := 56) (b := false) rfl (decide_eq_false (Int32.not_le.mpr hc_5)) rfl ?_
      refine st_go 1 (pc' := 58) (lo' := [(3, .int s0), (0, .ref 42), (1, .int x1), (2, .int x2)]) (st' := [.int (-2)]) rfl ?_
      exact st_retI rfl rfl (hQ _ _ h)
    · have h := Eq.mp (if_neg hc_5) h
      refine st_icmp (t := 59) (b := true) rfl (decide_eq_true (Int32.not_lt.mp hc_5)) rfl ?_
      refine st_go 2 (pc' := 61) (lo' := [(3, .int s0), (0, .ref 42), (1, .int x1), (2, .int x2)]) (st' := [.int x1, .ref 42]) rfl ?_
      refine st_calli (k' := 356) (as := [.ref 42, .int x1]) (rest := []) (lo' := [(0, .ref 42), (1, .int x1)]) (wf := fun d => wR L d e) rfl rfl rfl ?_
      refine tMO_at (fun r_7 d_6 h => ⟨r_7, d_6, rfl, rfl, ?_⟩) x1 d h
      refine st_go 2 (pc' := 67) (lo' := [(4, .int r_7), (3, .int s0), (0, .ref 42), (1, .int x1), (2, .int x2)]) (st' := [.int x1]) rfl ?_
      by_cases hc_8 : x1 = 0
      · have h := Eq.mp (if_pos hc_8) h
        refine st_tab (t := 144) rfl (by rw [hc_8]; rfl) ?_
        refine st_go 6 (pc' := 154) (lo' := [(4, .int r_7), (3, .int s0), (0, .ref 42), (1, .int x1), (2, .int x2)]) (st' := [.int (x2 >>> ((8 : Int32) &&& 31)), .int 7, .ref 65]) rfl ?_
        refine st_iastR (o := 65) rfl rfl (show ixOk 7 8 by decide) rfl (fun d_9 hy_d_9 => ?_)
        have h := h d_9 hy_d_9
        refine st_go 6 (pc' := 166) (lo' := [(4, .int r_7), (3, .int s0), (0, .ref 42), (1, .int x1), (2, .int x2)]) (st' := [.int (x2 &&& 255), .int 6, .ref 65]) rfl ?_
        refine st_iastR (o := 65) rfl rfl (show ixOk 6 8 by decide) rfl (fun d_10 hy_d_10 => ?_)
        have h := h d_10 hy_d_10
        refine st_go 2 (pc' := 311) (lo' := [(4, .int r_7), (3, .int s0), (0, .ref 42), (1, .int x1), (2, .int x2)]) (st' := [.int r_7]) rfl ?_
        exact st_retI rfl rfl (hQ _ _ h)
      · have h := Eq.mp (if_neg hc_8) h
        by_cases hc_11 : x1 = 1
        · have h := Eq.mp (if_pos hc_11) h
          refine st_tab (t := 170) rfl (by rw [hc_11]; rfl) ?_
          refine st_go 7 (pc' := 177) (lo' := [(4, .int r_7), (3, .int s0), (0, .ref 42), (1, .int x1), (2, .int x2)]) (st' := [.int x2, .int (((2 : Int32) * x1) - 2), .ref 42]) rfl ?_
          refine st_callv (k' := 355) (as := [.ref 42, .int (((2 : Int32) * x1) - 2), .int x2]) (rest := []) (lo' := [(0, .ref 42), (1, .int (((2 : Int32) * x1) - 2)), (2, .int x2)]) (wf := fun d => wR L d e) rfl rfl rfl ?_
          refine tMO_setTwo (fun d_12 h => ⟨d_12, rfl, rfl, ?_⟩) (((2 : Int32) * x1) - 2) x2 d_6 h
          refine st_go 2 (pc' := 311) (lo' := [(4, .int r_7), (3, .int s0), (0, .ref 42), (1, .int x1), (2, .int x2)]) (st' := [.int r_7]) rfl ?_
          exact st_retI rfl rfl (hQ _ _ h)
        · have h := Eq.mp (if_neg hc_11) h
          by_cases hc_13 : x1 = 2
          · have h := Eq.mp (if_pos hc_13) h
            refine st_tab (t := 170) rfl (by rw [hc_13]; rfl) ?_
            refine st_go 7 (pc' := 177) (lo' := [(4, .int r_7), (3, .int s0), (0, .ref 42), (1, .int x1), (2, .int x2)]) (st' := [.int x2, .int (((2 : Int32) * x1) - 2), .ref 42]) rfl ?_
            refine st_callv (k' := 355) (as := [.ref 42, .int (((2 : Int32) * x1) - 2), .int x2]) (rest := []) (lo' := [(0, .ref 42), (1, .int (((2 : Int32) * x1) - 2)), (2, .int x2)]) (wf := fun d => wR L d e) rfl rfl rfl ?_
            refine tMO_setTwo (fun d_14 h => ⟨d_14, rfl, rfl, ?_⟩) (((2 : Int32) * x1) - 2) x2 d_6 h
            refine st_go 2 (pc' := 311) (lo' := [(4, .int r_7), (3, .int s0), (0, .ref 42), (1, .int x1), (2, .int x2)]) (st' := [.int r_7]) rfl ?_
            exact st_retI rfl rfl (hQ _ _ h)
          · have h := Eq.mp (if_neg hc_13) h
            by_cases hc_15 : x1 = 3
            · have h := Eq.mp (if_pos hc_15) h
              refine st_tab (t := 170) rfl (by rw [hc_15]; rfl) ?_
              refine st_go 7 (pc' := 177) (lo' := [(4, .int r_7), (3, .int s0), (0, .ref 42), (1, .int x1), (2, .int x2)]) (st' := [.int x2, .int (((2 : Int32) * x1) - 2), .ref 42]) rfl ?_
              refine st_callv (k' := 355) (as := [.ref 42, .int (((2 : Int32) * x1) - 2), .int x2]) (rest := []) (lo' := [(0, .ref 42), (1, .int (((2 : Int32) * x1) - 2)), (2, .int x2)]) (wf := fun d => wR L d e) rfl rfl rfl ?_
              refine tMO_setTwo (fun d_16 h => ⟨d_16, rfl, rfl, ?_⟩) (((2 : Int32) * x1) - 2) x2 d_6 h
              refine st_go 2 (pc' := 311) (lo' := [(4, .int r_7), (3, .int s0), (0, .ref 42), (1, .int x1), (2, .int x2)]) (st' := [.int r_7]) rfl ?_
              exact st_retI rfl rfl (hQ _ _ h)
            · have h := Eq.mp (if_neg hc_15) h
              by_cases hc_17 : x1 = 4
              · have h := Eq.mp (if_pos hc_17) h
                refine st_tab (t := 183) rfl (by rw [hc_17]; rfl) ?_
                refine st_go 6 (pc' := 193) (lo' := [(4, .int r_7), (3, .int s0), (0, .ref 42), (1, .int x1), (2, .int x2)]) (st' := [.int (x2 >>> ((8 : Int32) &&& 31)), .int 7, .ref 66]) rfl ?_
                refine st_iastR (o := 66) rfl rfl (show ixOk 7 8 by decide) rfl (fun d_18 hy_d_18 => ?_)
                have h := h d_18 hy_d_18
                refine st_go 6 (pc' := 205) (lo' := [(4, .int r_7), (3, .int s0), (0, .ref 42), (1, .int x1), (2, .int x2)]) (st' := [.int (x2 &&& 255), .int 6, .ref 66]) rfl ?_
                refine st_iastR (o := 66) rfl rfl (show ixOk 6 8 by decide) rfl (fun d_19 hy_d_19 => ?_)
                have h := h d_19 hy_d_19
                refine st_go 2 (pc' := 311) (lo' := [(4, .int r_7), (3, .int s0), (0, .ref 42), (1, .int x1), (2, .int x2)]) (st' := [.int r_7]) rfl ?_
                exact st_retI rfl rfl (hQ _ _ h)
              · have h := Eq.mp (if_neg hc_17) h
                by_cases hc_20 : x1 = 5
                · have h := Eq.mp (if_pos hc_20) h
                  refine st_tab (t := 209) rfl (by rw [hc_20]; rfl) ?_
                  refine st_go 10 (pc' := 223) (lo' := [(4, .int r_7), (3, .int s0), (0, .ref 42), (1, .int x1), (2, .int x2)]) (st' := [.int (x2 >>> ((8 : Int32) &&& 31)), .int (((2 : Int32) * x1) - 10), .ref 66]) rfl ?_
                  obtain ⟨hj_21, h⟩ := h
                  refine st_iastR (o := 66) rfl rfl hj_21 rfl (fun d_22 hy_d_22 => ?_)
                  have h := h d_22 hy_d_22
                  refine st_go 10 (pc' := 239) (lo' := [(4, .int r_7), (3, .int s0), (0, .ref 42), (1, .int x1), (2, .int x2)]) (st' := [.int (x2 &&& 255), .int (((2 : Int32) * x1) - 9), .ref 66]) rfl ?_
                  obtain ⟨hj_23, h⟩ := h
                  refine st_iastR (o := 66) rfl rfl hj_23 rfl (fun d_24 hy_d_24 => ?_)
                  have h := h d_24 hy_d_24
                  refine st_go 2 (pc' := 311) (lo' := [(4, .int r_7), (3, .int s0), (0, .ref 42), (1, .int x1), (2, .int x2)]) (st' := [.int r_7]) rfl ?_
                  exact st_retI rfl rfl (hQ _ _ h)
                · have h := Eq.mp (if_neg hc_20) h
                  by_cases hc_25 : x1 = 6
                  · have h := Eq.mp (if_pos hc_25) h
                    refine st_tab (t := 209) rfl (by rw [hc_25]; rfl) ?_
                    refine st_go 10 (pc' := 223) (lo' := [(4, .int r_7), (3, .int s0), (0, .ref 42), (1, .int x1), (2, .int x2)]) (st' := [.int (x2 >>> ((8 : Int32) &&& 31)), .int (((2 : Int32) * x1) - 10), .ref 66]) rfl ?_
                    obtain ⟨hj_26, h⟩ := h
                    refine st_iastR (o := 66) rfl rfl hj_26 rfl (fun d_27 hy_d_27 => ?_)
                    have h := h d_27 hy_d_27
                    refine st_go 10 (pc' := 239) (lo' := [(4, .int r_7), (3, .int s0), (0, .ref 42), (1, .int x1), (2, .int x2)]) (st' := [.int (x2 &&& 255), .int (((2 : Int32) * x1) - 9), .ref 66]) rfl ?_
                    obtain ⟨hj_28, h⟩ := h
                    refine st_iastR (o := 66) rfl rfl hj_28 rfl (fun d_29 hy_d_29 => ?_)
                    have h := h d_29 hy_d_29
                    refine st_go 2 (pc' := 311) (lo' := [(4, .int r_7), (3, .int s0), (0, .ref 42), (1, .int x1), (2, .int x2)]) (st' := [.int r_7]) rfl ?_
                    exact st_retI rfl rfl (hQ _ _ h)
                  · have h := Eq.mp (if_neg hc_25) h
                    by_cases hc_30 : x1 = 7
                    · have h := Eq.mp (if_pos hc_30) h
                      refine st_tab (t := 209) rfl (by rw [hc_30]; rfl) ?_
                      refine st_go 10 (pc' := 223) (lo' := [(4, .int r_7), (3, .int s0), (0, .ref 42), (1, .int x1), (2, .int x2)]) (st' := [.int (x2 >>> ((8 : Int32) &&& 31)), .int (((2 : Int32) * x1) - 10), .ref 66]) rfl ?_
                      obtain ⟨hj_31, h⟩ := h
                      refine st_iastR (o := 66) rfl rfl hj_31 rfl (fun d_32 hy_d_32 => ?_)
                      have h := h d_32 hy_d_32
                      refine st_go 10 (pc' := 239) (lo' := [(4, .int r_7), (3, .int s0), (0, .ref 42), (1, .int x1), (2, .int x2)]) (st' := [.int (x2 &&& 255), .int (((2 : Int32) * x1) - 9), .ref 66]) rfl ?_
                      obtain ⟨hj_33, h⟩ := h
                      refine st_iastR (o := 66) rfl rfl hj_33 rfl (fun d_34 hy_d_34 => ?_)
                      have h := h d_34 hy_d_34
                      refine st_go 2 (pc' := 311) (lo' := [(4, .int r_7), (3, .int s0), (0, .ref 42), (1, .int x1), (2, .int x2)]) (st' := [.int r_7]) rfl ?_
                      exact st_retI rfl rfl (hQ _ _ h)
                    · have h := Eq.mp (if_neg hc_30) h
                      by_cases hc_35 : x1 = 8
                      · have h := Eq.mp (if_pos hc_35) h
                        refine st_tab (t := 243) rfl (by rw [hc_35]; rfl) ?_
                        refine st_go 6 (pc' := 252) (lo' := [(4, .int r_7), (3, .int s0), (0, .ref 42), (1, .int x1), (2, .int x2)]) (st' := [.int x2, .int (x1 - 7), .ref 67]) rfl ?_
                        obtain ⟨hj_36, h⟩ := h
                        refine st_iastR (o := 67) rfl rfl hj_36 rfl (fun d_37 hy_d_37 => ?_)
                        have h := h d_37 hy_d_37
                        refine st_go 2 (pc' := 311) (lo' := [(4, .int r_7), (3, .int s0), (0, .ref 42), (1, .int x1), (2, .int x2)]) (st' := [.int r_7]) rfl ?_
                        exact st_retI rfl rfl (hQ _ _ h)
                      · have h := Eq.mp (if_neg hc_35) h
                        by_cases hc_38 : x1 = 9
                        · have h := Eq.mp (if_pos hc_38) h
                          refine st_tab (t := 243) rfl (by rw [hc_38]; rfl) ?_
                          refine st_go 6 (pc' := 252) (lo' := [(4, .int r_7), (3, .int s0), (0, .ref 42), (1, .int x1), (2, .int x2)]) (st' := [.int x2, .int (x1 - 7), .ref 67]) rfl ?_
                          obtain ⟨hj_39, h⟩ := h
                          refine st_iastR (o := 67) rfl rfl hj_39 rfl (fun d_40 hy_d_40 => ?_)
                          have h := h d_40 hy_d_40
                          refine st_go 2 (pc' := 311) (lo' := [(4, .int r_7), (3, .int s0), (0, .ref 42), (1, .int x1), (2, .int x2)]) (st' := [.int r_7]) rfl ?_
                          exact st_retI rfl rfl (hQ _ _ h)
                        · have h := Eq.mp (if_neg hc_38) h
                          by_cases hc_41 : x1 = 10
                          · have h := Eq.mp (if_pos hc_41) h
                            refine st_tab (t := 256) rfl (by rw [hc_41]; rfl) ?_
                            refine st_go 2 (pc' := 258) (lo' := [(4, .int r_7), (3, .int s0), (0, .ref 42), (1, .int x1), (2, .int x2)]) (st' := [.int x2, .ref 42]) rfl ?_
                            refine st_putIR (o := 42) (f := 75) rfl rfl rfl rfl rfl (fun d_42 hy_d_42 => ?_)
                            have h := h d_42 hy_d_42
                            refine st_go 2 (pc' := 311) (lo' := [(4, .int r_7), (3, .int s0), (0, .ref 42), (1, .int x1), (2, .int x2)]) (st' := [.int r_7]) rfl ?_
                            exact st_retI rfl rfl (hQ _ _ h)
                          · have h := Eq.mp (if_neg hc_41) h
                            by_cases hc_43 : x1 = 11
                            · have h := Eq.mp (if_pos hc_43) h
                              refine st_tab (t := 264) rfl (by rw [hc_43]; rfl) ?_
                              refine st_go 2 (pc' := 266) (lo' := [(4, .int r_7), (3, .int s0), (0, .ref 42), (1, .int x1), (2, .int x2)]) (st' := [.int x2, .ref 42]) rfl ?_
                              refine st_putIR (o := 42) (f := 76) rfl rfl rfl rfl rfl (fun d_44 hy_d_44 => ?_)
                              have h := h d_44 hy_d_44
                              refine st_go 2 (pc' := 311) (lo' := [(4, .int r_7), (3, .int s0), (0, .ref 42), (1, .int x1), (2, .int x2)]) (st' := [.int r_7]) rfl ?_
                              exact st_retI rfl rfl (hQ _ _ h)
                            · have h := Eq.mp (if_neg hc_43) h
                              by_cases hc_45 : x1 = 12
                              · have h := Eq.mp (if_pos hc_45) h
                                refine st_tab (t := 272) rfl (by rw [hc_45]; rfl) ?_
                                refine st_go 2 (pc' := 274) (lo' := [(4, .int r_7), (3, .int s0), (0, .ref 42), (1, .int x1), (2, .int x2)]) (st' := [.int x2, .ref 42]) rfl ?_
                                refine st_putIR (o := 42) (f := 72) rfl rfl rfl rfl rfl (fun d_46 hy_d_46 => ?_)
                                have h := h d_46 hy_d_46
                                refine st_go 2 (pc' := 311) (lo' := [(4, .int r_7), (3, .int s0), (0, .ref 42), (1, .int x1), (2, .int x2)]) (st' := [.int r_7]) rfl ?_
                                exact st_retI rfl rfl (hQ _ _ h)
                              · have h := Eq.mp (if_neg hc_45) h
                                by_cases hc_47 : x1 = 13
                                · have h := Eq.mp (if_pos hc_47) h
                                  refine st_tab (t := 280) rfl (by rw [hc_47]; rfl) ?_
                                  refine st_go 2 (pc' := 282) (lo' := [(4, .int r_7), (3, .int s0), (0, .ref 42), (1, .int x1), (2, .int x2)]) (st' := [.int x2, .ref 42]) rfl ?_
                                  refine st_putIR (o := 42) (f := 73) rfl rfl rfl rfl rfl (fun d_48 hy_d_48 => ?_)
                                  have h := h d_48 hy_d_48
                                  refine st_go 2 (pc' := 311) (lo' := [(4, .int r_7), (3, .int s0), (0, .ref 42), (1, .int x1), (2, .int x2)]) (st' := [.int r_7]) rfl ?_
                                  exact st_retI rfl rfl (hQ _ _ h)
                                · have h := Eq.mp (if_neg hc_47) h
                                  by_cases hc_49 : x1 = 14
                                  · have h := Eq.mp (if_pos hc_49) h
                                    refine st_tab (t := 288) rfl (by rw [hc_49]; rfl) ?_
                                    refine st_go 2 (pc' := 290) (lo' := [(4, .int r_7), (3, .int s0), (0, .ref 42), (1, .int x1), (2, .int x2)]) (st' := [.int x2, .ref 42]) rfl ?_
                                    refine st_putIR (o := 42) (f := 77) rfl rfl rfl rfl rfl (fun d_50 hy_d_50 => ?_)
                                    have h := h d_50 hy_d_50
                                    refine st_go 2 (pc' := 311) (lo' := [(4, .int r_7), (3, .int s0), (0, .ref 42), (1, .int x1), (2, .int x2)]) (st' := [.int r_7]) rfl ?_
                                    exact st_retI rfl rfl (hQ _ _ h)
                                  · have h := Eq.mp (if_neg hc_49) h
                                    by_cases hc_51 : x1 = 15
                                    · have h := Eq.mp (if_pos hc_51) h
                                      refine st_tab (t := 296) rfl (by rw [hc_51]; rfl) ?_
                                      refine st_go 2 (pc' := 298) (lo' := [(4, .int r_7), (3, .int s0), (0, .ref 42), (1, .int x1), (2, .int x2)]) (st' := [.int x2, .ref 42]) rfl ?_
                                      refine st_putIR (o := 42) (f := 78) rfl rfl rfl rfl rfl (fun d_52 hy_d_52 => ?_)
                                      have h := h d_52 hy_d_52
                                      refine st_go 2 (pc' := 311) (lo' := [(4, .int r_7), (3, .int s0), (0, .ref 42), (1, .int x1), (2, .int x2)]) (st' := [.int r_7]) rfl ?_
                                      exact st_retI rfl rfl (hQ _ _ h)
                                    · have h := Eq.mp (if_neg hc_51) h
                                      refine st_tab (t := 304) rfl (tab_def rfl (by decide) rfl (by
                                        intro j hj hx
                                        have hj : j < 16 := hj
                                        rcases (j = 0 ∨ j = 1 ∨ j = 2 ∨ j = 3 ∨ j = 4 ∨ j = 5 ∨ j = 6 ∨ j = 7 ∨ j = 8 ∨ j = 9 ∨ j = 10 ∨ j = 11 ∨ j = 12 ∨ j = 13 ∨ j = 14 ∨ j = 15 : Prop) |> fun _ => (show j = 0 ∨ j = 1 ∨ j = 2 ∨ j = 3 ∨ j = 4 ∨ j = 5 ∨ j = 6 ∨ j = 7 ∨ j = 8 ∨ j = 9 ∨ j = 10 ∨ j = 11 ∨ j = 12 ∨ j = 13 ∨ j = 14 ∨ j = 15 by omega) with rfl | rfl | rfl | rfl | rfl | rfl | rfl | rfl | rfl | rfl | rfl | rfl | rfl | rfl | rfl | rfl <;> first | rfl | exact absurd hx hc_8 | exact absurd hx hc_11 | exact absurd hx hc_13 | exact absurd hx hc_15 | exact absurd hx hc_17 | exact absurd hx hc_20 | exact absurd hx hc_25 | exact absurd hx hc_30 | exact absurd hx hc_35 | exact absurd hx hc_38 | exact absurd hx hc_41 | exact absurd hx hc_43 | exact absurd hx hc_45 | exact absurd hx hc_47 | exact absurd hx hc_49 | exact absurd hx hc_51)) ?_
                                      refine st_go 2 (pc' := 306) (lo' := [(4, .int r_7), (3, .int s0), (0, .ref 42), (1, .int x1), (2, .int x2)]) (st' := [.int x2, .ref 42]) rfl ?_
                                      refine st_putIR (o := 42) (f := 79) rfl rfl rfl rfl rfl (fun d_53 hy_d_53 => ?_)
                                      have h := h d_53 hy_d_53
                                      refine st_go 1 (pc' := 311) (lo' := [(4, .int r_7), (3, .int s0), (0, .ref 42), (1, .int x1), (2, .int x2)]) (st' := [.int r_7]) rfl ?_
                                      exact st_retI rfl rfl (hQ _ _ h)
set_option maxRecDepth 100000 in
def MO_set (x1 : Int32) (x2 : Int32) (d : vmD) (Q : Int32 → vmD → Prop) : Prop :=
  if x1 < 0 then
  (Q (-1) d)
  else
  (if (16 : Int32) < x1 then
  (Q (-1) d)
  else
  (if x1 < 12 then
  (MO_set_46 x1 x2 65535 d Q)
  else
  (if x1 < 14 then
  (MO_set_46 x1 x2 255 d Q)
  else
  (if x1 < 16 then
  (MO_set_46 x1 x2 1 d Q)
  else
  (MO_set_46 x1 x2 2 d Q)))))
set_option maxRecDepth 100000 in
set_option maxHeartbeats 4000000 in
theorem tMO_set {L : Nat} {e : vmD} {Qo : Option Value → vmW → Prop} {Q : Int32 → vmD → Prop} (hQ : ∀ r d, Q r d → Qo (some (.int r)) (wR L d e)) (x1 : Int32) (x2 : Int32) (d : vmD) (h : MO_set x1 x2 d Q) : vmWp 358 0 [(0, .ref 42), (1, .int x1), (2, .int x2)] [] (wR L d e) Qo := by
  unfold MO_set at h
  refine st_go 1 (pc' := 1) (lo' := [(0, .ref 42), (1, .int x1), (2, .int x2)]) (st' := [.int x1]) rfl ?_
  by_cases hc_1 : x1 < 0
  · have h := Eq.mp (if_pos hc_1) h
    refine st_if (t := 10) (b := true) rfl (decide_eq_true hc_1) rfl ?_
    refine st_go 1 (pc' := 11) (lo' := [(0, .ref 42), (1, .int x1), (2, .int x2)]) (st' := [.int (-1)]) rfl ?_
    exact st_retI rfl rfl (hQ _ _ h)
  · have h := Eq.mp (if_neg hc_1) h
    refine st_if (t := 4) (b := false) rfl (decide_eq_false hc_1) rfl ?_
    refine st_go 2 (pc' := 7) (lo' := [(0, .ref 42), (1, .int x1), (2, .int x2)]) (st' := [.int 16, .int x1]) rfl ?_
    by_cases hc_2 : (16 : Int32) < x1
    · have h := Eq.mp (if_pos hc_2) h
      refine st_icmp (t := 10) (b := false) rfl (decide_eq_false (Int32.not_le.mpr hc_2)) rfl ?_
      refine st_go 1 (pc' := 11) (lo' := [(0, .ref 42), (1, .int x1), (2, .int x2)]) (st' := [.int (-1)]) rfl ?_
      exact st_retI rfl rfl (hQ _ _ h)
    · have h := Eq.mp (if_neg hc_2) h
      refine st_icmp (t := 12) (b := true) rfl (decide_eq_true (Int32.not_lt.mp hc_2)) rfl ?_
      refine st_go 2 (pc' := 15) (lo' := [(0, .ref 42), (1, .int x1), (2, .int x2)]) (st' := [.int 12, .int x1]) rfl ?_
      by_cases hc_3 : x1 < 12
      · have h := Eq.mp (if_pos hc_3) h
        refine st_icmp (t := 18) (b := false) rfl (decide_eq_false (Int32.not_le.mpr hc_3)) rfl ?_
        refine st_go 2 (pc' := 46) (lo' := [(0, .ref 42), (1, .int x1), (2, .int x2)]) (st' := [.int 65535]) rfl ?_
        refine vmWp.sub (lo' := [(0, .ref 42), (1, .int x1), (2, .int x2)]) ⟨rfl, rfl, rfl, trivial⟩ ?_
        exact tMO_set_46 hQ x1 x2 65535 d h
      · have h := Eq.mp (if_neg hc_3) h
        refine st_icmp (t := 23) (b := true) rfl (decide_eq_true (Int32.not_lt.mp hc_3)) rfl ?_
        refine st_go 2 (pc' := 26) (lo' := [(0, .ref 42), (1, .int x1), (2, .int x2)]) (st' := [.int 14, .int x1]) rfl ?_
        by_cases hc_54 : x1 < 14
        · have h := Eq.mp (if_pos hc_54) h
          refine st_icmp (t := 29) (b := false) rfl (decide_eq_false (Int32.not_le.mpr hc_54)) rfl ?_
          refine st_go 2 (pc' := 46) (lo' := [(0, .ref 42), (1, .int x1), (2, .int x2)]) (st' := [.int 255]) rfl ?_
          refine vmWp.sub (lo' := [(0, .ref 42), (1, .int x1), (2, .int x2)]) ⟨rfl, rfl, rfl, trivial⟩ ?_
          exact tMO_set_46 hQ x1 x2 255 d h
        · have h := Eq.mp (if_neg hc_54) h
          refine st_icmp (t := 35) (b := true) rfl (decide_eq_true (Int32.not_lt.mp hc_54)) rfl ?_
          refine st_go 2 (pc' := 38) (lo' := [(0, .ref 42), (1, .int x1), (2, .int x2)]) (st' := [.int 16, .int x1]) rfl ?_
          by_cases hc_55 : x1 < 16
          · have h := Eq.mp (if_pos hc_55) h
            refine st_icmp (t := 41) (b := false) rfl (decide_eq_false (Int32.not_le.mpr hc_55)) rfl ?_
            refine st_go 2 (pc' := 46) (lo' := [(0, .ref 42), (1, .int x1), (2, .int x2)]) (st' := [.int 1]) rfl ?_
            refine vmWp.sub (lo' := [(0, .ref 42), (1, .int x1), (2, .int x2)]) ⟨rfl, rfl, rfl, trivial⟩ ?_
            exact tMO_set_46 hQ x1 x2 1 d h
          · have h := Eq.mp (if_neg hc_55) h
            refine st_icmp (t := 45) (b := true) rfl (decide_eq_true (Int32.not_lt.mp hc_55)) rfl ?_
            refine st_go 1 (pc' := 46) (lo' := [(0, .ref 42), (1, .int x1), (2, .int x2)]) (st' := [.int 2]) rfl ?_
            refine vmWp.sub (lo' := [(0, .ref 42), (1, .int x1), (2, .int x2)]) ⟨rfl, rfl, rfl, trivial⟩ ?_
            exact tMO_set_46 hQ x1 x2 2 d h
set_option maxRecDepth 100000 in
def MO_port (x1 : Int32) (x2 : Int32) (d : vmD) (Q : Int32 → vmD → Prop) : Prop :=
  if x1 < 0 then
  (Q (-1) d)
  else
  (if (255 : Int32) < x1 then
  (Q (-1) d)
  else
  (if x2 < 0 then
  (Q (-2) d)
  else
  (if (255 : Int32) < x2 then
  (Q (-2) d)
  else
  (ixOk x1 256 ∧
  bnd (gA d 68 x1.toNatClampNeg) fun y_6 =>
  ixOk x1 256 ∧
  bnd (sA d 68 x1.toNatClampNeg x2) fun d_8 =>
  Q y_6 d_8))))
set_option maxRecDepth 100000 in
set_option maxHeartbeats 4000000 in
theorem tMO_port {L : Nat} {e : vmD} {Qo : Option Value → vmW → Prop} {Q : Int32 → vmD → Prop} (hQ : ∀ r d, Q r d → Qo (some (.int r)) (wR L d e)) (x1 : Int32) (x2 : Int32) (d : vmD) (h : MO_port x1 x2 d Q) : vmWp 359 0 [(0, .ref 42), (1, .int x1), (2, .int x2)] [] (wR L d e) Qo := by
  unfold MO_port at h
  refine st_go 1 (pc' := 1) (lo' := [(0, .ref 42), (1, .int x1), (2, .int x2)]) (st' := [.int x1]) rfl ?_
  by_cases hc_1 : x1 < 0
  · have h := Eq.mp (if_pos hc_1) h
    refine st_if (t := 11) (b := true) rfl (decide_eq_true hc_1) rfl ?_
    refine st_go 1 (pc' := 12) (lo' := [(0, .ref 42), (1, .int x1), (2, .int x2)]) (st' := [.int (-1)]) rfl ?_
    exact st_retI rfl rfl (hQ _ _ h)
  · have h := Eq.mp (if_neg hc_1) h
    refine st_if (t := 4) (b := false) rfl (decide_eq_false hc_1) rfl ?_
    refine st_go 2 (pc' := 8) (lo' := [(0, .ref 42), (1, .int x1), (2, .int x2)]) (st' := [.int 255, .int x1]) rfl ?_
    by_cases hc_2 : (255 : Int32) < x1
    · have h := Eq.mp (if_pos hc_2) h
      refine st_icmp (t := 11) (b := false) rfl (decide_eq_false (Int32.not_le.mpr hc_2)) rfl ?_
      refine st_go 1 (pc' := 12) (lo' := [(0, .ref 42), (1, .int x1), (2, .int x2)]) (st' := [.int (-1)]) rfl ?_
      exact st_retI rfl rfl (hQ _ _ h)
    · have h := Eq.mp (if_neg hc_2) h
      refine st_icmp (t := 13) (b := true) rfl (decide_eq_true (Int32.not_lt.mp hc_2)) rfl ?_
      refine st_go 1 (pc' := 14) (lo' := [(0, .ref 42), (1, .int x1), (2, .int x2)]) (st' := [.int x2]) rfl ?_
      by_cases hc_3 : x2 < 0
      · have h := Eq.mp (if_pos hc_3) h
        refine st_if (t := 24) (b := true) rfl (decide_eq_true hc_3) rfl ?_
        refine st_go 1 (pc' := 26) (lo' := [(0, .ref 42), (1, .int x1), (2, .int x2)]) (st' := [.int (-2)]) rfl ?_
        exact st_retI rfl rfl (hQ _ _ h)
      · have h := Eq.mp (if_neg hc_3) h
        refine st_if (t := 17) (b := false) rfl (decide_eq_false hc_3) rfl ?_
        refine st_go 2 (pc' := 21) (lo' := [(0, .ref 42), (1, .int x1), (2, .int x2)]) (st' := [.int 255, .int x2]) rfl ?_
        by_cases hc_4 : (255 : Int32) < x2
        · have h := Eq.mp (if_pos hc_4) h
          refine st_icmp (t := 24) (b := false) rfl (decide_eq_false (Int32.not_le.mpr hc_4)) rfl ?_
          refine st_go 1 (pc' := 26) (lo' := [(0, .ref 42), (1, .int x1), (2, .int x2)]) (st' := [.int (-2)]) rfl ?_
          exact st_retI rfl rfl (hQ _ _ h)
        · have h := Eq.mp (if_neg hc_4) h
          refine st_icmp (t := 27) (b := true) rfl (decide_eq_true (Int32.not_lt.mp hc_4)) rfl ?_
          refine st_go 3 (pc' := 32) (lo' := [(0, .ref 42), (1, .int x1), (2, .int x2)]) (st' := [.int x1, .ref 68]) rfl ?_
          obtain ⟨hj_5, h⟩ := h
          refine st_ialdR (o := 68) rfl rfl hj_5 rfl (fun y_6 hy_y_6 => ?_)
          have h := h y_6 hy_y_6
          refine st_go 5 (pc' := 40) (lo' := [(3, .int y_6), (0, .ref 42), (1, .int x1), (2, .int x2)]) (st' := [.int x2, .int x1, .ref 68]) rfl ?_
          obtain ⟨hj_7, h⟩ := h
          refine st_iastR (o := 68) rfl rfl hj_7 rfl (fun d_8 hy_d_8 => ?_)
          have h := h d_8 hy_d_8
          refine st_go 1 (pc' := 42) (lo' := [(3, .int y_6), (0, .ref 42), (1, .int x1), (2, .int x2)]) (st' := [.int y_6]) rfl ?_
          exact st_retI rfl rfl (hQ _ _ h)
set_option maxRecDepth 100000 in
def MO_out (x1 : Int32) (d : vmD) (Q : Int32 → vmD → Prop) : Prop :=
  if x1 < 0 then
  (Q (-1) d)
  else
  (if x1 < 256 then
  (ixOk x1 256 ∧
  bnd (gA d 69 x1.toNatClampNeg) fun y_4 =>
  Q y_4 d)
  else
  (Q (-1) d))
set_option maxRecDepth 100000 in
set_option maxHeartbeats 4000000 in
theorem tMO_out {L : Nat} {e : vmD} {Qo : Option Value → vmW → Prop} {Q : Int32 → vmD → Prop} (hQ : ∀ r d, Q r d → Qo (some (.int r)) (wR L d e)) (x1 : Int32) (d : vmD) (h : MO_out x1 d Q) : vmWp 360 0 [(0, .ref 42), (1, .int x1)] [] (wR L d e) Qo := by
  unfold MO_out at h
  refine st_go 1 (pc' := 1) (lo' := [(0, .ref 42), (1, .int x1)]) (st' := [.int x1]) rfl ?_
  by_cases hc_1 : x1 < 0
  · have h := Eq.mp (if_pos hc_1) h
    refine st_if (t := 20) (b := true) rfl (decide_eq_true hc_1) rfl ?_
    refine st_go 1 (pc' := 21) (lo' := [(0, .ref 42), (1, .int x1)]) (st' := [.int (-1)]) rfl ?_
    exact st_retI rfl rfl (hQ _ _ h)
  · have h := Eq.mp (if_neg hc_1) h
    refine st_if (t := 4) (b := false) rfl (decide_eq_false hc_1) rfl ?_
    refine st_go 2 (pc' := 8) (lo' := [(0, .ref 42), (1, .int x1)]) (st' := [.int 256, .int x1]) rfl ?_
    by_cases hc_2 : x1 < 256
    · have h := Eq.mp (if_pos hc_2) h
      refine st_icmp (t := 11) (b := false) rfl (decide_eq_false (Int32.not_le.mpr hc_2)) rfl ?_
      refine st_go 3 (pc' := 16) (lo' := [(0, .ref 42), (1, .int x1)]) (st' := [.int x1, .ref 69]) rfl ?_
      obtain ⟨hj_3, h⟩ := h
      refine st_ialdR (o := 69) rfl rfl hj_3 rfl (fun y_4 hy_y_4 => ?_)
      have h := h y_4 hy_y_4
      refine st_go 1 (pc' := 21) (lo' := [(0, .ref 42), (1, .int x1)]) (st' := [.int y_4]) rfl ?_
      exact st_retI rfl rfl (hQ _ _ h)
    · have h := Eq.mp (if_neg hc_2) h
      refine st_icmp (t := 20) (b := true) rfl (decide_eq_true (Int32.not_lt.mp hc_2)) rfl ?_
      refine st_go 1 (pc' := 21) (lo' := [(0, .ref 42), (1, .int x1)]) (st' := [.int (-1)]) rfl ?_
      exact st_retI rfl rfl (hQ _ _ h)
set_option maxRecDepth 100000 in
def MO_outs (d : vmD) (Q : Int64 → vmD → Prop) : Prop :=
  Q (gG d 42 86) d
set_option maxRecDepth 100000 in
set_option maxHeartbeats 4000000 in
theorem tMO_outs {L : Nat} {e : vmD} {Qo : Option Value → vmW → Prop} {Q : Int64 → vmD → Prop} (hQ : ∀ r d, Q r d → Qo (some (.long r)) (wR L d e)) (d : vmD) (h : MO_outs d Q) : vmWp 361 0 [(0, .ref 42)] [] (wR L d e) Qo := by
  unfold MO_outs at h
  refine st_go 2 (pc' := 4) (lo' := [(0, .ref 42)]) (st' := [.long (gG d 42 86)]) rfl ?_
  exact st_retJ rfl rfl (hQ _ _ h)
set_option maxRecDepth 100000 in
def MO_request_61 (x3 : Int32) (d : vmD) (Q : Int32 → vmD → Prop) : Prop :=
  if x3 = 0 then
  (Q 1 d)
  else
  (Q 0 d)
set_option maxRecDepth 100000 in
set_option maxHeartbeats 4000000 in
theorem tMO_request_61 {L : Nat} {e : vmD} {Qo : Option Value → vmW → Prop} {Q : Int32 → vmD → Prop} (hQ : ∀ r d, Q r d → Qo (some (.int r)) (wR L d e)) (x3 : Int32) (d : vmD) (h : MO_request_61 x3 d Q) : vmWp 362 61 [(3, .int x3)] [] (wR L d e) Qo := by
  unfold MO_request_61 at h
  refine st_go 1 (pc' := 62) (lo' := [(3, .int x3)]) (st' := [.int x3]) rfl ?_
  by_cases hc_9 : x3 = 0
  · have h := Eq.mp (if_pos hc_9) h
    refine st_if (t := 69) (b := true) rfl (decide_eq_true hc_9) rfl ?_
    refine st_go 1 (pc' := 70) (lo' := [(3, .int x3)]) (st' := [.int 1]) rfl ?_
    exact st_retI rfl rfl (hQ _ _ h)
  · have h := Eq.mp (if_neg hc_9) h
    refine st_if (t := 65) (b := false) rfl (decide_eq_false hc_9) rfl ?_
    refine st_go 2 (pc' := 70) (lo' := [(3, .int x3)]) (st' := [.int 0]) rfl ?_
    exact st_retI rfl rfl (hQ _ _ h)
set_option maxRecDepth 100000 in
def MO_request_38 (x1 : Int32) (x2 : Int32) (s0 : Int32) (d : vmD) (Q : Int32 → vmD → Prop) : Prop :=
  if x1 = 0 then
  (bnd (sF d 42 83 1) fun d_7 =>
  bnd (sF d_7 42 84 x2) fun d_8 =>
  MO_request_61 s0 d_8 Q)
  else
  (bnd (sF d 42 82 1) fun d_10 =>
  MO_request_61 s0 d_10 Q)
set_option maxRecDepth 100000 in
set_option maxHeartbeats 4000000 in
theorem tMO_request_38 {L : Nat} {e : vmD} {Qo : Option Value → vmW → Prop} {Q : Int32 → vmD → Prop} (hQ : ∀ r d, Q r d → Qo (some (.int r)) (wR L d e)) (x1 : Int32) (x2 : Int32) (s0 : Int32) (d : vmD) (h : MO_request_38 x1 x2 s0 d Q) : vmWp 362 38 [(0, .ref 42), (1, .int x1), (2, .int x2)] [.int s0] (wR L d e) Qo := by
  unfold MO_request_38 at h
  refine st_go 2 (pc' := 40) (lo' := [(3, .int s0), (0, .ref 42), (1, .int x1), (2, .int x2)]) (st' := [.int x1]) rfl ?_
  by_cases hc_6 : x1 = 0
  · have h := Eq.mp (if_pos hc_6) h
    refine st_if (t := 43) (b := false) rfl (decide_eq_false (fun z => z hc_6)) rfl ?_
    refine st_go 2 (pc' := 45) (lo' := [(3, .int s0), (0, .ref 42), (1, .int x1), (2, .int x2)]) (st' := [.int 1, .ref 42]) rfl ?_
    refine st_putZR (o := 42) (f := 83) rfl rfl rfl rfl (Or.inr rfl) rfl (fun d_7 hy_d_7 => ?_)
    have h := h d_7 hy_d_7
    refine st_go 2 (pc' := 50) (lo' := [(3, .int s0), (0, .ref 42), (1, .int x1), (2, .int x2)]) (st' := [.int x2, .ref 42]) rfl ?_
    refine st_putIR (o := 42) (f := 84) rfl rfl rfl rfl rfl (fun d_8 hy_d_8 => ?_)
    have h := h d_8 hy_d_8
    refine st_go 1 (pc' := 61) (lo' := [(3, .int s0), (0, .ref 42), (1, .int x1), (2, .int x2)]) (st' := []) rfl ?_
    refine vmWp.sub (lo' := [(3, .int s0)]) ⟨rfl, trivial⟩ ?_
    exact tMO_request_61 hQ s0 d_8 h
  · have h := Eq.mp (if_neg hc_6) h
    refine st_if (t := 56) (b := true) rfl (decide_eq_true hc_6) rfl ?_
    refine st_go 2 (pc' := 58) (lo' := [(3, .int s0), (0, .ref 42), (1, .int x1), (2, .int x2)]) (st' := [.int 1, .ref 42]) rfl ?_
    refine st_putZR (o := 42) (f := 82) rfl rfl rfl rfl (Or.inr rfl) rfl (fun d_10 hy_d_10 => ?_)
    have h := h d_10 hy_d_10
    refine vmWp.sub (lo' := [(3, .int s0)]) ⟨rfl, trivial⟩ ?_
    exact tMO_request_61 hQ s0 d_10 h
set_option maxRecDepth 100000 in
def MO_request (x1 : Int32) (x2 : Int32) (d : vmD) (Q : Int32 → vmD → Prop) : Prop :=
  if x1 < 0 then
  (Q (-2) d)
  else
  (if (1 : Int32) < x1 then
  (Q (-2) d)
  else
  (if x2 < 0 then
  (Q (-2) d)
  else
  (if (255 : Int32) < x2 then
  (Q (-2) d)
  else
  (if x1 = 0 then
  (MO_request_38 x1 x2 (gF d 42 83) d Q)
  else
  (MO_request_38 x1 x2 (gF d 42 82) d Q)))))
set_option maxRecDepth 100000 in
set_option maxHeartbeats 4000000 in
theorem tMO_request {L : Nat} {e : vmD} {Qo : Option Value → vmW → Prop} {Q : Int32 → vmD → Prop} (hQ : ∀ r d, Q r d → Qo (some (.int r)) (wR L d e)) (x1 : Int32) (x2 : Int32) (d : vmD) (h : MO_request x1 x2 d Q) : vmWp 362 0 [(0, .ref 42), (1, .int x1), (2, .int x2)] [] (wR L d e) Qo := by
  unfold MO_request at h
  refine st_go 1 (pc' := 1) (lo' := [(0, .ref 42), (1, .int x1), (2, .int x2)]) (st' := [.int x1]) rfl ?_
  by_cases hc_1 : x1 < 0
  · have h := Eq.mp (if_pos hc_1) h
    refine st_if (t := 20) (b := true) rfl (decide_eq_true hc_1) rfl ?_
    refine st_go 1 (pc' := 22) (lo' := [(0, .ref 42), (1, .int x1), (2, .int x2)]) (st' := [.int (-2)]) rfl ?_
    exact st_retI rfl rfl (hQ _ _ h)
  · have h := Eq.mp (if_neg hc_1) h
    refine st_if (t := 4) (b := false) rfl (decide_eq_false hc_1) rfl ?_
    refine st_go 2 (pc' := 6) (lo' := [(0, .ref 42), (1, .int x1), (2, .int x2)]) (st' := [.int 1, .int x1]) rfl ?_
    by_cases hc_2 : (1 : Int32) < x1
    · have h := Eq.mp (if_pos hc_2) h
      refine st_icmp (t := 20) (b := true) rfl (decide_eq_true hc_2) rfl ?_
      refine st_go 1 (pc' := 22) (lo' := [(0, .ref 42), (1, .int x1), (2, .int x2)]) (st' := [.int (-2)]) rfl ?_
      exact st_retI rfl rfl (hQ _ _ h)
    · have h := Eq.mp (if_neg hc_2) h
      refine st_icmp (t := 9) (b := false) rfl (decide_eq_false hc_2) rfl ?_
      refine st_go 1 (pc' := 10) (lo' := [(0, .ref 42), (1, .int x1), (2, .int x2)]) (st' := [.int x2]) rfl ?_
      by_cases hc_3 : x2 < 0
      · have h := Eq.mp (if_pos hc_3) h
        refine st_if (t := 20) (b := true) rfl (decide_eq_true hc_3) rfl ?_
        refine st_go 1 (pc' := 22) (lo' := [(0, .ref 42), (1, .int x1), (2, .int x2)]) (st' := [.int (-2)]) rfl ?_
        exact st_retI rfl rfl (hQ _ _ h)
      · have h := Eq.mp (if_neg hc_3) h
        refine st_if (t := 13) (b := false) rfl (decide_eq_false hc_3) rfl ?_
        refine st_go 2 (pc' := 17) (lo' := [(0, .ref 42), (1, .int x1), (2, .int x2)]) (st' := [.int 255, .int x2]) rfl ?_
        by_cases hc_4 : (255 : Int32) < x2
        · have h := Eq.mp (if_pos hc_4) h
          refine st_icmp (t := 20) (b := false) rfl (decide_eq_false (Int32.not_le.mpr hc_4)) rfl ?_
          refine st_go 1 (pc' := 22) (lo' := [(0, .ref 42), (1, .int x1), (2, .int x2)]) (st' := [.int (-2)]) rfl ?_
          exact st_retI rfl rfl (hQ _ _ h)
        · have h := Eq.mp (if_neg hc_4) h
          refine st_icmp (t := 23) (b := true) rfl (decide_eq_true (Int32.not_lt.mp hc_4)) rfl ?_
          refine st_go 1 (pc' := 24) (lo' := [(0, .ref 42), (1, .int x1), (2, .int x2)]) (st' := [.int x1]) rfl ?_
          by_cases hc_5 : x1 = 0
          · have h := Eq.mp (if_pos hc_5) h
            refine st_if (t := 27) (b := false) rfl (decide_eq_false (fun z => z hc_5)) rfl ?_
            refine st_go 3 (pc' := 38) (lo' := [(0, .ref 42), (1, .int x1), (2, .int x2)]) (st' := [.int (gF d 42 83)]) rfl ?_
            refine vmWp.sub (lo' := [(0, .ref 42), (1, .int x1), (2, .int x2)]) ⟨rfl, rfl, rfl, trivial⟩ ?_
            exact tMO_request_38 hQ x1 x2 (gF d 42 83) d h
          · have h := Eq.mp (if_neg hc_5) h
            refine st_if (t := 34) (b := true) rfl (decide_eq_true hc_5) rfl ?_
            refine st_go 2 (pc' := 38) (lo' := [(0, .ref 42), (1, .int x1), (2, .int x2)]) (st' := [.int (gF d 42 82)]) rfl ?_
            refine vmWp.sub (lo' := [(0, .ref 42), (1, .int x1), (2, .int x2)]) ⟨rfl, rfl, rfl, trivial⟩ ?_
            exact tMO_request_38 hQ x1 x2 (gF d 42 82) d h
set_option maxRecDepth 100000 in
def MO_goOn (x1 : Int32) (d : vmD) (Q : vmD → Prop) : Prop :=
  bnd (sF d 42 73 (((gF d 42 73) &&& 128) ||| (((gF d 42 73) + x1) &&& 127))) fun d_1 =>
  Q d_1
set_option maxRecDepth 100000 in
set_option maxHeartbeats 4000000 in
theorem tMO_goOn {L : Nat} {e : vmD} {Qo : Option Value → vmW → Prop} {Q : vmD → Prop} (hQ : ∀ d, Q d → Qo none (wR L d e)) (x1 : Int32) (d : vmD) (h : MO_goOn x1 d Q) : vmWp 367 0 [(0, .ref 42), (1, .int x1)] [] (wR L d e) Qo := by
  unfold MO_goOn at h
  refine st_go 12 (pc' := 19) (lo' := [(0, .ref 42), (1, .int x1)]) (st' := [.int (((gF d 42 73) &&& 128) ||| (((gF d 42 73) + x1) &&& 127)), .ref 42]) rfl ?_
  refine st_putIR (o := 42) (f := 73) rfl rfl rfl rfl rfl (fun d_1 hy_d_1 => ?_)
  have h := h d_1 hy_d_1
  exact st_retV rfl rfl (hQ _ h)
set_option maxRecDepth 100000 in
def MO_store (x1 : Int32) (x2 : Int32) (d : vmD) (Q : vmD → Prop) : Prop :=
  ixOk (x1 &&& 65535) 65536 ∧
  bnd (sA d 55 (x1 &&& 65535).toNatClampNeg (x2 &&& 255)) fun d_2 =>
  Q d_2
set_option maxRecDepth 100000 in
set_option maxHeartbeats 4000000 in
theorem tMO_store {L : Nat} {e : vmD} {Qo : Option Value → vmW → Prop} {Q : vmD → Prop} (hQ : ∀ d, Q d → Qo none (wR L d e)) (x1 : Int32) (x2 : Int32) (d : vmD) (h : MO_store x1 x2 d Q) : vmWp 363 0 [(0, .ref 42), (1, .int x1), (2, .int x2)] [] (wR L d e) Qo := by
  unfold MO_store at h
  refine st_go 8 (pc' := 13) (lo' := [(0, .ref 42), (1, .int x1), (2, .int x2)]) (st' := [.int (x2 &&& 255), .int (x1 &&& 65535), .ref 55]) rfl ?_
  obtain ⟨hj_1, h⟩ := h
  refine st_iastR (o := 55) rfl rfl hj_1 rfl (fun d_2 hy_d_2 => ?_)
  have h := h d_2 hy_d_2
  exact st_retV rfl rfl (hQ _ h)
set_option maxRecDepth 100000 in
def MO_pushTwo (x1 : Int32) (d : vmD) (Q : vmD → Prop) : Prop :=
  bnd (sF d 42 75 (((gF d 42 75) - 2) &&& 65535)) fun d_1 =>
  MO_store (gF d_1 42 75) x1 d_1 fun d_2 =>
  MO_store ((gF d_2 42 75) + 1) (x1 >>> ((8 : Int32) &&& 31)) d_2 fun d_3 =>
  Q d_3
set_option maxRecDepth 100000 in
set_option maxHeartbeats 4000000 in
theorem tMO_pushTwo {L : Nat} {e : vmD} {Qo : Option Value → vmW → Prop} {Q : vmD → Prop} (hQ : ∀ d, Q d → Qo none (wR L d e)) (x1 : Int32) (d : vmD) (h : MO_pushTwo x1 d Q) : vmWp 364 0 [(0, .ref 42), (1, .int x1)] [] (wR L d e) Qo := by
  unfold MO_pushTwo at h
  refine st_go 7 (pc' := 10) (lo' := [(0, .ref 42), (1, .int x1)]) (st' := [.int (((gF d 42 75) - 2) &&& 65535), .ref 42]) rfl ?_
  refine st_putIR (o := 42) (f := 75) rfl rfl rfl rfl rfl (fun d_1 hy_d_1 => ?_)
  have h := h d_1 hy_d_1
  refine st_go 4 (pc' := 19) (lo' := [(0, .ref 42), (1, .int x1)]) (st' := [.int x1, .int (gF d_1 42 75), .ref 42]) rfl ?_
  refine st_callv (k' := 363) (as := [.ref 42, .int (gF d_1 42 75), .int x1]) (rest := []) (lo' := [(0, .ref 42), (1, .int (gF d_1 42 75)), (2, .int x1)]) (wf := fun d => wR L d e) rfl rfl rfl ?_
  refine tMO_store (fun d_2 h => ⟨d_2, rfl, rfl, ?_⟩) (gF d_1 42 75) x1 d_1 h
  refine st_go 8 (pc' := 33) (lo' := [(0, .ref 42), (1, .int x1)]) (st' := [.int (x1 >>> ((8 : Int32) &&& 31)), .int ((gF d_2 42 75) + 1), .ref 42]) rfl ?_
  refine st_callv (k' := 363) (as := [.ref 42, .int ((gF d_2 42 75) + 1), .int (x1 >>> ((8 : Int32) &&& 31))]) (rest := []) (lo' := [(0, .ref 42), (1, .int ((gF d_2 42 75) + 1)), (2, .int (x1 >>> ((8 : Int32) &&& 31)))]) (wf := fun d => wR L d e) rfl rfl rfl ?_
  refine tMO_store (fun d_3 h => ⟨d_3, rfl, rfl, ?_⟩) ((gF d_2 42 75) + 1) (x1 >>> ((8 : Int32) &&& 31)) d_2 h
  exact st_retV rfl rfl (hQ _ h)
set_option maxRecDepth 100000 in
def MO_takeRequest_182 (s0 : Int32) (d : vmD) (Q : Int32 → vmD → Prop) : Prop :=
  bnd (sF d 42 76 s0) fun d_16 =>
  Q 1 d_16
set_option maxRecDepth 100000 in
set_option maxHeartbeats 4000000 in
theorem tMO_takeRequest_182 {L : Nat} {e : vmD} {Qo : Option Value → vmW → Prop} {Q : Int32 → vmD → Prop} (hQ : ∀ r d, Q r d → Qo (some (.int r)) (wR L d e)) (s0 : Int32) (d : vmD) (h : MO_takeRequest_182 s0 d Q) : vmWp 383 182 [] [.int s0, .ref 42] (wR L d e) Qo := by
  unfold MO_takeRequest_182 at h
  refine st_putIR (o := 42) (f := 76) rfl rfl rfl rfl rfl (fun d_16 hy_d_16 => ?_)
  have h := h d_16 hy_d_16
  refine st_go 1 (pc' := 186) (lo' := []) (st' := [.int 1]) rfl ?_
  exact st_retZ rfl rfl (Or.inr rfl) (hQ _ _ h)
set_option maxRecDepth 100000 in
def MO_takeRequest_68 (d : vmD) (Q : Int32 → vmD → Prop) : Prop :=
  MO_goOn 1 d fun d_8 =>
  bnd (sF d_8 42 85 0) fun d_9 =>
  if (gF d_9 42 82) = 0 then
  (bnd (sF d_9 42 83 0) fun d_11 =>
  bnd (sF d_11 42 77 0) fun d_12 =>
  bnd (sF d_12 42 78 0) fun d_13 =>
  MO_pushTwo (gF d_13 42 76) d_13 fun d_14 =>
  if (gF d_14 42 79) = 0 then
  (MO_takeRequest_182 ((gF d_14 42 84) &&& 56) d_14 Q)
  else
  (if (gF d_14 42 79) = 1 then
  (MO_takeRequest_182 56 d_14 Q)
  else
  (MO_wide (((256 : Int32) * (gF d_14 42 72)) + (gF d_14 42 84)) d_14 fun r_19 d_18 =>
  MO_takeRequest_182 r_19 d_18 Q)))
  else
  (bnd (sF d_9 42 82 0) fun d_20 =>
  bnd (sF d_20 42 77 0) fun d_21 =>
  MO_pushTwo (gF d_21 42 76) d_21 fun d_22 =>
  bnd (sF d_22 42 76 102) fun d_23 =>
  Q 1 d_23)
set_option maxRecDepth 100000 in
set_option maxHeartbeats 4000000 in
theorem tMO_takeRequest_68 {L : Nat} {e : vmD} {Qo : Option Value → vmW → Prop} {Q : Int32 → vmD → Prop} (hQ : ∀ r d, Q r d → Qo (some (.int r)) (wR L d e)) (d : vmD) (h : MO_takeRequest_68 d Q) : vmWp 383 68 [(0, .ref 42)] [] (wR L d e) Qo := by
  unfold MO_takeRequest_68 at h
  refine st_go 2 (pc' := 70) (lo' := [(0, .ref 42)]) (st' := [.int 1, .ref 42]) rfl ?_
  refine st_callv (k' := 367) (as := [.ref 42, .int 1]) (rest := []) (lo' := [(0, .ref 42), (1, .int 1)]) (wf := fun d => wR L d e) rfl rfl rfl ?_
  refine tMO_goOn (fun d_8 h => ⟨d_8, rfl, rfl, ?_⟩) 1 d h
  refine st_go 2 (pc' := 75) (lo' := [(0, .ref 42)]) (st' := [.int 0, .ref 42]) rfl ?_
  refine st_putZR (o := 42) (f := 85) rfl rfl rfl rfl (Or.inl rfl) rfl (fun d_9 hy_d_9 => ?_)
  have h := h d_9 hy_d_9
  refine st_go 2 (pc' := 82) (lo' := [(0, .ref 42)]) (st' := [.int (gF d_9 42 82)]) rfl ?_
  by_cases hc_10 : (gF d_9 42 82) = 0
  · have h := Eq.mp (if_pos hc_10) h
    refine st_if (t := 111) (b := true) rfl (decide_eq_true hc_10) rfl ?_
    refine st_go 2 (pc' := 113) (lo' := [(0, .ref 42)]) (st' := [.int 0, .ref 42]) rfl ?_
    refine st_putZR (o := 42) (f := 83) rfl rfl rfl rfl (Or.inl rfl) rfl (fun d_11 hy_d_11 => ?_)
    have h := h d_11 hy_d_11
    refine st_go 2 (pc' := 118) (lo' := [(0, .ref 42)]) (st' := [.int 0, .ref 42]) rfl ?_
    refine st_putIR (o := 42) (f := 77) rfl rfl rfl rfl rfl (fun d_12 hy_d_12 => ?_)
    have h := h d_12 hy_d_12
    refine st_go 2 (pc' := 123) (lo' := [(0, .ref 42)]) (st' := [.int 0, .ref 42]) rfl ?_
    refine st_putIR (o := 42) (f := 78) rfl rfl rfl rfl rfl (fun d_13 hy_d_13 => ?_)
    have h := h d_13 hy_d_13
    refine st_go 3 (pc' := 131) (lo' := [(0, .ref 42)]) (st' := [.int (gF d_13 42 76), .ref 42]) rfl ?_
    refine st_callv (k' := 364) (as := [.ref 42, .int (gF d_13 42 76)]) (rest := []) (lo' := [(0, .ref 42), (1, .int (gF d_13 42 76))]) (wf := fun d => wR L d e) rfl rfl rfl ?_
    refine tMO_pushTwo (fun d_14 h => ⟨d_14, rfl, rfl, ?_⟩) (gF d_13 42 76) d_13 h
    refine st_go 3 (pc' := 139) (lo' := [(0, .ref 42)]) (st' := [.int (gF d_14 42 79), .ref 42]) rfl ?_
    by_cases hc_15 : (gF d_14 42 79) = 0
    · have h := Eq.mp (if_pos hc_15) h
      refine st_if (t := 142) (b := false) rfl (decide_eq_false (fun z => z hc_15)) rfl ?_
      refine st_go 5 (pc' := 182) (lo' := [(0, .ref 42)]) (st' := [.int ((gF d_14 42 84) &&& 56), .ref 42]) rfl ?_
      refine vmWp.sub (lo' := []) trivial ?_
      exact tMO_takeRequest_182 hQ ((gF d_14 42 84) &&& 56) d_14 h
    · have h := Eq.mp (if_neg hc_15) h
      refine st_if (t := 152) (b := true) rfl (decide_eq_true hc_15) rfl ?_
      refine st_go 3 (pc' := 157) (lo' := [(0, .ref 42)]) (st' := [.int 1, .int (gF d_14 42 79), .ref 42]) rfl ?_
      by_cases hc_17 : (gF d_14 42 79) = 1
      · have h := Eq.mp (if_pos hc_17) h
        refine st_icmp (t := 160) (b := false) rfl (decide_eq_false (fun z => z hc_17)) rfl ?_
        refine st_go 2 (pc' := 182) (lo' := [(0, .ref 42)]) (st' := [.int 56, .ref 42]) rfl ?_
        refine vmWp.sub (lo' := []) trivial ?_
        exact tMO_takeRequest_182 hQ 56 d_14 h
      · have h := Eq.mp (if_neg hc_17) h
        refine st_icmp (t := 165) (b := true) rfl (decide_eq_true hc_17) rfl ?_
        refine st_go 8 (pc' := 179) (lo' := [(0, .ref 42)]) (st' := [.int (((256 : Int32) * (gF d_14 42 72)) + (gF d_14 42 84)), .ref 42, .ref 42]) rfl ?_
        refine st_calli (k' := 321) (as := [.ref 42, .int (((256 : Int32) * (gF d_14 42 72)) + (gF d_14 42 84))]) (rest := [.ref 42]) (lo' := [(0, .ref 42), (1, .int (((256 : Int32) * (gF d_14 42 72)) + (gF d_14 42 84)))]) (wf := fun d => wR L d e) rfl rfl rfl ?_
        refine tMO_wide (fun r_19 d_18 h => ⟨r_19, d_18, rfl, rfl, ?_⟩) (((256 : Int32) * (gF d_14 42 72)) + (gF d_14 42 84)) d_14 h
        refine vmWp.sub (lo' := []) trivial ?_
        exact tMO_takeRequest_182 hQ r_19 d_18 h
  · have h := Eq.mp (if_neg hc_10) h
    refine st_if (t := 85) (b := false) rfl (decide_eq_false hc_10) rfl ?_
    refine st_go 2 (pc' := 87) (lo' := [(0, .ref 42)]) (st' := [.int 0, .ref 42]) rfl ?_
    refine st_putZR (o := 42) (f := 82) rfl rfl rfl rfl (Or.inl rfl) rfl (fun d_20 hy_d_20 => ?_)
    have h := h d_20 hy_d_20
    refine st_go 2 (pc' := 92) (lo' := [(0, .ref 42)]) (st' := [.int 0, .ref 42]) rfl ?_
    refine st_putIR (o := 42) (f := 77) rfl rfl rfl rfl rfl (fun d_21 hy_d_21 => ?_)
    have h := h d_21 hy_d_21
    refine st_go 3 (pc' := 100) (lo' := [(0, .ref 42)]) (st' := [.int (gF d_21 42 76), .ref 42]) rfl ?_
    refine st_callv (k' := 364) (as := [.ref 42, .int (gF d_21 42 76)]) (rest := []) (lo' := [(0, .ref 42), (1, .int (gF d_21 42 76))]) (wf := fun d => wR L d e) rfl rfl rfl ?_
    refine tMO_pushTwo (fun d_22 h => ⟨d_22, rfl, rfl, ?_⟩) (gF d_21 42 76) d_21 h
    refine st_go 2 (pc' := 106) (lo' := [(0, .ref 42)]) (st' := [.int 102, .ref 42]) rfl ?_
    refine st_putIR (o := 42) (f := 76) rfl rfl rfl rfl rfl (fun d_23 hy_d_23 => ?_)
    have h := h d_23 hy_d_23
    refine st_go 1 (pc' := 110) (lo' := [(0, .ref 42)]) (st' := [.int 1]) rfl ?_
    exact st_retZ rfl rfl (Or.inr rfl) (hQ _ _ h)
set_option maxRecDepth 100000 in
def MO_takeRequest_41 (d : vmD) (Q : Int32 → vmD → Prop) : Prop :=
  ixOk (gF d 42 76) 65536 ∧
  bnd (gA d 55 (gF d 42 76).toNatClampNeg) fun y_5 =>
  if y_5 = 118 then
  (bnd (sF d 42 76 (((gF d 42 76) + 1) &&& 65535)) fun d_7 =>
  MO_takeRequest_68 d_7 Q)
  else
  (MO_takeRequest_68 d Q)
set_option maxRecDepth 100000 in
set_option maxHeartbeats 4000000 in
theorem tMO_takeRequest_41 {L : Nat} {e : vmD} {Qo : Option Value → vmW → Prop} {Q : Int32 → vmD → Prop} (hQ : ∀ r d, Q r d → Qo (some (.int r)) (wR L d e)) (d : vmD) (h : MO_takeRequest_41 d Q) : vmWp 383 41 [(0, .ref 42)] [] (wR L d e) Qo := by
  unfold MO_takeRequest_41 at h
  refine st_go 4 (pc' := 49) (lo' := [(0, .ref 42)]) (st' := [.int (gF d 42 76), .ref 55]) rfl ?_
  obtain ⟨hj_4, h⟩ := h
  refine st_ialdR (o := 55) rfl rfl hj_4 rfl (fun y_5 hy_y_5 => ?_)
  have h := h y_5 hy_y_5
  refine st_go 1 (pc' := 52) (lo' := [(0, .ref 42)]) (st' := [.int 118, .int y_5]) rfl ?_
  by_cases hc_6 : y_5 = 118
  · have h := Eq.mp (if_pos hc_6) h
    refine st_icmp (t := 55) (b := false) rfl (decide_eq_false (fun z => z hc_6)) rfl ?_
    refine st_go 7 (pc' := 65) (lo' := [(0, .ref 42)]) (st' := [.int (((gF d 42 76) + 1) &&& 65535), .ref 42]) rfl ?_
    refine st_putIR (o := 42) (f := 76) rfl rfl rfl rfl rfl (fun d_7 hy_d_7 => ?_)
    have h := h d_7 hy_d_7
    refine vmWp.sub (lo' := [(0, .ref 42)]) ⟨rfl, trivial⟩ ?_
    exact tMO_takeRequest_68 hQ d_7 h
  · have h := Eq.mp (if_neg hc_6) h
    refine st_icmp (t := 68) (b := true) rfl (decide_eq_true hc_6) rfl ?_
    refine vmWp.sub (lo' := [(0, .ref 42)]) ⟨rfl, trivial⟩ ?_
    exact tMO_takeRequest_68 hQ d h
set_option maxRecDepth 100000 in
def MO_takeRequest_27 (s0 : Int32) (d : vmD) (Q : Int32 → vmD → Prop) : Prop :=
  if (gF d 42 82) = 0 then
  (if s0 = 0 then
  (Q 0 d)
  else
  (MO_takeRequest_41 d Q))
  else
  (MO_takeRequest_41 d Q)
set_option maxRecDepth 100000 in
set_option maxHeartbeats 4000000 in
theorem tMO_takeRequest_27 {L : Nat} {e : vmD} {Qo : Option Value → vmW → Prop} {Q : Int32 → vmD → Prop} (hQ : ∀ r d, Q r d → Qo (some (.int r)) (wR L d e)) (s0 : Int32) (d : vmD) (h : MO_takeRequest_27 s0 d Q) : vmWp 383 27 [(0, .ref 42)] [.int s0] (wR L d e) Qo := by
  unfold MO_takeRequest_27 at h
  refine st_go 3 (pc' := 32) (lo' := [(1, .int s0), (0, .ref 42)]) (st' := [.int (gF d 42 82)]) rfl ?_
  by_cases hc_2 : (gF d 42 82) = 0
  · have h := Eq.mp (if_pos hc_2) h
    refine st_if (t := 35) (b := false) rfl (decide_eq_false (fun z => z hc_2)) rfl ?_
    refine st_go 1 (pc' := 36) (lo' := [(1, .int s0), (0, .ref 42)]) (st' := [.int s0]) rfl ?_
    by_cases hc_3 : s0 = 0
    · have h := Eq.mp (if_pos hc_3) h
      refine st_if (t := 39) (b := false) rfl (decide_eq_false (fun z => z hc_3)) rfl ?_
      refine st_go 1 (pc' := 40) (lo' := [(1, .int s0), (0, .ref 42)]) (st' := [.int 0]) rfl ?_
      exact st_retZ rfl rfl (Or.inl rfl) (hQ _ _ h)
    · have h := Eq.mp (if_neg hc_3) h
      refine st_if (t := 41) (b := true) rfl (decide_eq_true hc_3) rfl ?_
      refine vmWp.sub (lo' := [(0, .ref 42)]) ⟨rfl, trivial⟩ ?_
      exact tMO_takeRequest_41 hQ d h
  · have h := Eq.mp (if_neg hc_2) h
    refine st_if (t := 41) (b := true) rfl (decide_eq_true hc_2) rfl ?_
    refine vmWp.sub (lo' := [(0, .ref 42)]) ⟨rfl, trivial⟩ ?_
    exact tMO_takeRequest_41 hQ d h
set_option maxRecDepth 100000 in
def MO_takeRequest_26 (d : vmD) (Q : Int32 → vmD → Prop) : Prop :=
  MO_takeRequest_27 0 d Q
set_option maxRecDepth 100000 in
set_option maxHeartbeats 4000000 in
theorem tMO_takeRequest_26 {L : Nat} {e : vmD} {Qo : Option Value → vmW → Prop} {Q : Int32 → vmD → Prop} (hQ : ∀ r d, Q r d → Qo (some (.int r)) (wR L d e)) (d : vmD) (h : MO_takeRequest_26 d Q) : vmWp 383 26 [(0, .ref 42)] [] (wR L d e) Qo := by
  unfold MO_takeRequest_26 at h
  refine st_go 1 (pc' := 27) (lo' := [(0, .ref 42)]) (st' := [.int 0]) rfl ?_
  refine vmWp.sub (lo' := [(0, .ref 42)]) ⟨rfl, trivial⟩ ?_
  exact tMO_takeRequest_27 hQ 0 d h
set_option maxRecDepth 100000 in
def MO_takeRequest (d : vmD) (Q : Int32 → vmD → Prop) : Prop :=
  if (gF d 42 83) = 0 then
  (MO_takeRequest_26 d Q)
  else
  (if (gF d 42 77) = 1 then
  (if (gF d 42 85) = 0 then
  (MO_takeRequest_27 1 d Q)
  else
  (MO_takeRequest_26 d Q))
  else
  (MO_takeRequest_26 d Q))
set_option maxRecDepth 100000 in
set_option maxHeartbeats 4000000 in
theorem tMO_takeRequest {L : Nat} {e : vmD} {Qo : Option Value → vmW → Prop} {Q : Int32 → vmD → Prop} (hQ : ∀ r d, Q r d → Qo (some (.int r)) (wR L d e)) (d : vmD) (h : MO_takeRequest d Q) : vmWp 383 0 [(0, .ref 42)] [] (wR L d e) Qo := by
  unfold MO_takeRequest at h
  refine st_go 2 (pc' := 4) (lo' := [(0, .ref 42)]) (st' := [.int (gF d 42 83)]) rfl ?_
  by_cases hc_1 : (gF d 42 83) = 0
  · have h := Eq.mp (if_pos hc_1) h
    refine st_if (t := 26) (b := true) rfl (decide_eq_true hc_1) rfl ?_
    refine vmWp.sub (lo' := [(0, .ref 42)]) ⟨rfl, trivial⟩ ?_
    exact tMO_takeRequest_26 hQ d h
  · have h := Eq.mp (if_neg hc_1) h
    refine st_if (t := 7) (b := false) rfl (decide_eq_false hc_1) rfl ?_
    refine st_go 3 (pc' := 12) (lo' := [(0, .ref 42)]) (st' := [.int 1, .int (gF d 42 77)]) rfl ?_
    by_cases hc_24 : (gF d 42 77) = 1
    · have h := Eq.mp (if_pos hc_24) h
      refine st_icmp (t := 15) (b := false) rfl (decide_eq_false (fun z => z hc_24)) rfl ?_
      refine st_go 2 (pc' := 19) (lo' := [(0, .ref 42)]) (st' := [.int (gF d 42 85)]) rfl ?_
      by_cases hc_25 : (gF d 42 85) = 0
      · have h := Eq.mp (if_pos hc_25) h
        refine st_if (t := 22) (b := false) rfl (decide_eq_false (fun z => z hc_25)) rfl ?_
        refine st_go 2 (pc' := 27) (lo' := [(0, .ref 42)]) (st' := [.int 1]) rfl ?_
        refine vmWp.sub (lo' := [(0, .ref 42)]) ⟨rfl, trivial⟩ ?_
        exact tMO_takeRequest_27 hQ 1 d h
      · have h := Eq.mp (if_neg hc_25) h
        refine st_if (t := 26) (b := true) rfl (decide_eq_true hc_25) rfl ?_
        refine vmWp.sub (lo' := [(0, .ref 42)]) ⟨rfl, trivial⟩ ?_
        exact tMO_takeRequest_26 hQ d h
    · have h := Eq.mp (if_neg hc_24) h
      refine st_icmp (t := 26) (b := true) rfl (decide_eq_true hc_24) rfl ?_
      refine vmWp.sub (lo' := [(0, .ref 42)]) ⟨rfl, trivial⟩ ?_
      exact tMO_takeRequest_26 hQ d h
set_option maxRecDepth 100000 in
def MO_placeAt (d : vmD) (Q : Int32 → vmD → Prop) : Prop :=
  if (gF d 42 60) = 0 then
  (MO_two 4 d fun r_3 d_2 =>
  Q r_3 d_2)
  else
  (ixOk (gF d 42 60) 3 ∧
  bnd (gA d 67 (gF d 42 60).toNatClampNeg) fun y_5 =>
  Q ((y_5 + (gF d 42 62)) &&& 65535) d)
set_option maxRecDepth 100000 in
set_option maxHeartbeats 4000000 in
theorem tMO_placeAt {L : Nat} {e : vmD} {Qo : Option Value → vmW → Prop} {Q : Int32 → vmD → Prop} (hQ : ∀ r d, Q r d → Qo (some (.int r)) (wR L d e)) (d : vmD) (h : MO_placeAt d Q) : vmWp 377 0 [(0, .ref 42)] [] (wR L d e) Qo := by
  unfold MO_placeAt at h
  refine st_go 2 (pc' := 4) (lo' := [(0, .ref 42)]) (st' := [.int (gF d 42 60)]) rfl ?_
  by_cases hc_1 : (gF d 42 60) = 0
  · have h := Eq.mp (if_pos hc_1) h
    refine st_if (t := 7) (b := false) rfl (decide_eq_false (fun z => z hc_1)) rfl ?_
    refine st_go 2 (pc' := 9) (lo' := [(0, .ref 42)]) (st' := [.int 4, .ref 42]) rfl ?_
    refine st_calli (k' := 354) (as := [.ref 42, .int 4]) (rest := []) (lo' := [(0, .ref 42), (1, .int 4)]) (wf := fun d => wR L d e) rfl rfl rfl ?_
    refine tMO_two (fun r_3 d_2 h => ⟨r_3, d_2, rfl, rfl, ?_⟩) 4 d h
    refine st_go 1 (pc' := 32) (lo' := [(0, .ref 42)]) (st' := [.int r_3]) rfl ?_
    exact st_retI rfl rfl (hQ _ _ h)
  · have h := Eq.mp (if_neg hc_1) h
    refine st_if (t := 15) (b := true) rfl (decide_eq_true hc_1) rfl ?_
    refine st_go 4 (pc' := 23) (lo' := [(0, .ref 42)]) (st' := [.int (gF d 42 60), .ref 67]) rfl ?_
    obtain ⟨hj_4, h⟩ := h
    refine st_ialdR (o := 67) rfl rfl hj_4 rfl (fun y_5 hy_y_5 => ?_)
    have h := h y_5 hy_y_5
    refine st_go 5 (pc' := 32) (lo' := [(0, .ref 42)]) (st' := [.int ((y_5 + (gF d 42 62)) &&& 65535)]) rfl ?_
    exact st_retI rfl rfl (hQ _ _ h)
set_option maxRecDepth 100000 in
def MO_octetAt (x1 : Int32) (d : vmD) (Q : Int32 → vmD → Prop) : Prop :=
  if x1 = 6 then
  (MO_placeAt d fun r_3 d_2 =>
  MO_peek r_3 d_2 fun r_5 d_4 =>
  Q r_5 d_4)
  else
  (ixOk x1 8 ∧
  bnd (gA d 65 x1.toNatClampNeg) fun y_7 =>
  Q y_7 d)
set_option maxRecDepth 100000 in
set_option maxHeartbeats 4000000 in
theorem tMO_octetAt {L : Nat} {e : vmD} {Qo : Option Value → vmW → Prop} {Q : Int32 → vmD → Prop} (hQ : ∀ r d, Q r d → Qo (some (.int r)) (wR L d e)) (x1 : Int32) (d : vmD) (h : MO_octetAt x1 d Q) : vmWp 378 0 [(0, .ref 42), (1, .int x1)] [] (wR L d e) Qo := by
  unfold MO_octetAt at h
  refine st_go 2 (pc' := 3) (lo' := [(0, .ref 42), (1, .int x1)]) (st' := [.int 6, .int x1]) rfl ?_
  by_cases hc_1 : x1 = 6
  · have h := Eq.mp (if_pos hc_1) h
    refine st_icmp (t := 6) (b := false) rfl (decide_eq_false (fun z => z hc_1)) rfl ?_
    refine st_go 2 (pc' := 8) (lo' := [(0, .ref 42), (1, .int x1)]) (st' := [.ref 42, .ref 42]) rfl ?_
    refine st_calli (k' := 377) (as := [.ref 42]) (rest := [.ref 42]) (lo' := [(0, .ref 42)]) (wf := fun d => wR L d e) rfl rfl rfl ?_
    refine tMO_placeAt (fun r_3 d_2 h => ⟨r_3, d_2, rfl, rfl, ?_⟩) d h
    refine st_calli (k' := 320) (as := [.ref 42, .int r_3]) (rest := []) (lo' := [(0, .ref 42), (1, .int r_3)]) (wf := fun d => wR L d e) rfl rfl rfl ?_
    refine tMO_peek (fun r_5 d_4 h => ⟨r_5, d_4, rfl, rfl, ?_⟩) r_3 d_2 h
    refine st_go 1 (pc' := 23) (lo' := [(0, .ref 42), (1, .int x1)]) (st' := [.int r_5]) rfl ?_
    exact st_retI rfl rfl (hQ _ _ h)
  · have h := Eq.mp (if_neg hc_1) h
    refine st_icmp (t := 17) (b := true) rfl (decide_eq_true hc_1) rfl ?_
    refine st_go 3 (pc' := 22) (lo' := [(0, .ref 42), (1, .int x1)]) (st' := [.int x1, .ref 65]) rfl ?_
    obtain ⟨hj_6, h⟩ := h
    refine st_ialdR (o := 65) rfl rfl hj_6 rfl (fun y_7 hy_y_7 => ?_)
    have h := h y_7 hy_y_7
    exact st_retI rfl rfl (hQ _ _ h)
set_option maxRecDepth 100000 in
def MO_signs (x1 : Int32) (d : vmD) (Q : Int32 → vmD → Prop) : Prop :=
  if x1 = 0 then
  (Q ((x1 &&& 168) ||| 64) d)
  else
  (Q ((x1 &&& 168) ||| 0) d)
set_option maxRecDepth 100000 in
set_option maxHeartbeats 4000000 in
theorem tMO_signs {L : Nat} {e : vmD} {Qo : Option Value → vmW → Prop} {Q : Int32 → vmD → Prop} (hQ : ∀ r d, Q r d → Qo (some (.int r)) (wR L d e)) (x1 : Int32) (d : vmD) (h : MO_signs x1 d Q) : vmWp 369 0 [(0, .ref 42), (1, .int x1)] [] (wR L d e) Qo := by
  unfold MO_signs at h
  refine st_go 4 (pc' := 6) (lo' := [(0, .ref 42), (1, .int x1)]) (st' := [.int x1, .int (x1 &&& 168)]) rfl ?_
  by_cases hc_1 : x1 = 0
  · have h := Eq.mp (if_pos hc_1) h
    refine st_if (t := 9) (b := false) rfl (decide_eq_false (fun z => z hc_1)) rfl ?_
    refine st_go 3 (pc' := 16) (lo' := [(0, .ref 42), (1, .int x1)]) (st' := [.int ((x1 &&& 168) ||| 64)]) rfl ?_
    exact st_retI rfl rfl (hQ _ _ h)
  · have h := Eq.mp (if_neg hc_1) h
    refine st_if (t := 14) (b := true) rfl (decide_eq_true hc_1) rfl ?_
    refine st_go 2 (pc' := 16) (lo' := [(0, .ref 42), (1, .int x1)]) (st' := [.int ((x1 &&& 168) ||| 0)]) rfl ?_
    exact st_retI rfl rfl (hQ _ _ h)
set_option maxRecDepth 100000 in
def MO_parity (x1 : Int32) (d : vmD) (Q : Int32 → vmD → Prop) : Prop :=
  bnd (x1 ^^^ (x1 >>> ((4 : Int32) &&& 31))) fun x2_1 =>
  bnd (x2_1 ^^^ (x2_1 >>> ((2 : Int32) &&& 31))) fun x2_2 =>
  bnd (x2_2 ^^^ (x2_2 >>> ((1 : Int32) &&& 31))) fun x2_3 =>
  if (x2_3 &&& 1) = 0 then
  (Q 4 d)
  else
  (Q 0 d)
set_option maxRecDepth 100000 in
set_option maxHeartbeats 4000000 in
theorem tMO_parity {L : Nat} {e : vmD} {Qo : Option Value → vmW → Prop} {Q : Int32 → vmD → Prop} (hQ : ∀ r d, Q r d → Qo (some (.int r)) (wR L d e)) (x1 : Int32) (d : vmD) (h : MO_parity x1 d Q) : vmWp 368 0 [(0, .ref 42), (1, .int x1)] [] (wR L d e) Qo := by
  unfold MO_parity at h
  refine st_go 6 (pc' := 6) (lo' := [(2, .int (x1 ^^^ (x1 >>> ((4 : Int32) &&& 31)))), (0, .ref 42), (1, .int x1)]) (st' := []) rfl ?_
  refine st_locI (fun x2_1 hy_x2_1 => ?_)
  have h := h x2_1 hy_x2_1
  refine st_go 6 (pc' := 12) (lo' := [(2, .int (x2_1 ^^^ (x2_1 >>> ((2 : Int32) &&& 31)))), (0, .ref 42), (1, .int x1)]) (st' := []) rfl ?_
  refine st_locI (fun x2_2 hy_x2_2 => ?_)
  have h := h x2_2 hy_x2_2
  refine st_go 6 (pc' := 18) (lo' := [(2, .int (x2_2 ^^^ (x2_2 >>> ((1 : Int32) &&& 31)))), (0, .ref 42), (1, .int x1)]) (st' := []) rfl ?_
  refine st_locI (fun x2_3 hy_x2_3 => ?_)
  have h := h x2_3 hy_x2_3
  refine st_go 3 (pc' := 21) (lo' := [(2, .int x2_3), (0, .ref 42), (1, .int x1)]) (st' := [.int (x2_3 &&& 1)]) rfl ?_
  by_cases hc_4 : (x2_3 &&& 1) = 0
  · have h := Eq.mp (if_pos hc_4) h
    refine st_if (t := 24) (b := false) rfl (decide_eq_false (fun z => z hc_4)) rfl ?_
    refine st_go 2 (pc' := 29) (lo' := [(2, .int x2_3), (0, .ref 42), (1, .int x1)]) (st' := [.int 4]) rfl ?_
    exact st_retI rfl rfl (hQ _ _ h)
  · have h := Eq.mp (if_neg hc_4) h
    refine st_if (t := 28) (b := true) rfl (decide_eq_true hc_4) rfl ?_
    refine st_go 1 (pc' := 29) (lo' := [(2, .int x2_3), (0, .ref 42), (1, .int x1)]) (st' := [.int 0]) rfl ?_
    exact st_retI rfl rfl (hQ _ _ h)
set_option maxRecDepth 100000 in
def MO_turned_147 (x4 : Int32) (x5 : Int32) (d : vmD) (Q : Int32 → vmD → Prop) : Prop :=
  bnd (x5 &&& 255) fun x5_6 =>
  MO_signs x5_6 d fun r_8 d_7 =>
  MO_parity x5_6 d_7 fun r_10 d_9 =>
  bnd (sA d_9 65 6 ((r_8 ||| r_10) ||| x4)) fun d_11 =>
  Q x5_6 d_11
set_option maxRecDepth 100000 in
set_option maxHeartbeats 4000000 in
theorem tMO_turned_147 {L : Nat} {e : vmD} {Qo : Option Value → vmW → Prop} {Q : Int32 → vmD → Prop} (hQ : ∀ r d, Q r d → Qo (some (.int r)) (wR L d e)) (x4 : Int32) (x5 : Int32) (d : vmD) (h : MO_turned_147 x4 x5 d Q) : vmWp 374 147 [(0, .ref 42), (4, .int x4), (5, .int x5)] [] (wR L d e) Qo := by
  unfold MO_turned_147 at h
  refine st_go 4 (pc' := 155) (lo' := [(5, .int (x5 &&& 255)), (0, .ref 42), (4, .int x4)]) (st' := []) rfl ?_
  refine st_locI (fun x5_6 hy_x5_6 => ?_)
  have h := h x5_6 hy_x5_6
  refine st_go 5 (pc' := 164) (lo' := [(5, .int x5_6), (0, .ref 42), (4, .int x4)]) (st' := [.int x5_6, .ref 42, .int 6, .ref 65]) rfl ?_
  refine st_calli (k' := 369) (as := [.ref 42, .int x5_6]) (rest := [.int 6, .ref 65]) (lo' := [(0, .ref 42), (1, .int x5_6)]) (wf := fun d => wR L d e) rfl rfl rfl ?_
  refine tMO_signs (fun r_8 d_7 h => ⟨r_8, d_7, rfl, rfl, ?_⟩) x5_6 d h
  refine st_go 2 (pc' := 170) (lo' := [(5, .int x5_6), (0, .ref 42), (4, .int x4)]) (st' := [.int x5_6, .ref 42, .int r_8, .int 6, .ref 65]) rfl ?_
  refine st_calli (k' := 368) (as := [.ref 42, .int x5_6]) (rest := [.int r_8, .int 6, .ref 65]) (lo' := [(0, .ref 42), (1, .int x5_6)]) (wf := fun d => wR L d e) rfl rfl rfl ?_
  refine tMO_parity (fun r_10 d_9 h => ⟨r_10, d_9, rfl, rfl, ?_⟩) x5_6 d_7 h
  refine st_go 3 (pc' := 177) (lo' := [(5, .int x5_6), (0, .ref 42), (4, .int x4)]) (st' := [.int ((r_8 ||| r_10) ||| x4), .int 6, .ref 65]) rfl ?_
  refine st_iastR (o := 65) rfl rfl (show ixOk 6 8 by decide) rfl (fun d_11 hy_d_11 => ?_)
  have h := h d_11 hy_d_11
  refine st_go 1 (pc' := 180) (lo' := [(5, .int x5_6), (0, .ref 42), (4, .int x4)]) (st' := [.int x5_6]) rfl ?_
  exact st_retI rfl rfl (hQ _ _ h)
set_option maxRecDepth 100000 in
def MO_turned_26 (x1 : Int32) (x2 : Int32) (x3 : Int32) (s0 : Int32) (d : vmD) (Q : Int32 → vmD → Prop) : Prop :=
  if x1 = 0 then
  (bnd ((x2 <<< ((1 : Int32) &&& 31)) ||| s0) fun x5_5 =>
  MO_turned_147 s0 x5_5 d Q)
  else
  if x1 = 1 then
  (bnd ((x2 >>> ((1 : Int32) &&& 31)) ||| (s0 <<< ((7 : Int32) &&& 31))) fun x5_13 =>
  MO_turned_147 s0 x5_13 d Q)
  else
  if x1 = 2 then
  (bnd ((x2 <<< ((1 : Int32) &&& 31)) ||| x3) fun x5_15 =>
  MO_turned_147 s0 x5_15 d Q)
  else
  if x1 = 3 then
  (bnd ((x2 >>> ((1 : Int32) &&& 31)) ||| (x3 <<< ((7 : Int32) &&& 31))) fun x5_17 =>
  MO_turned_147 s0 x5_17 d Q)
  else
  if x1 = 4 then
  (bnd (x2 <<< ((1 : Int32) &&& 31)) fun x5_19 =>
  MO_turned_147 s0 x5_19 d Q)
  else
  if x1 = 5 then
  (bnd ((x2 >>> ((1 : Int32) &&& 31)) ||| (x2 &&& 128)) fun x5_21 =>
  MO_turned_147 s0 x5_21 d Q)
  else
  (bnd (x2 >>> ((1 : Int32) &&& 31)) fun x5_22 =>
  MO_turned_147 s0 x5_22 d Q)
set_option maxRecDepth 100000 in
set_option maxHeartbeats 4000000 in
theorem tMO_turned_26 {L : Nat} {e : vmD} {Qo : Option Value → vmW → Prop} {Q : Int32 → vmD → Prop} (hQ : ∀ r d, Q r d → Qo (some (.int r)) (wR L d e)) (x1 : Int32) (x2 : Int32) (x3 : Int32) (s0 : Int32) (d : vmD) (h : MO_turned_26 x1 x2 x3 s0 d Q) : vmWp 374 26 [(0, .ref 42), (1, .int x1), (2, .int x2), (3, .int x3)] [.int s0] (wR L d e) Qo := by
  unfold MO_turned_26 at h
  refine st_go 4 (pc' := 32) (lo' := [(5, .int 0), (4, .int s0), (0, .ref 42), (1, .int x1), (2, .int x2), (3, .int x3)]) (st' := [.int x1]) rfl ?_
  by_cases hc_4 : x1 = 0
  · have h := Eq.mp (if_pos hc_4) h
    refine st_tab (t := 72) rfl (by rw [hc_4]; rfl) ?_
    refine st_go 6 (pc' := 80) (lo' := [(5, .int ((x2 <<< ((1 : Int32) &&& 31)) ||| s0)), (4, .int s0), (0, .ref 42), (1, .int x1), (2, .int x2), (3, .int x3)]) (st' := []) rfl ?_
    refine st_locI (fun x5_5 hy_x5_5 => ?_)
    have h := h x5_5 hy_x5_5
    refine st_go 1 (pc' := 147) (lo' := [(5, .int x5_5), (4, .int s0), (0, .ref 42), (1, .int x1), (2, .int x2), (3, .int x3)]) (st' := []) rfl ?_
    refine vmWp.sub (lo' := [(0, .ref 42), (4, .int s0), (5, .int x5_5)]) ⟨rfl, rfl, rfl, trivial⟩ ?_
    exact tMO_turned_147 hQ s0 x5_5 d h
  · have h := Eq.mp (if_neg hc_4) h
    by_cases hc_12 : x1 = 1
    · have h := Eq.mp (if_pos hc_12) h
      refine st_tab (t := 83) rfl (by rw [hc_12]; rfl) ?_
      refine st_go 8 (pc' := 94) (lo' := [(5, .int ((x2 >>> ((1 : Int32) &&& 31)) ||| (s0 <<< ((7 : Int32) &&& 31)))), (4, .int s0), (0, .ref 42), (1, .int x1), (2, .int x2), (3, .int x3)]) (st' := []) rfl ?_
      refine st_locI (fun x5_13 hy_x5_13 => ?_)
      have h := h x5_13 hy_x5_13
      refine st_go 1 (pc' := 147) (lo' := [(5, .int x5_13), (4, .int s0), (0, .ref 42), (1, .int x1), (2, .int x2), (3, .int x3)]) (st' := []) rfl ?_
      refine vmWp.sub (lo' := [(0, .ref 42), (4, .int s0), (5, .int x5_13)]) ⟨rfl, rfl, rfl, trivial⟩ ?_
      exact tMO_turned_147 hQ s0 x5_13 d h
    · have h := Eq.mp (if_neg hc_12) h
      by_cases hc_14 : x1 = 2
      · have h := Eq.mp (if_pos hc_14) h
        refine st_tab (t := 97) rfl (by rw [hc_14]; rfl) ?_
        refine st_go 6 (pc' := 104) (lo' := [(5, .int ((x2 <<< ((1 : Int32) &&& 31)) ||| x3)), (4, .int s0), (0, .ref 42), (1, .int x1), (2, .int x2), (3, .int x3)]) (st' := []) rfl ?_
        refine st_locI (fun x5_15 hy_x5_15 => ?_)
        have h := h x5_15 hy_x5_15
        refine st_go 1 (pc' := 147) (lo' := [(5, .int x5_15), (4, .int s0), (0, .ref 42), (1, .int x1), (2, .int x2), (3, .int x3)]) (st' := []) rfl ?_
        refine vmWp.sub (lo' := [(0, .ref 42), (4, .int s0), (5, .int x5_15)]) ⟨rfl, rfl, rfl, trivial⟩ ?_
        exact tMO_turned_147 hQ s0 x5_15 d h
      · have h := Eq.mp (if_neg hc_14) h
        by_cases hc_16 : x1 = 3
        · have h := Eq.mp (if_pos hc_16) h
          refine st_tab (t := 107) rfl (by rw [hc_16]; rfl) ?_
          refine st_go 8 (pc' := 117) (lo' := [(5, .int ((x2 >>> ((1 : Int32) &&& 31)) ||| (x3 <<< ((7 : Int32) &&& 31)))), (4, .int s0), (0, .ref 42), (1, .int x1), (2, .int x2), (3, .int x3)]) (st' := []) rfl ?_
          refine st_locI (fun x5_17 hy_x5_17 => ?_)
          have h := h x5_17 hy_x5_17
          refine st_go 1 (pc' := 147) (lo' := [(5, .int x5_17), (4, .int s0), (0, .ref 42), (1, .int x1), (2, .int x2), (3, .int x3)]) (st' := []) rfl ?_
          refine vmWp.sub (lo' := [(0, .ref 42), (4, .int s0), (5, .int x5_17)]) ⟨rfl, rfl, rfl, trivial⟩ ?_
          exact tMO_turned_147 hQ s0 x5_17 d h
        · have h := Eq.mp (if_neg hc_16) h
          by_cases hc_18 : x1 = 4
          · have h := Eq.mp (if_pos hc_18) h
            refine st_tab (t := 120) rfl (by rw [hc_18]; rfl) ?_
            refine st_go 4 (pc' := 125) (lo' := [(5, .int (x2 <<< ((1 : Int32) &&& 31))), (4, .int s0), (0, .ref 42), (1, .int x1), (2, .int x2), (3, .int x3)]) (st' := []) rfl ?_
            refine st_locI (fun x5_19 hy_x5_19 => ?_)
            have h := h x5_19 hy_x5_19
            refine st_go 1 (pc' := 147) (lo' := [(5, .int x5_19), (4, .int s0), (0, .ref 42), (1, .int x1), (2, .int x2), (3, .int x3)]) (st' := []) rfl ?_
            refine vmWp.sub (lo' := [(0, .ref 42), (4, .int s0), (5, .int x5_19)]) ⟨rfl, rfl, rfl, trivial⟩ ?_
            exact tMO_turned_147 hQ s0 x5_19 d h
          · have h := Eq.mp (if_neg hc_18) h
            by_cases hc_20 : x1 = 5
            · have h := Eq.mp (if_pos hc_20) h
              refine st_tab (t := 128) rfl (by rw [hc_20]; rfl) ?_
              refine st_go 8 (pc' := 139) (lo' := [(5, .int ((x2 >>> ((1 : Int32) &&& 31)) ||| (x2 &&& 128))), (4, .int s0), (0, .ref 42), (1, .int x1), (2, .int x2), (3, .int x3)]) (st' := []) rfl ?_
              refine st_locI (fun x5_21 hy_x5_21 => ?_)
              have h := h x5_21 hy_x5_21
              refine st_go 1 (pc' := 147) (lo' := [(5, .int x5_21), (4, .int s0), (0, .ref 42), (1, .int x1), (2, .int x2), (3, .int x3)]) (st' := []) rfl ?_
              refine vmWp.sub (lo' := [(0, .ref 42), (4, .int s0), (5, .int x5_21)]) ⟨rfl, rfl, rfl, trivial⟩ ?_
              exact tMO_turned_147 hQ s0 x5_21 d h
            · have h := Eq.mp (if_neg hc_20) h
              refine st_tab (t := 142) rfl (tab_def rfl (by decide) rfl (by
                intro j hj hx
                have hj : j < 6 := hj
                rcases (j = 0 ∨ j = 1 ∨ j = 2 ∨ j = 3 ∨ j = 4 ∨ j = 5 : Prop) |> fun _ => (show j = 0 ∨ j = 1 ∨ j = 2 ∨ j = 3 ∨ j = 4 ∨ j = 5 by omega) with rfl | rfl | rfl | rfl | rfl | rfl <;> first | rfl | exact absurd hx hc_4 | exact absurd hx hc_12 | exact absurd hx hc_14 | exact absurd hx hc_16 | exact absurd hx hc_18 | exact absurd hx hc_20)) ?_
              refine st_go 4 (pc' := 147) (lo' := [(5, .int (x2 >>> ((1 : Int32) &&& 31))), (4, .int s0), (0, .ref 42), (1, .int x1), (2, .int x2), (3, .int x3)]) (st' := []) rfl ?_
              refine st_locI (fun x5_22 hy_x5_22 => ?_)
              have h := h x5_22 hy_x5_22
              refine vmWp.sub (lo' := [(0, .ref 42), (4, .int s0), (5, .int x5_22)]) ⟨rfl, rfl, rfl, trivial⟩ ?_
              exact tMO_turned_147 hQ s0 x5_22 d h
set_option maxRecDepth 100000 in
def MO_turned (x1 : Int32) (x2 : Int32) (d : vmD) (Q : Int32 → vmD → Prop) : Prop :=
  bnd (gA d 65 6) fun y_1 =>
  bnd (y_1 &&& 1) fun x3_2 =>
  if (x1 &&& 1) = 0 then
  (MO_turned_26 x1 x2 x3_2 (x2 >>> ((7 : Int32) &&& 31)) d Q)
  else
  (MO_turned_26 x1 x2 x3_2 (x2 &&& 1) d Q)
set_option maxRecDepth 100000 in
set_option maxHeartbeats 4000000 in
theorem tMO_turned {L : Nat} {e : vmD} {Qo : Option Value → vmW → Prop} {Q : Int32 → vmD → Prop} (hQ : ∀ r d, Q r d → Qo (some (.int r)) (wR L d e)) (x1 : Int32) (x2 : Int32) (d : vmD) (h : MO_turned x1 x2 d Q) : vmWp 374 0 [(0, .ref 42), (1, .int x1), (2, .int x2)] [] (wR L d e) Qo := by
  unfold MO_turned at h
  refine st_go 3 (pc' := 6) (lo' := [(0, .ref 42), (1, .int x1), (2, .int x2)]) (st' := [.int 6, .ref 65]) rfl ?_
  refine st_ialdR (o := 65) rfl rfl (show ixOk 6 8 by decide) rfl (fun y_1 hy_y_1 => ?_)
  have h := h y_1 hy_y_1
  refine st_go 3 (pc' := 10) (lo' := [(3, .int (y_1 &&& 1)), (0, .ref 42), (1, .int x1), (2, .int x2)]) (st' := []) rfl ?_
  refine st_locI (fun x3_2 hy_x3_2 => ?_)
  have h := h x3_2 hy_x3_2
  refine st_go 3 (pc' := 13) (lo' := [(3, .int x3_2), (0, .ref 42), (1, .int x1), (2, .int x2)]) (st' := [.int (x1 &&& 1)]) rfl ?_
  by_cases hc_3 : (x1 &&& 1) = 0
  · have h := Eq.mp (if_pos hc_3) h
    refine st_if (t := 16) (b := false) rfl (decide_eq_false (fun z => z hc_3)) rfl ?_
    refine st_go 4 (pc' := 26) (lo' := [(3, .int x3_2), (0, .ref 42), (1, .int x1), (2, .int x2)]) (st' := [.int (x2 >>> ((7 : Int32) &&& 31))]) rfl ?_
    refine vmWp.sub (lo' := [(0, .ref 42), (1, .int x1), (2, .int x2), (3, .int x3_2)]) ⟨rfl, rfl, rfl, rfl, trivial⟩ ?_
    exact tMO_turned_26 hQ x1 x2 x3_2 (x2 >>> ((7 : Int32) &&& 31)) d h
  · have h := Eq.mp (if_neg hc_3) h
    refine st_if (t := 23) (b := true) rfl (decide_eq_true hc_3) rfl ?_
    refine st_go 3 (pc' := 26) (lo' := [(3, .int x3_2), (0, .ref 42), (1, .int x1), (2, .int x2)]) (st' := [.int (x2 &&& 1)]) rfl ?_
    refine vmWp.sub (lo' := [(0, .ref 42), (1, .int x1), (2, .int x2), (3, .int x3_2)]) ⟨rfl, rfl, rfl, rfl, trivial⟩ ?_
    exact tMO_turned_26 hQ x1 x2 x3_2 (x2 &&& 1) d h
set_option maxRecDepth 100000 in
def MO_setOctet (x1 : Int32) (x2 : Int32) (d : vmD) (Q : vmD → Prop) : Prop :=
  if x1 = 6 then
  (MO_placeAt d fun r_3 d_2 =>
  MO_store r_3 x2 d_2 fun d_4 =>
  Q d_4)
  else
  (ixOk x1 8 ∧
  bnd (sA d 65 x1.toNatClampNeg (x2 &&& 255)) fun d_6 =>
  Q d_6)
set_option maxRecDepth 100000 in
set_option maxHeartbeats 4000000 in
theorem tMO_setOctet {L : Nat} {e : vmD} {Qo : Option Value → vmW → Prop} {Q : vmD → Prop} (hQ : ∀ d, Q d → Qo none (wR L d e)) (x1 : Int32) (x2 : Int32) (d : vmD) (h : MO_setOctet x1 x2 d Q) : vmWp 379 0 [(0, .ref 42), (1, .int x1), (2, .int x2)] [] (wR L d e) Qo := by
  unfold MO_setOctet at h
  refine st_go 2 (pc' := 3) (lo' := [(0, .ref 42), (1, .int x1), (2, .int x2)]) (st' := [.int 6, .int x1]) rfl ?_
  by_cases hc_1 : x1 = 6
  · have h := Eq.mp (if_pos hc_1) h
    refine st_icmp (t := 6) (b := false) rfl (decide_eq_false (fun z => z hc_1)) rfl ?_
    refine st_go 2 (pc' := 8) (lo' := [(0, .ref 42), (1, .int x1), (2, .int x2)]) (st' := [.ref 42, .ref 42]) rfl ?_
    refine st_calli (k' := 377) (as := [.ref 42]) (rest := [.ref 42]) (lo' := [(0, .ref 42)]) (wf := fun d => wR L d e) rfl rfl rfl ?_
    refine tMO_placeAt (fun r_3 d_2 h => ⟨r_3, d_2, rfl, rfl, ?_⟩) d h
    refine st_go 1 (pc' := 12) (lo' := [(0, .ref 42), (1, .int x1), (2, .int x2)]) (st' := [.int x2, .int r_3, .ref 42]) rfl ?_
    refine st_callv (k' := 363) (as := [.ref 42, .int r_3, .int x2]) (rest := []) (lo' := [(0, .ref 42), (1, .int r_3), (2, .int x2)]) (wf := fun d => wR L d e) rfl rfl rfl ?_
    refine tMO_store (fun d_4 h => ⟨d_4, rfl, rfl, ?_⟩) r_3 x2 d_2 h
    refine st_go 1 (pc' := 29) (lo' := [(0, .ref 42), (1, .int x1), (2, .int x2)]) (st' := []) rfl ?_
    exact st_retV rfl rfl (hQ _ h)
  · have h := Eq.mp (if_neg hc_1) h
    refine st_icmp (t := 18) (b := true) rfl (decide_eq_true hc_1) rfl ?_
    refine st_go 6 (pc' := 28) (lo' := [(0, .ref 42), (1, .int x1), (2, .int x2)]) (st' := [.int (x2 &&& 255), .int x1, .ref 65]) rfl ?_
    obtain ⟨hj_5, h⟩ := h
    refine st_iastR (o := 65) rfl rfl hj_5 rfl (fun d_6 hy_d_6 => ?_)
    have h := h d_6 hy_d_6
    exact st_retV rfl rfl (hQ _ h)
set_option maxRecDepth 100000 in
def MO_do203_139 (s0 : Int32) (s1 : Int32) (s2 : Int32) (d : vmD) (Q : vmD → Prop) : Prop :=
  ixOk s2 8 ∧
  bnd (sA d 65 s2.toNatClampNeg (s1 ||| s0)) fun d_15 =>
  Q d_15
set_option maxRecDepth 100000 in
set_option maxHeartbeats 4000000 in
theorem tMO_do203_139 {L : Nat} {e : vmD} {Qo : Option Value → vmW → Prop} {Q : vmD → Prop} (hQ : ∀ d, Q d → Qo none (wR L d e)) (s0 : Int32) (s1 : Int32) (s2 : Int32) (d : vmD) (h : MO_do203_139 s0 s1 s2 d Q) : vmWp 386 139 [] [.int s0, .int s1, .int s2, .ref 65] (wR L d e) Qo := by
  unfold MO_do203_139 at h
  refine st_go 1 (pc' := 140) (lo' := []) (st' := [.int (s1 ||| s0), .int s2, .ref 65]) rfl ?_
  obtain ⟨hj_14, h⟩ := h
  refine st_iastR (o := 65) rfl rfl hj_14 rfl (fun d_15 hy_d_15 => ?_)
  have h := h d_15 hy_d_15
  refine st_go 1 (pc' := 169) (lo' := []) (st' := []) rfl ?_
  exact st_retV rfl rfl (hQ _ h)
set_option maxRecDepth 100000 in
def MO_do203_138 (s0 : Int32) (s1 : Int32) (d : vmD) (Q : vmD → Prop) : Prop :=
  MO_do203_139 0 s0 s1 d Q
set_option maxRecDepth 100000 in
set_option maxHeartbeats 4000000 in
theorem tMO_do203_138 {L : Nat} {e : vmD} {Qo : Option Value → vmW → Prop} {Q : vmD → Prop} (hQ : ∀ d, Q d → Qo none (wR L d e)) (s0 : Int32) (s1 : Int32) (d : vmD) (h : MO_do203_138 s0 s1 d Q) : vmWp 386 138 [] [.int s0, .int s1, .ref 65] (wR L d e) Qo := by
  unfold MO_do203_138 at h
  refine st_go 1 (pc' := 139) (lo' := []) (st' := [.int 0, .int s0, .int s1, .ref 65]) rfl ?_
  refine vmWp.sub (lo' := []) trivial ?_
  exact tMO_do203_139 hQ 0 s0 s1 d h
set_option maxRecDepth 100000 in
def MO_do203_120 (x1 : Int32) (x4 : Int32) (s0 : Int32) (s1 : Int32) (s2 : Int32) (d : vmD) (Q : vmD → Prop) : Prop :=
  if x4 = 0 then
  (MO_do203_138 (s1 ||| s0) s2 d Q)
  else
  (if x1 = 7 then
  (MO_do203_139 128 (s1 ||| s0) s2 d Q)
  else
  (MO_do203_138 (s1 ||| s0) s2 d Q))
set_option maxRecDepth 100000 in
set_option maxHeartbeats 4000000 in
theorem tMO_do203_120 {L : Nat} {e : vmD} {Qo : Option Value → vmW → Prop} {Q : vmD → Prop} (hQ : ∀ d, Q d → Qo none (wR L d e)) (x1 : Int32) (x4 : Int32) (s0 : Int32) (s1 : Int32) (s2 : Int32) (d : vmD) (h : MO_do203_120 x1 x4 s0 s1 s2 d Q) : vmWp 386 120 [(1, .int x1), (4, .int x4)] [.int s0, .int s1, .int s2, .ref 65] (wR L d e) Qo := by
  unfold MO_do203_120 at h
  refine st_go 2 (pc' := 123) (lo' := [(1, .int x1), (4, .int x4)]) (st' := [.int x4, .int (s1 ||| s0), .int s2, .ref 65]) rfl ?_
  by_cases hc_13 : x4 = 0
  · have h := Eq.mp (if_pos hc_13) h
    refine st_if (t := 138) (b := true) rfl (decide_eq_true hc_13) rfl ?_
    refine vmWp.sub (lo' := []) trivial ?_
    exact tMO_do203_138 hQ (s1 ||| s0) s2 d h
  · have h := Eq.mp (if_neg hc_13) h
    refine st_if (t := 126) (b := false) rfl (decide_eq_false hc_13) rfl ?_
    refine st_go 2 (pc' := 129) (lo' := [(1, .int x1), (4, .int x4)]) (st' := [.int 7, .int x1, .int (s1 ||| s0), .int s2, .ref 65]) rfl ?_
    by_cases hc_16 : x1 = 7
    · have h := Eq.mp (if_pos hc_16) h
      refine st_icmp (t := 132) (b := false) rfl (decide_eq_false (fun z => z hc_16)) rfl ?_
      refine st_go 2 (pc' := 139) (lo' := [(1, .int x1), (4, .int x4)]) (st' := [.int 128, .int (s1 ||| s0), .int s2, .ref 65]) rfl ?_
      refine vmWp.sub (lo' := []) trivial ?_
      exact tMO_do203_139 hQ 128 (s1 ||| s0) s2 d h
    · have h := Eq.mp (if_neg hc_16) h
      refine st_icmp (t := 138) (b := true) rfl (decide_eq_true hc_16) rfl ?_
      refine vmWp.sub (lo' := []) trivial ?_
      exact tMO_do203_138 hQ (s1 ||| s0) s2 d h
set_option maxRecDepth 100000 in
def MO_do203_84 (x1 : Int32) (x3 : Int32) (s0 : Int32) (d : vmD) (Q : vmD → Prop) : Prop :=
  bnd (gA d 65 6) fun y_11 =>
  if s0 = 0 then
  (MO_do203_120 x1 s0 68 (((y_11 &&& 1) ||| 16) ||| (x3 &&& 40)) 6 d Q)
  else
  (MO_do203_120 x1 s0 0 (((y_11 &&& 1) ||| 16) ||| (x3 &&& 40)) 6 d Q)
set_option maxRecDepth 100000 in
set_option maxHeartbeats 4000000 in
theorem tMO_do203_84 {L : Nat} {e : vmD} {Qo : Option Value → vmW → Prop} {Q : vmD → Prop} (hQ : ∀ d, Q d → Qo none (wR L d e)) (x1 : Int32) (x3 : Int32) (s0 : Int32) (d : vmD) (h : MO_do203_84 x1 x3 s0 d Q) : vmWp 386 84 [(0, .ref 42), (1, .int x1), (3, .int x3)] [.int s0] (wR L d e) Qo := by
  unfold MO_do203_84 at h
  refine st_go 7 (pc' := 98) (lo' := [(4, .int s0), (0, .ref 42), (1, .int x1), (3, .int x3)]) (st' := [.int 6, .ref 65, .int 6, .ref 65]) rfl ?_
  refine st_ialdR (o := 65) rfl rfl (show ixOk 6 8 by decide) rfl (fun y_11 hy_y_11 => ?_)
  have h := h y_11 hy_y_11
  refine st_go 9 (pc' := 111) (lo' := [(4, .int s0), (0, .ref 42), (1, .int x1), (3, .int x3)]) (st' := [.int s0, .int (((y_11 &&& 1) ||| 16) ||| (x3 &&& 40)), .int 6, .ref 65]) rfl ?_
  by_cases hc_12 : s0 = 0
  · have h := Eq.mp (if_pos hc_12) h
    refine st_if (t := 118) (b := true) rfl (decide_eq_true hc_12) rfl ?_
    refine st_go 1 (pc' := 120) (lo' := [(4, .int s0), (0, .ref 42), (1, .int x1), (3, .int x3)]) (st' := [.int 68, .int (((y_11 &&& 1) ||| 16) ||| (x3 &&& 40)), .int 6, .ref 65]) rfl ?_
    refine vmWp.sub (lo' := [(1, .int x1), (4, .int s0)]) ⟨rfl, rfl, trivial⟩ ?_
    exact tMO_do203_120 hQ x1 s0 68 (((y_11 &&& 1) ||| 16) ||| (x3 &&& 40)) 6 d h
  · have h := Eq.mp (if_neg hc_12) h
    refine st_if (t := 114) (b := false) rfl (decide_eq_false hc_12) rfl ?_
    refine st_go 2 (pc' := 120) (lo' := [(4, .int s0), (0, .ref 42), (1, .int x1), (3, .int x3)]) (st' := [.int 0, .int (((y_11 &&& 1) ||| 16) ||| (x3 &&& 40)), .int 6, .ref 65]) rfl ?_
    refine vmWp.sub (lo' := [(1, .int x1), (4, .int s0)]) ⟨rfl, rfl, trivial⟩ ?_
    exact tMO_do203_120 hQ x1 s0 0 (((y_11 &&& 1) ||| 16) ||| (x3 &&& 40)) 6 d h
set_option maxRecDepth 100000 in
def MO_do203 (d : vmD) (Q : vmD → Prop) : Prop :=
  bnd (((gF d 42 61) >>> ((3 : Int32) &&& 31)) &&& 7) fun x1_1 =>
  bnd ((gF d 42 61) &&& 7) fun x2_2 =>
  MO_octetAt x2_2 d fun r_4 d_3 =>
  if ((gF d_3 42 61) >>> ((6 : Int32) &&& 31)) = 0 then
  (MO_turned x1_1 r_4 d_3 fun r_7 d_6 =>
  MO_setOctet x2_2 r_7 d_6 fun d_8 =>
  Q d_8)
  else
  if ((gF d_3 42 61) >>> ((6 : Int32) &&& 31)) = 1 then
  (if ((r_4 >>> (x1_1 &&& 31)) &&& 1) = 1 then
  (MO_do203_84 x1_1 r_4 1 d_3 Q)
  else
  (MO_do203_84 x1_1 r_4 0 d_3 Q))
  else
  if ((gF d_3 42 61) >>> ((6 : Int32) &&& 31)) = 2 then
  (MO_setOctet x2_2 (r_4 &&& (((1 : Int32) <<< (x1_1 &&& 31)) ^^^ (-1))) d_3 fun d_18 =>
  Q d_18)
  else
  (MO_setOctet x2_2 (r_4 ||| ((1 : Int32) <<< (x1_1 &&& 31))) d_3 fun d_19 =>
  Q d_19)
set_option maxRecDepth 100000 in
set_option maxHeartbeats 4000000 in
theorem tMO_do203 {L : Nat} {e : vmD} {Qo : Option Value → vmW → Prop} {Q : vmD → Prop} (hQ : ∀ d, Q d → Qo none (wR L d e)) (d : vmD) (h : MO_do203 d Q) : vmWp 386 0 [(0, .ref 42)] [] (wR L d e) Qo := by
  unfold MO_do203 at h
  refine st_go 7 (pc' := 10) (lo' := [(1, .int (((gF d 42 61) >>> ((3 : Int32) &&& 31)) &&& 7)), (0, .ref 42)]) (st' := []) rfl ?_
  refine st_locI (fun x1_1 hy_x1_1 => ?_)
  have h := h x1_1 hy_x1_1
  refine st_go 5 (pc' := 18) (lo' := [(2, .int ((gF d 42 61) &&& 7)), (1, .int x1_1), (0, .ref 42)]) (st' := []) rfl ?_
  refine st_locI (fun x2_2 hy_x2_2 => ?_)
  have h := h x2_2 hy_x2_2
  refine st_go 2 (pc' := 20) (lo' := [(2, .int x2_2), (1, .int x1_1), (0, .ref 42)]) (st' := [.int x2_2, .ref 42]) rfl ?_
  refine st_calli (k' := 378) (as := [.ref 42, .int x2_2]) (rest := []) (lo' := [(0, .ref 42), (1, .int x2_2)]) (wf := fun d => wR L d e) rfl rfl rfl ?_
  refine tMO_octetAt (fun r_4 d_3 h => ⟨r_4, d_3, rfl, rfl, ?_⟩) x2_2 d h
  refine st_go 5 (pc' := 31) (lo' := [(3, .int r_4), (2, .int x2_2), (1, .int x1_1), (0, .ref 42)]) (st' := [.int ((gF d_3 42 61) >>> ((6 : Int32) &&& 31))]) rfl ?_
  by_cases hc_5 : ((gF d_3 42 61) >>> ((6 : Int32) &&& 31)) = 0
  · have h := Eq.mp (if_pos hc_5) h
    refine st_tab (t := 56) rfl (by rw [hc_5]; rfl) ?_
    refine st_go 5 (pc' := 61) (lo' := [(3, .int r_4), (2, .int x2_2), (1, .int x1_1), (0, .ref 42)]) (st' := [.int r_4, .int x1_1, .ref 42, .int x2_2, .ref 42]) rfl ?_
    refine st_calli (k' := 374) (as := [.ref 42, .int x1_1, .int r_4]) (rest := [.int x2_2, .ref 42]) (lo' := [(0, .ref 42), (1, .int x1_1), (2, .int r_4)]) (wf := fun d => wR L d e) rfl rfl rfl ?_
    refine tMO_turned (fun r_7 d_6 h => ⟨r_7, d_6, rfl, rfl, ?_⟩) x1_1 r_4 d_3 h
    refine st_callv (k' := 379) (as := [.ref 42, .int x2_2, .int r_7]) (rest := []) (lo' := [(0, .ref 42), (1, .int x2_2), (2, .int r_7)]) (wf := fun d => wR L d e) rfl rfl rfl ?_
    refine tMO_setOctet (fun d_8 h => ⟨d_8, rfl, rfl, ?_⟩) x2_2 r_7 d_6 h
    refine st_go 1 (pc' := 169) (lo' := [(3, .int r_4), (2, .int x2_2), (1, .int x1_1), (0, .ref 42)]) (st' := []) rfl ?_
    exact st_retV rfl rfl (hQ _ h)
  · have h := Eq.mp (if_neg hc_5) h
    by_cases hc_9 : ((gF d_3 42 61) >>> ((6 : Int32) &&& 31)) = 1
    · have h := Eq.mp (if_pos hc_9) h
      refine st_tab (t := 70) rfl (by rw [hc_9]; rfl) ?_
      refine st_go 6 (pc' := 76) (lo' := [(3, .int r_4), (2, .int x2_2), (1, .int x1_1), (0, .ref 42)]) (st' := [.int 1, .int ((r_4 >>> (x1_1 &&& 31)) &&& 1)]) rfl ?_
      by_cases hc_10 : ((r_4 >>> (x1_1 &&& 31)) &&& 1) = 1
      · have h := Eq.mp (if_pos hc_10) h
        refine st_icmp (t := 79) (b := false) rfl (decide_eq_false (fun z => z hc_10)) rfl ?_
        refine st_go 2 (pc' := 84) (lo' := [(3, .int r_4), (2, .int x2_2), (1, .int x1_1), (0, .ref 42)]) (st' := [.int 1]) rfl ?_
        refine vmWp.sub (lo' := [(0, .ref 42), (1, .int x1_1), (3, .int r_4)]) ⟨rfl, rfl, rfl, trivial⟩ ?_
        exact tMO_do203_84 hQ x1_1 r_4 1 d_3 h
      · have h := Eq.mp (if_neg hc_10) h
        refine st_icmp (t := 83) (b := true) rfl (decide_eq_true hc_10) rfl ?_
        refine st_go 1 (pc' := 84) (lo' := [(3, .int r_4), (2, .int x2_2), (1, .int x1_1), (0, .ref 42)]) (st' := [.int 0]) rfl ?_
        refine vmWp.sub (lo' := [(0, .ref 42), (1, .int x1_1), (3, .int r_4)]) ⟨rfl, rfl, rfl, trivial⟩ ?_
        exact tMO_do203_84 hQ x1_1 r_4 0 d_3 h
    · have h := Eq.mp (if_neg hc_9) h
      by_cases hc_17 : ((gF d_3 42 61) >>> ((6 : Int32) &&& 31)) = 2
      · have h := Eq.mp (if_pos hc_17) h
        refine st_tab (t := 144) rfl (by rw [hc_17]; rfl) ?_
        refine st_go 9 (pc' := 153) (lo' := [(3, .int r_4), (2, .int x2_2), (1, .int x1_1), (0, .ref 42)]) (st' := [.int (r_4 &&& (((1 : Int32) <<< (x1_1 &&& 31)) ^^^ (-1))), .int x2_2, .ref 42]) rfl ?_
        refine st_callv (k' := 379) (as := [.ref 42, .int x2_2, .int (r_4 &&& (((1 : Int32) <<< (x1_1 &&& 31)) ^^^ (-1)))]) (rest := []) (lo' := [(0, .ref 42), (1, .int x2_2), (2, .int (r_4 &&& (((1 : Int32) <<< (x1_1 &&& 31)) ^^^ (-1))))]) (wf := fun d => wR L d e) rfl rfl rfl ?_
        refine tMO_setOctet (fun d_18 h => ⟨d_18, rfl, rfl, ?_⟩) x2_2 (r_4 &&& (((1 : Int32) <<< (x1_1 &&& 31)) ^^^ (-1))) d_3 h
        refine st_go 1 (pc' := 169) (lo' := [(3, .int r_4), (2, .int x2_2), (1, .int x1_1), (0, .ref 42)]) (st' := []) rfl ?_
        exact st_retV rfl rfl (hQ _ h)
      · have h := Eq.mp (if_neg hc_17) h
        refine st_tab (t := 159) rfl (tab_def rfl (by decide) rfl (by
          intro j hj hx
          have hj : j < 3 := hj
          rcases (j = 0 ∨ j = 1 ∨ j = 2 : Prop) |> fun _ => (show j = 0 ∨ j = 1 ∨ j = 2 by omega) with rfl | rfl | rfl <;> first | rfl | exact absurd hx hc_5 | exact absurd hx hc_9 | exact absurd hx hc_17)) ?_
        refine st_go 7 (pc' := 166) (lo' := [(3, .int r_4), (2, .int x2_2), (1, .int x1_1), (0, .ref 42)]) (st' := [.int (r_4 ||| ((1 : Int32) <<< (x1_1 &&& 31))), .int x2_2, .ref 42]) rfl ?_
        refine st_callv (k' := 379) (as := [.ref 42, .int x2_2, .int (r_4 ||| ((1 : Int32) <<< (x1_1 &&& 31)))]) (rest := []) (lo' := [(0, .ref 42), (1, .int x2_2), (2, .int (r_4 ||| ((1 : Int32) <<< (x1_1 &&& 31))))]) (wf := fun d => wR L d e) rfl rfl rfl ?_
        refine tMO_setOctet (fun d_19 h => ⟨d_19, rfl, rfl, ?_⟩) x2_2 (r_4 ||| ((1 : Int32) <<< (x1_1 &&& 31))) d_3 h
        exact st_retV rfl rfl (hQ _ h)
set_option maxRecDepth 100000 in
def MO_difference (x1 : Int32) (x2 : Int32) (x3 : Int32) (d : vmD) (Q : Int32 → vmD → Prop) : Prop :=
  bnd ((x1 - x2) - x3) fun x4_1 =>
  bnd (x4_1 &&& 255) fun x5_2 =>
  MO_signs x5_2 d fun r_4 d_3 =>
  bnd (sA d_3 65 6 ((((r_4 ||| (((x1 ^^^ x2) ^^^ x5_2) &&& 16)) ||| ((((x1 ^^^ x2) &&& (x1 ^^^ x5_2)) &&& 128) >>> ((5 : Int32) &&& 31))) ||| 2) ||| ((x4_1 >>> ((8 : Int32) &&& 31)) &&& 1))) fun d_5 =>
  Q x5_2 d_5
set_option maxRecDepth 100000 in
set_option maxHeartbeats 4000000 in
theorem tMO_difference {L : Nat} {e : vmD} {Qo : Option Value → vmW → Prop} {Q : Int32 → vmD → Prop} (hQ : ∀ r d, Q r d → Qo (some (.int r)) (wR L d e)) (x1 : Int32) (x2 : Int32) (x3 : Int32) (d : vmD) (h : MO_difference x1 x2 x3 d Q) : vmWp 371 0 [(0, .ref 42), (1, .int x1), (2, .int x2), (3, .int x3)] [] (wR L d e) Qo := by
  unfold MO_difference at h
  refine st_go 6 (pc' := 7) (lo' := [(4, .int ((x1 - x2) - x3)), (0, .ref 42), (1, .int x1), (2, .int x2), (3, .int x3)]) (st' := []) rfl ?_
  refine st_locI (fun x4_1 hy_x4_1 => ?_)
  have h := h x4_1 hy_x4_1
  refine st_go 4 (pc' := 15) (lo' := [(5, .int (x4_1 &&& 255)), (4, .int x4_1), (0, .ref 42), (1, .int x1), (2, .int x2), (3, .int x3)]) (st' := []) rfl ?_
  refine st_locI (fun x5_2 hy_x5_2 => ?_)
  have h := h x5_2 hy_x5_2
  refine st_go 5 (pc' := 24) (lo' := [(5, .int x5_2), (4, .int x4_1), (0, .ref 42), (1, .int x1), (2, .int x2), (3, .int x3)]) (st' := [.int x5_2, .ref 42, .int 6, .ref 65]) rfl ?_
  refine st_calli (k' := 369) (as := [.ref 42, .int x5_2]) (rest := [.int 6, .ref 65]) (lo' := [(0, .ref 42), (1, .int x5_2)]) (wf := fun d => wR L d e) rfl rfl rfl ?_
  refine tMO_signs (fun r_4 d_3 h => ⟨r_4, d_3, rfl, rfl, ?_⟩) x5_2 d h
  refine st_go 28 (pc' := 62) (lo' := [(5, .int x5_2), (4, .int x4_1), (0, .ref 42), (1, .int x1), (2, .int x2), (3, .int x3)]) (st' := [.int ((((r_4 ||| (((x1 ^^^ x2) ^^^ x5_2) &&& 16)) ||| ((((x1 ^^^ x2) &&& (x1 ^^^ x5_2)) &&& 128) >>> ((5 : Int32) &&& 31))) ||| 2) ||| ((x4_1 >>> ((8 : Int32) &&& 31)) &&& 1)), .int 6, .ref 65]) rfl ?_
  refine st_iastR (o := 65) rfl rfl (show ixOk 6 8 by decide) rfl (fun d_5 hy_d_5 => ?_)
  have h := h d_5 hy_d_5
  refine st_go 1 (pc' := 65) (lo' := [(5, .int x5_2), (4, .int x4_1), (0, .ref 42), (1, .int x1), (2, .int x2), (3, .int x3)]) (st' := [.int x5_2]) rfl ?_
  exact st_retI rfl rfl (hQ _ _ h)
set_option maxRecDepth 100000 in
def MO_portFlags_36 (x2 : Int32) (s0 : Int32) (s1 : Int32) (s2 : Int32) (d : vmD) (Q : vmD → Prop) : Prop :=
  bnd (gA d 65 0) fun y_5 =>
  MO_parity ((x2 &&& 7) ^^^ y_5) d fun r_7 d_6 =>
  ixOk s2 8 ∧
  bnd (sA d_6 65 s2.toNatClampNeg ((s1 ||| s0) ||| r_7)) fun d_9 =>
  Q d_9
set_option maxRecDepth 100000 in
set_option maxHeartbeats 4000000 in
theorem tMO_portFlags_36 {L : Nat} {e : vmD} {Qo : Option Value → vmW → Prop} {Q : vmD → Prop} (hQ : ∀ d, Q d → Qo none (wR L d e)) (x2 : Int32) (s0 : Int32) (s1 : Int32) (s2 : Int32) (d : vmD) (h : MO_portFlags_36 x2 s0 s1 s2 d Q) : vmWp 401 36 [(0, .ref 42), (2, .int x2)] [.int s0, .int s1, .int s2, .ref 65] (wR L d e) Qo := by
  unfold MO_portFlags_36 at h
  refine st_go 8 (pc' := 47) (lo' := [(0, .ref 42), (2, .int x2)]) (st' := [.int 0, .ref 65, .int (x2 &&& 7), .ref 42, .int (s1 ||| s0), .int s2, .ref 65]) rfl ?_
  refine st_ialdR (o := 65) rfl rfl (show ixOk 0 8 by decide) rfl (fun y_5 hy_y_5 => ?_)
  have h := h y_5 hy_y_5
  refine st_go 1 (pc' := 49) (lo' := [(0, .ref 42), (2, .int x2)]) (st' := [.int ((x2 &&& 7) ^^^ y_5), .ref 42, .int (s1 ||| s0), .int s2, .ref 65]) rfl ?_
  refine st_calli (k' := 368) (as := [.ref 42, .int ((x2 &&& 7) ^^^ y_5)]) (rest := [.int (s1 ||| s0), .int s2, .ref 65]) (lo' := [(0, .ref 42), (1, .int ((x2 &&& 7) ^^^ y_5))]) (wf := fun d => wR L d e) rfl rfl rfl ?_
  refine tMO_parity (fun r_7 d_6 h => ⟨r_7, d_6, rfl, rfl, ?_⟩) ((x2 &&& 7) ^^^ y_5) d h
  refine st_go 1 (pc' := 53) (lo' := [(0, .ref 42), (2, .int x2)]) (st' := [.int ((s1 ||| s0) ||| r_7), .int s2, .ref 65]) rfl ?_
  obtain ⟨hj_8, h⟩ := h
  refine st_iastR (o := 65) rfl rfl hj_8 rfl (fun d_9 hy_d_9 => ?_)
  have h := h d_9 hy_d_9
  exact st_retV rfl rfl (hQ _ h)
set_option maxRecDepth 100000 in
def MO_portFlags (x1 : Int32) (x2 : Int32) (d : vmD) (Q : vmD → Prop) : Prop :=
  bnd (gA d 65 0) fun y_1 =>
  MO_signs y_1 d fun r_3 d_2 =>
  if (255 : Int32) < x2 then
  (MO_portFlags_36 x2 17 (r_3 ||| ((x1 >>> ((6 : Int32) &&& 31)) &&& 2)) 6 d_2 Q)
  else
  (MO_portFlags_36 x2 0 (r_3 ||| ((x1 >>> ((6 : Int32) &&& 31)) &&& 2)) 6 d_2 Q)
set_option maxRecDepth 100000 in
set_option maxHeartbeats 4000000 in
theorem tMO_portFlags {L : Nat} {e : vmD} {Qo : Option Value → vmW → Prop} {Q : vmD → Prop} (hQ : ∀ d, Q d → Qo none (wR L d e)) (x1 : Int32) (x2 : Int32) (d : vmD) (h : MO_portFlags x1 x2 d Q) : vmWp 401 0 [(0, .ref 42), (1, .int x1), (2, .int x2)] [] (wR L d e) Qo := by
  unfold MO_portFlags at h
  refine st_go 7 (pc' := 12) (lo' := [(0, .ref 42), (1, .int x1), (2, .int x2)]) (st' := [.int 0, .ref 65, .ref 42, .int 6, .ref 65]) rfl ?_
  refine st_ialdR (o := 65) rfl rfl (show ixOk 0 8 by decide) rfl (fun y_1 hy_y_1 => ?_)
  have h := h y_1 hy_y_1
  refine st_calli (k' := 369) (as := [.ref 42, .int y_1]) (rest := [.int 6, .ref 65]) (lo' := [(0, .ref 42), (1, .int y_1)]) (wf := fun d => wR L d e) rfl rfl rfl ?_
  refine tMO_signs (fun r_3 d_2 h => ⟨r_3, d_2, rfl, rfl, ?_⟩) y_1 d h
  refine st_go 8 (pc' := 27) (lo' := [(0, .ref 42), (1, .int x1), (2, .int x2)]) (st' := [.int 255, .int x2, .int (r_3 ||| ((x1 >>> ((6 : Int32) &&& 31)) &&& 2)), .int 6, .ref 65]) rfl ?_
  by_cases hc_4 : (255 : Int32) < x2
  · have h := Eq.mp (if_pos hc_4) h
    refine st_icmp (t := 30) (b := false) rfl (decide_eq_false (Int32.not_le.mpr hc_4)) rfl ?_
    refine st_go 2 (pc' := 36) (lo' := [(0, .ref 42), (1, .int x1), (2, .int x2)]) (st' := [.int 17, .int (r_3 ||| ((x1 >>> ((6 : Int32) &&& 31)) &&& 2)), .int 6, .ref 65]) rfl ?_
    refine vmWp.sub (lo' := [(0, .ref 42), (2, .int x2)]) ⟨rfl, rfl, trivial⟩ ?_
    exact tMO_portFlags_36 hQ x2 17 (r_3 ||| ((x1 >>> ((6 : Int32) &&& 31)) &&& 2)) 6 d_2 h
  · have h := Eq.mp (if_neg hc_4) h
    refine st_icmp (t := 35) (b := true) rfl (decide_eq_true (Int32.not_lt.mp hc_4)) rfl ?_
    refine st_go 1 (pc' := 36) (lo' := [(0, .ref 42), (1, .int x1), (2, .int x2)]) (st' := [.int 0, .int (r_3 ||| ((x1 >>> ((6 : Int32) &&& 31)) &&& 2)), .int 6, .ref 65]) rfl ?_
    refine vmWp.sub (lo' := [(0, .ref 42), (2, .int x2)]) ⟨rfl, rfl, trivial⟩ ?_
    exact tMO_portFlags_36 hQ x2 0 (r_3 ||| ((x1 >>> ((6 : Int32) &&& 31)) &&& 2)) 6 d_2 h
set_option maxRecDepth 100000 in
def MO_outPort (x1 : Int32) (x2 : Int32) (d : vmD) (Q : vmD → Prop) : Prop :=
  ixOk (x1 &&& 255) 256 ∧
  bnd (sA d 69 (x1 &&& 255).toNatClampNeg (x2 &&& 255)) fun d_2 =>
  bnd (sG d_2 42 86 ((gG d_2 42 86) + 1)) fun d_3 =>
  Q d_3
set_option maxRecDepth 100000 in
set_option maxHeartbeats 4000000 in
theorem tMO_outPort {L : Nat} {e : vmD} {Qo : Option Value → vmW → Prop} {Q : vmD → Prop} (hQ : ∀ d, Q d → Qo none (wR L d e)) (x1 : Int32) (x2 : Int32) (d : vmD) (h : MO_outPort x1 x2 d Q) : vmWp 366 0 [(0, .ref 42), (1, .int x1), (2, .int x2)] [] (wR L d e) Qo := by
  unfold MO_outPort at h
  refine st_go 8 (pc' := 14) (lo' := [(0, .ref 42), (1, .int x1), (2, .int x2)]) (st' := [.int (x2 &&& 255), .int (x1 &&& 255), .ref 69]) rfl ?_
  obtain ⟨hj_1, h⟩ := h
  refine st_iastR (o := 69) rfl rfl hj_1 rfl (fun d_2 hy_d_2 => ?_)
  have h := h d_2 hy_d_2
  refine st_go 5 (pc' := 22) (lo' := [(0, .ref 42), (1, .int x1), (2, .int x2)]) (st' := [.long ((gG d_2 42 86) + 1), .ref 42]) rfl ?_
  refine st_putJR (o := 42) (f := 86) rfl rfl rfl rfl rfl (fun d_3 hy_d_3 => ?_)
  have h := h d_3 hy_d_3
  exact st_retV rfl rfl (hQ _ h)
set_option maxRecDepth 100000 in
def MO_doBlock_504 (x1 : Int32) (x3 : Int32) (x6 : Int32) (d : vmD) (Q : vmD → Prop) : Prop :=
  if (5 : Int32) < x1 then
  (if x6 = 0 then
  (Q d)
  else
  (bnd (sF d 42 76 x3) fun d_30 =>
  Q d_30))
  else
  (Q d)
set_option maxRecDepth 100000 in
set_option maxHeartbeats 4000000 in
theorem tMO_doBlock_504 {L : Nat} {e : vmD} {Qo : Option Value → vmW → Prop} {Q : vmD → Prop} (hQ : ∀ d, Q d → Qo none (wR L d e)) (x1 : Int32) (x3 : Int32) (x6 : Int32) (d : vmD) (h : MO_doBlock_504 x1 x3 x6 d Q) : vmWp 400 504 [(0, .ref 42), (1, .int x1), (3, .int x3), (6, .int x6)] [] (wR L d e) Qo := by
  unfold MO_doBlock_504 at h
  refine st_go 2 (pc' := 506) (lo' := [(0, .ref 42), (1, .int x1), (3, .int x3), (6, .int x6)]) (st' := [.int 5, .int x1]) rfl ?_
  by_cases hc_28 : (5 : Int32) < x1
  · have h := Eq.mp (if_pos hc_28) h
    refine st_icmp (t := 509) (b := false) rfl (decide_eq_false (Int32.not_le.mpr hc_28)) rfl ?_
    refine st_go 1 (pc' := 511) (lo' := [(0, .ref 42), (1, .int x1), (3, .int x3), (6, .int x6)]) (st' := [.int x6]) rfl ?_
    by_cases hc_29 : x6 = 0
    · have h := Eq.mp (if_pos hc_29) h
      refine st_if (t := 519) (b := true) rfl (decide_eq_true hc_29) rfl ?_
      exact st_retV rfl rfl (hQ _ h)
    · have h := Eq.mp (if_neg hc_29) h
      refine st_if (t := 514) (b := false) rfl (decide_eq_false hc_29) rfl ?_
      refine st_go 2 (pc' := 516) (lo' := [(0, .ref 42), (1, .int x1), (3, .int x3), (6, .int x6)]) (st' := [.int x3, .ref 42]) rfl ?_
      refine st_putIR (o := 42) (f := 76) rfl rfl rfl rfl rfl (fun d_30 hy_d_30 => ?_)
      have h := h d_30 hy_d_30
      exact st_retV rfl rfl (hQ _ h)
  · have h := Eq.mp (if_neg hc_28) h
    refine st_icmp (t := 519) (b := true) rfl (decide_eq_true (Int32.not_lt.mp hc_28)) rfl ?_
    exact st_retV rfl rfl (hQ _ h)
set_option maxRecDepth 100000 in
def MO_doBlock_176 (x1 : Int32) (x3 : Int32) (s0 : Int32) (d : vmD) (Q : vmD → Prop) : Prop :=
  MO_doBlock_504 x1 x3 s0 d Q
set_option maxRecDepth 100000 in
set_option maxHeartbeats 4000000 in
theorem tMO_doBlock_176 {L : Nat} {e : vmD} {Qo : Option Value → vmW → Prop} {Q : vmD → Prop} (hQ : ∀ d, Q d → Qo none (wR L d e)) (x1 : Int32) (x3 : Int32) (s0 : Int32) (d : vmD) (h : MO_doBlock_176 x1 x3 s0 d Q) : vmWp 400 176 [(0, .ref 42), (1, .int x1), (3, .int x3)] [.int s0] (wR L d e) Qo := by
  unfold MO_doBlock_176 at h
  refine st_go 2 (pc' := 504) (lo' := [(6, .int s0), (0, .ref 42), (1, .int x1), (3, .int x3)]) (st' := []) rfl ?_
  refine vmWp.sub (lo' := [(0, .ref 42), (1, .int x1), (3, .int x3), (6, .int s0)]) ⟨rfl, rfl, rfl, rfl, trivial⟩ ?_
  exact tMO_doBlock_504 hQ x1 x3 s0 d h
set_option maxRecDepth 100000 in
def MO_doBlock_148 (x1 : Int32) (x3 : Int32) (x8 : Int32) (s0 : Int32) (s1 : Int32) (s2 : Int32) (d : vmD) (Q : vmD → Prop) : Prop :=
  ixOk s2 8 ∧
  bnd (sA d 65 s2.toNatClampNeg (((s1 ||| s0) ||| (x8 &&& 8)) ||| ((x8 &&& 2) <<< ((4 : Int32) &&& 31)))) fun d_24 =>
  MO_two 0 d_24 fun r_26 d_25 =>
  if r_26 = 0 then
  (MO_doBlock_176 x1 x3 0 d_25 Q)
  else
  (MO_doBlock_176 x1 x3 1 d_25 Q)
set_option maxRecDepth 100000 in
set_option maxHeartbeats 4000000 in
theorem tMO_doBlock_148 {L : Nat} {e : vmD} {Qo : Option Value → vmW → Prop} {Q : vmD → Prop} (hQ : ∀ d, Q d → Qo none (wR L d e)) (x1 : Int32) (x3 : Int32) (x8 : Int32) (s0 : Int32) (s1 : Int32) (s2 : Int32) (d : vmD) (h : MO_doBlock_148 x1 x3 x8 s0 s1 s2 d Q) : vmWp 400 148 [(0, .ref 42), (1, .int x1), (3, .int x3), (8, .int x8)] [.int s0, .int s1, .int s2, .ref 65] (wR L d e) Qo := by
  unfold MO_doBlock_148 at h
  refine st_go 11 (pc' := 162) (lo' := [(0, .ref 42), (1, .int x1), (3, .int x3), (8, .int x8)]) (st' := [.int (((s1 ||| s0) ||| (x8 &&& 8)) ||| ((x8 &&& 2) <<< ((4 : Int32) &&& 31))), .int s2, .ref 65]) rfl ?_
  obtain ⟨hj_23, h⟩ := h
  refine st_iastR (o := 65) rfl rfl hj_23 rfl (fun d_24 hy_d_24 => ?_)
  have h := h d_24 hy_d_24
  refine st_go 2 (pc' := 165) (lo' := [(0, .ref 42), (1, .int x1), (3, .int x3), (8, .int x8)]) (st' := [.int 0, .ref 42]) rfl ?_
  refine st_calli (k' := 354) (as := [.ref 42, .int 0]) (rest := []) (lo' := [(0, .ref 42), (1, .int 0)]) (wf := fun d => wR L d e) rfl rfl rfl ?_
  refine tMO_two (fun r_26 d_25 h => ⟨r_26, d_25, rfl, rfl, ?_⟩) 0 d_24 h
  by_cases hc_27 : r_26 = 0
  · have h := Eq.mp (if_pos hc_27) h
    refine st_if (t := 175) (b := true) rfl (decide_eq_true hc_27) rfl ?_
    refine st_go 1 (pc' := 176) (lo' := [(0, .ref 42), (1, .int x1), (3, .int x3), (8, .int x8)]) (st' := [.int 0]) rfl ?_
    refine vmWp.sub (lo' := [(0, .ref 42), (1, .int x1), (3, .int x3)]) ⟨rfl, rfl, rfl, trivial⟩ ?_
    exact tMO_doBlock_176 hQ x1 x3 0 d_25 h
  · have h := Eq.mp (if_neg hc_27) h
    refine st_if (t := 171) (b := false) rfl (decide_eq_false hc_27) rfl ?_
    refine st_go 2 (pc' := 176) (lo' := [(0, .ref 42), (1, .int x1), (3, .int x3), (8, .int x8)]) (st' := [.int 1]) rfl ?_
    refine vmWp.sub (lo' := [(0, .ref 42), (1, .int x1), (3, .int x3)]) ⟨rfl, rfl, rfl, trivial⟩ ?_
    exact tMO_doBlock_176 hQ x1 x3 1 d_25 h
set_option maxRecDepth 100000 in
def MO_doBlock_330 (x1 : Int32) (x3 : Int32) (s0 : Int32) (d : vmD) (Q : vmD → Prop) : Prop :=
  MO_doBlock_504 x1 x3 s0 d Q
set_option maxRecDepth 100000 in
set_option maxHeartbeats 4000000 in
theorem tMO_doBlock_330 {L : Nat} {e : vmD} {Qo : Option Value → vmW → Prop} {Q : vmD → Prop} (hQ : ∀ d, Q d → Qo none (wR L d e)) (x1 : Int32) (x3 : Int32) (s0 : Int32) (d : vmD) (h : MO_doBlock_330 x1 x3 s0 d Q) : vmWp 400 330 [(0, .ref 42), (1, .int x1), (3, .int x3)] [.int s0] (wR L d e) Qo := by
  unfold MO_doBlock_330 at h
  refine st_go 2 (pc' := 504) (lo' := [(6, .int s0), (0, .ref 42), (1, .int x1), (3, .int x3)]) (st' := []) rfl ?_
  refine vmWp.sub (lo' := [(0, .ref 42), (1, .int x1), (3, .int x3), (6, .int s0)]) ⟨rfl, rfl, rfl, rfl, trivial⟩ ?_
  exact tMO_doBlock_504 hQ x1 x3 s0 d h
set_option maxRecDepth 100000 in
def MO_doBlock_329 (x1 : Int32) (x3 : Int32) (d : vmD) (Q : vmD → Prop) : Prop :=
  MO_doBlock_330 x1 x3 0 d Q
set_option maxRecDepth 100000 in
set_option maxHeartbeats 4000000 in
theorem tMO_doBlock_329 {L : Nat} {e : vmD} {Qo : Option Value → vmW → Prop} {Q : vmD → Prop} (hQ : ∀ d, Q d → Qo none (wR L d e)) (x1 : Int32) (x3 : Int32) (d : vmD) (h : MO_doBlock_329 x1 x3 d Q) : vmWp 400 329 [(0, .ref 42), (1, .int x1), (3, .int x3)] [] (wR L d e) Qo := by
  unfold MO_doBlock_329 at h
  refine st_go 1 (pc' := 330) (lo' := [(0, .ref 42), (1, .int x1), (3, .int x3)]) (st' := [.int 0]) rfl ?_
  refine vmWp.sub (lo' := [(0, .ref 42), (1, .int x1), (3, .int x3)]) ⟨rfl, rfl, rfl, trivial⟩ ?_
  exact tMO_doBlock_330 hQ x1 x3 0 d h
set_option maxRecDepth 100000 in
def MO_doBlock_289 (x1 : Int32) (x3 : Int32) (x12 : Int32) (s0 : Int32) (s1 : Int32) (s2 : Int32) (d : vmD) (Q : vmD → Prop) : Prop :=
  ixOk s2 8 ∧
  bnd (sA d 65 s2.toNatClampNeg (((s1 ||| s0) ||| (x12 &&& 8)) ||| ((x12 &&& 2) <<< ((4 : Int32) &&& 31)))) fun d_50 =>
  MO_two 0 d_50 fun r_52 d_51 =>
  if r_52 = 0 then
  (MO_doBlock_329 x1 x3 d_51 Q)
  else
  (bnd (gA d_51 65 6) fun y_54 =>
  if (y_54 &&& 64) = 0 then
  (MO_doBlock_330 x1 x3 1 d_51 Q)
  else
  (MO_doBlock_329 x1 x3 d_51 Q))
set_option maxRecDepth 100000 in
set_option maxHeartbeats 4000000 in
theorem tMO_doBlock_289 {L : Nat} {e : vmD} {Qo : Option Value → vmW → Prop} {Q : vmD → Prop} (hQ : ∀ d, Q d → Qo none (wR L d e)) (x1 : Int32) (x3 : Int32) (x12 : Int32) (s0 : Int32) (s1 : Int32) (s2 : Int32) (d : vmD) (h : MO_doBlock_289 x1 x3 x12 s0 s1 s2 d Q) : vmWp 400 289 [(0, .ref 42), (1, .int x1), (3, .int x3), (12, .int x12)] [.int s0, .int s1, .int s2, .ref 65] (wR L d e) Qo := by
  unfold MO_doBlock_289 at h
  refine st_go 11 (pc' := 303) (lo' := [(0, .ref 42), (1, .int x1), (3, .int x3), (12, .int x12)]) (st' := [.int (((s1 ||| s0) ||| (x12 &&& 8)) ||| ((x12 &&& 2) <<< ((4 : Int32) &&& 31))), .int s2, .ref 65]) rfl ?_
  obtain ⟨hj_49, h⟩ := h
  refine st_iastR (o := 65) rfl rfl hj_49 rfl (fun d_50 hy_d_50 => ?_)
  have h := h d_50 hy_d_50
  refine st_go 2 (pc' := 306) (lo' := [(0, .ref 42), (1, .int x1), (3, .int x3), (12, .int x12)]) (st' := [.int 0, .ref 42]) rfl ?_
  refine st_calli (k' := 354) (as := [.ref 42, .int 0]) (rest := []) (lo' := [(0, .ref 42), (1, .int 0)]) (wf := fun d => wR L d e) rfl rfl rfl ?_
  refine tMO_two (fun r_52 d_51 h => ⟨r_52, d_51, rfl, rfl, ?_⟩) 0 d_50 h
  by_cases hc_53 : r_52 = 0
  · have h := Eq.mp (if_pos hc_53) h
    refine st_if (t := 329) (b := true) rfl (decide_eq_true hc_53) rfl ?_
    refine vmWp.sub (lo' := [(0, .ref 42), (1, .int x1), (3, .int x3)]) ⟨rfl, rfl, rfl, trivial⟩ ?_
    exact tMO_doBlock_329 hQ x1 x3 d_51 h
  · have h := Eq.mp (if_neg hc_53) h
    refine st_if (t := 312) (b := false) rfl (decide_eq_false hc_53) rfl ?_
    refine st_go 3 (pc' := 318) (lo' := [(0, .ref 42), (1, .int x1), (3, .int x3), (12, .int x12)]) (st' := [.int 6, .ref 65]) rfl ?_
    refine st_ialdR (o := 65) rfl rfl (show ixOk 6 8 by decide) rfl (fun y_54 hy_y_54 => ?_)
    have h := h y_54 hy_y_54
    refine st_go 2 (pc' := 322) (lo' := [(0, .ref 42), (1, .int x1), (3, .int x3), (12, .int x12)]) (st' := [.int (y_54 &&& 64)]) rfl ?_
    by_cases hc_55 : (y_54 &&& 64) = 0
    · have h := Eq.mp (if_pos hc_55) h
      refine st_if (t := 325) (b := false) rfl (decide_eq_false (fun z => z hc_55)) rfl ?_
      refine st_go 2 (pc' := 330) (lo' := [(0, .ref 42), (1, .int x1), (3, .int x3), (12, .int x12)]) (st' := [.int 1]) rfl ?_
      refine vmWp.sub (lo' := [(0, .ref 42), (1, .int x1), (3, .int x3)]) ⟨rfl, rfl, rfl, trivial⟩ ?_
      exact tMO_doBlock_330 hQ x1 x3 1 d_51 h
    · have h := Eq.mp (if_neg hc_55) h
      refine st_if (t := 329) (b := true) rfl (decide_eq_true hc_55) rfl ?_
      refine vmWp.sub (lo' := [(0, .ref 42), (1, .int x1), (3, .int x3)]) ⟨rfl, rfl, rfl, trivial⟩ ?_
      exact tMO_doBlock_329 hQ x1 x3 d_51 h
set_option maxRecDepth 100000 in
def MO_doBlock_420 (x1 : Int32) (x3 : Int32) (s0 : Int32) (d : vmD) (Q : vmD → Prop) : Prop :=
  MO_doBlock_504 x1 x3 s0 d Q
set_option maxRecDepth 100000 in
set_option maxHeartbeats 4000000 in
theorem tMO_doBlock_420 {L : Nat} {e : vmD} {Qo : Option Value → vmW → Prop} {Q : vmD → Prop} (hQ : ∀ d, Q d → Qo none (wR L d e)) (x1 : Int32) (x3 : Int32) (s0 : Int32) (d : vmD) (h : MO_doBlock_420 x1 x3 s0 d Q) : vmWp 400 420 [(0, .ref 42), (1, .int x1), (3, .int x3)] [.int s0] (wR L d e) Qo := by
  unfold MO_doBlock_420 at h
  refine st_go 2 (pc' := 504) (lo' := [(6, .int s0), (0, .ref 42), (1, .int x1), (3, .int x3)]) (st' := []) rfl ?_
  refine vmWp.sub (lo' := [(0, .ref 42), (1, .int x1), (3, .int x3), (6, .int s0)]) ⟨rfl, rfl, rfl, rfl, trivial⟩ ?_
  exact tMO_doBlock_504 hQ x1 x3 s0 d h
set_option maxRecDepth 100000 in
def MO_doBlock_502 (x1 : Int32) (x3 : Int32) (s0 : Int32) (d : vmD) (Q : vmD → Prop) : Prop :=
  MO_doBlock_504 x1 x3 s0 d Q
set_option maxRecDepth 100000 in
set_option maxHeartbeats 4000000 in
theorem tMO_doBlock_502 {L : Nat} {e : vmD} {Qo : Option Value → vmW → Prop} {Q : vmD → Prop} (hQ : ∀ d, Q d → Qo none (wR L d e)) (x1 : Int32) (x3 : Int32) (s0 : Int32) (d : vmD) (h : MO_doBlock_502 x1 x3 s0 d Q) : vmWp 400 502 [(0, .ref 42), (1, .int x1), (3, .int x3)] [.int s0] (wR L d e) Qo := by
  unfold MO_doBlock_502 at h
  refine st_go 1 (pc' := 504) (lo' := [(6, .int s0), (0, .ref 42), (1, .int x1), (3, .int x3)]) (st' := []) rfl ?_
  refine vmWp.sub (lo' := [(0, .ref 42), (1, .int x1), (3, .int x3), (6, .int s0)]) ⟨rfl, rfl, rfl, rfl, trivial⟩ ?_
  exact tMO_doBlock_504 hQ x1 x3 s0 d h
set_option maxRecDepth 100000 in
def MO_doBlock_11 (x1 : Int32) (x2 : Int32) (x3 : Int32) (s0 : Int32) (d : vmD) (Q : vmD → Prop) : Prop :=
  MO_two 4 d fun r_3 d_2 =>
  if x2 = 0 then
  (MO_peek r_3 d_2 fun r_6 d_5 =>
  MO_two 2 d_5 fun r_8 d_7 =>
  MO_store r_8 r_6 d_7 fun d_9 =>
  MO_setTwo 4 (r_3 + s0) d_9 fun d_10 =>
  MO_two 2 d_10 fun r_12 d_11 =>
  MO_setTwo 2 (r_12 + s0) d_11 fun d_13 =>
  MO_two 0 d_13 fun r_15 d_14 =>
  MO_setTwo 0 (r_15 - 1) d_14 fun d_16 =>
  bnd (gA d_16 65 7) fun y_17 =>
  bnd (r_6 + y_17) fun x8_18 =>
  bnd (gA d_16 65 6) fun y_19 =>
  MO_two 0 d_16 fun r_21 d_20 =>
  if r_21 = 0 then
  (MO_doBlock_148 x1 x3 x8_18 0 (y_19 &&& 193) 6 d_20 Q)
  else
  (MO_doBlock_148 x1 x3 x8_18 4 (y_19 &&& 193) 6 d_20 Q))
  else
  if x2 = 1 then
  (MO_peek r_3 d_2 fun r_33 d_32 =>
  bnd (gA d_32 65 6) fun y_34 =>
  bnd (y_34 &&& 1) fun x10_35 =>
  bnd (gA d_32 65 7) fun y_36 =>
  MO_difference y_36 r_33 0 d_32 fun r_38 d_37 =>
  MO_setTwo 4 (r_3 + s0) d_37 fun d_39 =>
  MO_two 0 d_39 fun r_41 d_40 =>
  MO_setTwo 0 (r_41 - 1) d_40 fun d_42 =>
  bnd (gA d_42 65 6) fun y_43 =>
  bnd (r_38 - ((y_43 >>> ((4 : Int32) &&& 31)) &&& 1)) fun x12_44 =>
  bnd (gA d_42 65 6) fun y_45 =>
  MO_two 0 d_42 fun r_47 d_46 =>
  if r_47 = 0 then
  (MO_doBlock_289 x1 x3 x12_44 0 (((y_45 &&& 208) ||| 2) ||| x10_35) 6 d_46 Q)
  else
  (MO_doBlock_289 x1 x3 x12_44 4 (((y_45 &&& 208) ||| 2) ||| x10_35) 6 d_46 Q))
  else
  if x2 = 2 then
  (bnd (gA d_2 65 1) fun y_57 =>
  ixOk y_57 256 ∧
  bnd (gA d_2 68 y_57.toNatClampNeg) fun y_59 =>
  MO_store r_3 y_59 d_2 fun d_60 =>
  MO_setTwo 4 (r_3 + s0) d_60 fun d_61 =>
  bnd (gA d_61 65 0) fun y_62 =>
  bnd (sA d_61 65 0 ((y_62 - 1) &&& 255)) fun d_63 =>
  bnd (gA d_63 65 1) fun y_64 =>
  MO_portFlags y_59 (y_59 + ((y_64 + s0) &&& 255)) d_63 fun d_65 =>
  bnd (gA d_65 65 0) fun y_66 =>
  if y_66 = 0 then
  (MO_doBlock_420 x1 x3 0 d_65 Q)
  else
  (MO_doBlock_420 x1 x3 1 d_65 Q))
  else
  (MO_peek r_3 d_2 fun r_69 d_68 =>
  bnd (gA d_68 65 0) fun y_70 =>
  bnd (sA d_68 65 0 ((y_70 - 1) &&& 255)) fun d_71 =>
  bnd (gA d_71 65 1) fun y_72 =>
  MO_outPort y_72 r_69 d_71 fun d_73 =>
  MO_setTwo 4 (r_3 + s0) d_73 fun d_74 =>
  bnd (gA d_74 65 5) fun y_75 =>
  MO_portFlags r_69 (r_69 + y_75) d_74 fun d_76 =>
  bnd (gA d_76 65 0) fun y_77 =>
  if y_77 = 0 then
  (MO_doBlock_502 x1 x3 0 d_76 Q)
  else
  (MO_doBlock_502 x1 x3 1 d_76 Q))
set_option maxRecDepth 100000 in
set_option maxHeartbeats 4000000 in
theorem tMO_doBlock_11 {L : Nat} {e : vmD} {Qo : Option Value → vmW → Prop} {Q : vmD → Prop} (hQ : ∀ d, Q d → Qo none (wR L d e)) (x1 : Int32) (x2 : Int32) (x3 : Int32) (s0 : Int32) (d : vmD) (h : MO_doBlock_11 x1 x2 x3 s0 d Q) : vmWp 400 11 [(0, .ref 42), (1, .int x1), (2, .int x2), (3, .int x3)] [.int s0] (wR L d e) Qo := by
  unfold MO_doBlock_11 at h
  refine st_go 3 (pc' := 15) (lo' := [(4, .int s0), (0, .ref 42), (1, .int x1), (2, .int x2), (3, .int x3)]) (st' := [.int 4, .ref 42]) rfl ?_
  refine st_calli (k' := 354) (as := [.ref 42, .int 4]) (rest := []) (lo' := [(0, .ref 42), (1, .int 4)]) (wf := fun d => wR L d e) rfl rfl rfl ?_
  refine tMO_two (fun r_3 d_2 h => ⟨r_3, d_2, rfl, rfl, ?_⟩) 4 d h
  refine st_go 4 (pc' := 24) (lo' := [(6, .int 0), (5, .int r_3), (4, .int s0), (0, .ref 42), (1, .int x1), (2, .int x2), (3, .int x3)]) (st' := [.int x2]) rfl ?_
  by_cases hc_4 : x2 = 0
  · have h := Eq.mp (if_pos hc_4) h
    refine st_tab (t := 52) rfl (by rw [hc_4]; rfl) ?_
    refine st_go 2 (pc' := 55) (lo' := [(6, .int 0), (5, .int r_3), (4, .int s0), (0, .ref 42), (1, .int x1), (2, .int x2), (3, .int x3)]) (st' := [.int r_3, .ref 42]) rfl ?_
    refine st_calli (k' := 320) (as := [.ref 42, .int r_3]) (rest := []) (lo' := [(0, .ref 42), (1, .int r_3)]) (wf := fun d => wR L d e) rfl rfl rfl ?_
    refine tMO_peek (fun r_6 d_5 h => ⟨r_6, d_5, rfl, rfl, ?_⟩) r_3 d_2 h
    refine st_go 4 (pc' := 63) (lo' := [(7, .int r_6), (6, .int 0), (5, .int r_3), (4, .int s0), (0, .ref 42), (1, .int x1), (2, .int x2), (3, .int x3)]) (st' := [.int 2, .ref 42, .ref 42]) rfl ?_
    refine st_calli (k' := 354) (as := [.ref 42, .int 2]) (rest := [.ref 42]) (lo' := [(0, .ref 42), (1, .int 2)]) (wf := fun d => wR L d e) rfl rfl rfl ?_
    refine tMO_two (fun r_8 d_7 h => ⟨r_8, d_7, rfl, rfl, ?_⟩) 2 d_5 h
    refine st_go 1 (pc' := 68) (lo' := [(7, .int r_6), (6, .int 0), (5, .int r_3), (4, .int s0), (0, .ref 42), (1, .int x1), (2, .int x2), (3, .int x3)]) (st' := [.int r_6, .int r_8, .ref 42]) rfl ?_
    refine st_callv (k' := 363) (as := [.ref 42, .int r_8, .int r_6]) (rest := []) (lo' := [(0, .ref 42), (1, .int r_8), (2, .int r_6)]) (wf := fun d => wR L d e) rfl rfl rfl ?_
    refine tMO_store (fun d_9 h => ⟨d_9, rfl, rfl, ?_⟩) r_8 r_6 d_7 h
    refine st_go 5 (pc' := 78) (lo' := [(7, .int r_6), (6, .int 0), (5, .int r_3), (4, .int s0), (0, .ref 42), (1, .int x1), (2, .int x2), (3, .int x3)]) (st' := [.int (r_3 + s0), .int 4, .ref 42]) rfl ?_
    refine st_callv (k' := 355) (as := [.ref 42, .int 4, .int (r_3 + s0)]) (rest := []) (lo' := [(0, .ref 42), (1, .int 4), (2, .int (r_3 + s0))]) (wf := fun d => wR L d e) rfl rfl rfl ?_
    refine tMO_setTwo (fun d_10 h => ⟨d_10, rfl, rfl, ?_⟩) 4 (r_3 + s0) d_9 h
    refine st_go 4 (pc' := 85) (lo' := [(7, .int r_6), (6, .int 0), (5, .int r_3), (4, .int s0), (0, .ref 42), (1, .int x1), (2, .int x2), (3, .int x3)]) (st' := [.int 2, .ref 42, .int 2, .ref 42]) rfl ?_
    refine st_calli (k' := 354) (as := [.ref 42, .int 2]) (rest := [.int 2, .ref 42]) (lo' := [(0, .ref 42), (1, .int 2)]) (wf := fun d => wR L d e) rfl rfl rfl ?_
    refine tMO_two (fun r_12 d_11 h => ⟨r_12, d_11, rfl, rfl, ?_⟩) 2 d_10 h
    refine st_go 2 (pc' := 91) (lo' := [(7, .int r_6), (6, .int 0), (5, .int r_3), (4, .int s0), (0, .ref 42), (1, .int x1), (2, .int x2), (3, .int x3)]) (st' := [.int (r_12 + s0), .int 2, .ref 42]) rfl ?_
    refine st_callv (k' := 355) (as := [.ref 42, .int 2, .int (r_12 + s0)]) (rest := []) (lo' := [(0, .ref 42), (1, .int 2), (2, .int (r_12 + s0))]) (wf := fun d => wR L d e) rfl rfl rfl ?_
    refine tMO_setTwo (fun d_13 h => ⟨d_13, rfl, rfl, ?_⟩) 2 (r_12 + s0) d_11 h
    refine st_go 4 (pc' := 98) (lo' := [(7, .int r_6), (6, .int 0), (5, .int r_3), (4, .int s0), (0, .ref 42), (1, .int x1), (2, .int x2), (3, .int x3)]) (st' := [.int 0, .ref 42, .int 0, .ref 42]) rfl ?_
    refine st_calli (k' := 354) (as := [.ref 42, .int 0]) (rest := [.int 0, .ref 42]) (lo' := [(0, .ref 42), (1, .int 0)]) (wf := fun d => wR L d e) rfl rfl rfl ?_
    refine tMO_two (fun r_15 d_14 h => ⟨r_15, d_14, rfl, rfl, ?_⟩) 0 d_13 h
    refine st_go 2 (pc' := 103) (lo' := [(7, .int r_6), (6, .int 0), (5, .int r_3), (4, .int s0), (0, .ref 42), (1, .int x1), (2, .int x2), (3, .int x3)]) (st' := [.int (r_15 - 1), .int 0, .ref 42]) rfl ?_
    refine st_callv (k' := 355) (as := [.ref 42, .int 0, .int (r_15 - 1)]) (rest := []) (lo' := [(0, .ref 42), (1, .int 0), (2, .int (r_15 - 1))]) (wf := fun d => wR L d e) rfl rfl rfl ?_
    refine tMO_setTwo (fun d_16 h => ⟨d_16, rfl, rfl, ?_⟩) 0 (r_15 - 1) d_14 h
    refine st_go 4 (pc' := 114) (lo' := [(7, .int r_6), (6, .int 0), (5, .int r_3), (4, .int s0), (0, .ref 42), (1, .int x1), (2, .int x2), (3, .int x3)]) (st' := [.int 7, .ref 65, .int r_6]) rfl ?_
    refine st_ialdR (o := 65) rfl rfl (show ixOk 7 8 by decide) rfl (fun y_17 hy_y_17 => ?_)
    have h := h y_17 hy_y_17
    refine st_go 2 (pc' := 118) (lo' := [(8, .int (r_6 + y_17)), (7, .int r_6), (6, .int 0), (5, .int r_3), (4, .int s0), (0, .ref 42), (1, .int x1), (2, .int x2), (3, .int x3)]) (st' := []) rfl ?_
    refine st_locI (fun x8_18 hy_x8_18 => ?_)
    have h := h x8_18 hy_x8_18
    refine st_go 6 (pc' := 130) (lo' := [(8, .int x8_18), (7, .int r_6), (6, .int 0), (5, .int r_3), (4, .int s0), (0, .ref 42), (1, .int x1), (2, .int x2), (3, .int x3)]) (st' := [.int 6, .ref 65, .int 6, .ref 65]) rfl ?_
    refine st_ialdR (o := 65) rfl rfl (show ixOk 6 8 by decide) rfl (fun y_19 hy_y_19 => ?_)
    have h := h y_19 hy_y_19
    refine st_go 4 (pc' := 137) (lo' := [(8, .int x8_18), (7, .int r_6), (6, .int 0), (5, .int r_3), (4, .int s0), (0, .ref 42), (1, .int x1), (2, .int x2), (3, .int x3)]) (st' := [.int 0, .ref 42, .int (y_19 &&& 193), .int 6, .ref 65]) rfl ?_
    refine st_calli (k' := 354) (as := [.ref 42, .int 0]) (rest := [.int (y_19 &&& 193), .int 6, .ref 65]) (lo' := [(0, .ref 42), (1, .int 0)]) (wf := fun d => wR L d e) rfl rfl rfl ?_
    refine tMO_two (fun r_21 d_20 h => ⟨r_21, d_20, rfl, rfl, ?_⟩) 0 d_16 h
    by_cases hc_22 : r_21 = 0
    · have h := Eq.mp (if_pos hc_22) h
      refine st_if (t := 147) (b := true) rfl (decide_eq_true hc_22) rfl ?_
      refine st_go 1 (pc' := 148) (lo' := [(8, .int x8_18), (7, .int r_6), (6, .int 0), (5, .int r_3), (4, .int s0), (0, .ref 42), (1, .int x1), (2, .int x2), (3, .int x3)]) (st' := [.int 0, .int (y_19 &&& 193), .int 6, .ref 65]) rfl ?_
      refine vmWp.sub (lo' := [(0, .ref 42), (1, .int x1), (3, .int x3), (8, .int x8_18)]) ⟨rfl, rfl, rfl, rfl, trivial⟩ ?_
      exact tMO_doBlock_148 hQ x1 x3 x8_18 0 (y_19 &&& 193) 6 d_20 h
    · have h := Eq.mp (if_neg hc_22) h
      refine st_if (t := 143) (b := false) rfl (decide_eq_false hc_22) rfl ?_
      refine st_go 2 (pc' := 148) (lo' := [(8, .int x8_18), (7, .int r_6), (6, .int 0), (5, .int r_3), (4, .int s0), (0, .ref 42), (1, .int x1), (2, .int x2), (3, .int x3)]) (st' := [.int 4, .int (y_19 &&& 193), .int 6, .ref 65]) rfl ?_
      refine vmWp.sub (lo' := [(0, .ref 42), (1, .int x1), (3, .int x3), (8, .int x8_18)]) ⟨rfl, rfl, rfl, rfl, trivial⟩ ?_
      exact tMO_doBlock_148 hQ x1 x3 x8_18 4 (y_19 &&& 193) 6 d_20 h
  · have h := Eq.mp (if_neg hc_4) h
    by_cases hc_31 : x2 = 1
    · have h := Eq.mp (if_pos hc_31) h
      refine st_tab (t := 181) rfl (by rw [hc_31]; rfl) ?_
      refine st_go 2 (pc' := 184) (lo' := [(6, .int 0), (5, .int r_3), (4, .int s0), (0, .ref 42), (1, .int x1), (2, .int x2), (3, .int x3)]) (st' := [.int r_3, .ref 42]) rfl ?_
      refine st_calli (k' := 320) (as := [.ref 42, .int r_3]) (rest := []) (lo' := [(0, .ref 42), (1, .int r_3)]) (wf := fun d => wR L d e) rfl rfl rfl ?_
      refine tMO_peek (fun r_33 d_32 h => ⟨r_33, d_32, rfl, rfl, ?_⟩) r_3 d_2 h
      refine st_go 4 (pc' := 195) (lo' := [(9, .int r_33), (6, .int 0), (5, .int r_3), (4, .int s0), (0, .ref 42), (1, .int x1), (2, .int x2), (3, .int x3)]) (st' := [.int 6, .ref 65]) rfl ?_
      refine st_ialdR (o := 65) rfl rfl (show ixOk 6 8 by decide) rfl (fun y_34 hy_y_34 => ?_)
      have h := h y_34 hy_y_34
      refine st_go 3 (pc' := 200) (lo' := [(10, .int (y_34 &&& 1)), (9, .int r_33), (6, .int 0), (5, .int r_3), (4, .int s0), (0, .ref 42), (1, .int x1), (2, .int x2), (3, .int x3)]) (st' := []) rfl ?_
      refine st_locI (fun x10_35 hy_x10_35 => ?_)
      have h := h x10_35 hy_x10_35
      refine st_go 4 (pc' := 207) (lo' := [(10, .int x10_35), (9, .int r_33), (6, .int 0), (5, .int r_3), (4, .int s0), (0, .ref 42), (1, .int x1), (2, .int x2), (3, .int x3)]) (st' := [.int 7, .ref 65, .ref 42]) rfl ?_
      refine st_ialdR (o := 65) rfl rfl (show ixOk 7 8 by decide) rfl (fun y_36 hy_y_36 => ?_)
      have h := h y_36 hy_y_36
      refine st_go 2 (pc' := 211) (lo' := [(10, .int x10_35), (9, .int r_33), (6, .int 0), (5, .int r_3), (4, .int s0), (0, .ref 42), (1, .int x1), (2, .int x2), (3, .int x3)]) (st' := [.int 0, .int r_33, .int y_36, .ref 42]) rfl ?_
      refine st_calli (k' := 371) (as := [.ref 42, .int y_36, .int r_33, .int 0]) (rest := []) (lo' := [(0, .ref 42), (1, .int y_36), (2, .int r_33), (3, .int 0)]) (wf := fun d => wR L d e) rfl rfl rfl ?_
      refine tMO_difference (fun r_38 d_37 h => ⟨r_38, d_37, rfl, rfl, ?_⟩) y_36 r_33 0 d_32 h
      refine st_go 6 (pc' := 223) (lo' := [(11, .int r_38), (10, .int x10_35), (9, .int r_33), (6, .int 0), (5, .int r_3), (4, .int s0), (0, .ref 42), (1, .int x1), (2, .int x2), (3, .int x3)]) (st' := [.int (r_3 + s0), .int 4, .ref 42]) rfl ?_
      refine st_callv (k' := 355) (as := [.ref 42, .int 4, .int (r_3 + s0)]) (rest := []) (lo' := [(0, .ref 42), (1, .int 4), (2, .int (r_3 + s0))]) (wf := fun d => wR L d e) rfl rfl rfl ?_
      refine tMO_setTwo (fun d_39 h => ⟨d_39, rfl, rfl, ?_⟩) 4 (r_3 + s0) d_37 h
      refine st_go 4 (pc' := 230) (lo' := [(11, .int r_38), (10, .int x10_35), (9, .int r_33), (6, .int 0), (5, .int r_3), (4, .int s0), (0, .ref 42), (1, .int x1), (2, .int x2), (3, .int x3)]) (st' := [.int 0, .ref 42, .int 0, .ref 42]) rfl ?_
      refine st_calli (k' := 354) (as := [.ref 42, .int 0]) (rest := [.int 0, .ref 42]) (lo' := [(0, .ref 42), (1, .int 0)]) (wf := fun d => wR L d e) rfl rfl rfl ?_
      refine tMO_two (fun r_41 d_40 h => ⟨r_41, d_40, rfl, rfl, ?_⟩) 0 d_39 h
      refine st_go 2 (pc' := 235) (lo' := [(11, .int r_38), (10, .int x10_35), (9, .int r_33), (6, .int 0), (5, .int r_3), (4, .int s0), (0, .ref 42), (1, .int x1), (2, .int x2), (3, .int x3)]) (st' := [.int (r_41 - 1), .int 0, .ref 42]) rfl ?_
      refine st_callv (k' := 355) (as := [.ref 42, .int 0, .int (r_41 - 1)]) (rest := []) (lo' := [(0, .ref 42), (1, .int 0), (2, .int (r_41 - 1))]) (wf := fun d => wR L d e) rfl rfl rfl ?_
      refine tMO_setTwo (fun d_42 h => ⟨d_42, rfl, rfl, ?_⟩) 0 (r_41 - 1) d_40 h
      refine st_go 4 (pc' := 246) (lo' := [(11, .int r_38), (10, .int x10_35), (9, .int r_33), (6, .int 0), (5, .int r_3), (4, .int s0), (0, .ref 42), (1, .int x1), (2, .int x2), (3, .int x3)]) (st' := [.int 6, .ref 65, .int r_38]) rfl ?_
      refine st_ialdR (o := 65) rfl rfl (show ixOk 6 8 by decide) rfl (fun y_43 hy_y_43 => ?_)
      have h := h y_43 hy_y_43
      refine st_go 6 (pc' := 254) (lo' := [(12, .int (r_38 - ((y_43 >>> ((4 : Int32) &&& 31)) &&& 1))), (11, .int r_38), (10, .int x10_35), (9, .int r_33), (6, .int 0), (5, .int r_3), (4, .int s0), (0, .ref 42), (1, .int x1), (2, .int x2), (3, .int x3)]) (st' := []) rfl ?_
      refine st_locI (fun x12_44 hy_x12_44 => ?_)
      have h := h x12_44 hy_x12_44
      refine st_go 6 (pc' := 266) (lo' := [(12, .int x12_44), (11, .int r_38), (10, .int x10_35), (9, .int r_33), (6, .int 0), (5, .int r_3), (4, .int s0), (0, .ref 42), (1, .int x1), (2, .int x2), (3, .int x3)]) (st' := [.int 6, .ref 65, .int 6, .ref 65]) rfl ?_
      refine st_ialdR (o := 65) rfl rfl (show ixOk 6 8 by decide) rfl (fun y_45 hy_y_45 => ?_)
      have h := h y_45 hy_y_45
      refine st_go 8 (pc' := 278) (lo' := [(12, .int x12_44), (11, .int r_38), (10, .int x10_35), (9, .int r_33), (6, .int 0), (5, .int r_3), (4, .int s0), (0, .ref 42), (1, .int x1), (2, .int x2), (3, .int x3)]) (st' := [.int 0, .ref 42, .int (((y_45 &&& 208) ||| 2) ||| x10_35), .int 6, .ref 65]) rfl ?_
      refine st_calli (k' := 354) (as := [.ref 42, .int 0]) (rest := [.int (((y_45 &&& 208) ||| 2) ||| x10_35), .int 6, .ref 65]) (lo' := [(0, .ref 42), (1, .int 0)]) (wf := fun d => wR L d e) rfl rfl rfl ?_
      refine tMO_two (fun r_47 d_46 h => ⟨r_47, d_46, rfl, rfl, ?_⟩) 0 d_42 h
      by_cases hc_48 : r_47 = 0
      · have h := Eq.mp (if_pos hc_48) h
        refine st_if (t := 288) (b := true) rfl (decide_eq_true hc_48) rfl ?_
        refine st_go 1 (pc' := 289) (lo' := [(12, .int x12_44), (11, .int r_38), (10, .int x10_35), (9, .int r_33), (6, .int 0), (5, .int r_3), (4, .int s0), (0, .ref 42), (1, .int x1), (2, .int x2), (3, .int x3)]) (st' := [.int 0, .int (((y_45 &&& 208) ||| 2) ||| x10_35), .int 6, .ref 65]) rfl ?_
        refine vmWp.sub (lo' := [(0, .ref 42), (1, .int x1), (3, .int x3), (12, .int x12_44)]) ⟨rfl, rfl, rfl, rfl, trivial⟩ ?_
        exact tMO_doBlock_289 hQ x1 x3 x12_44 0 (((y_45 &&& 208) ||| 2) ||| x10_35) 6 d_46 h
      · have h := Eq.mp (if_neg hc_48) h
        refine st_if (t := 284) (b := false) rfl (decide_eq_false hc_48) rfl ?_
        refine st_go 2 (pc' := 289) (lo' := [(12, .int x12_44), (11, .int r_38), (10, .int x10_35), (9, .int r_33), (6, .int 0), (5, .int r_3), (4, .int s0), (0, .ref 42), (1, .int x1), (2, .int x2), (3, .int x3)]) (st' := [.int 4, .int (((y_45 &&& 208) ||| 2) ||| x10_35), .int 6, .ref 65]) rfl ?_
        refine vmWp.sub (lo' := [(0, .ref 42), (1, .int x1), (3, .int x3), (12, .int x12_44)]) ⟨rfl, rfl, rfl, rfl, trivial⟩ ?_
        exact tMO_doBlock_289 hQ x1 x3 x12_44 4 (((y_45 &&& 208) ||| 2) ||| x10_35) 6 d_46 h
    · have h := Eq.mp (if_neg hc_31) h
      by_cases hc_56 : x2 = 2
      · have h := Eq.mp (if_pos hc_56) h
        refine st_tab (t := 335) rfl (by rw [hc_56]; rfl) ?_
        refine st_go 5 (pc' := 344) (lo' := [(6, .int 0), (5, .int r_3), (4, .int s0), (0, .ref 42), (1, .int x1), (2, .int x2), (3, .int x3)]) (st' := [.int 1, .ref 65, .ref 68]) rfl ?_
        refine st_ialdR (o := 65) rfl rfl (show ixOk 1 8 by decide) rfl (fun y_57 hy_y_57 => ?_)
        have h := h y_57 hy_y_57
        obtain ⟨hj_58, h⟩ := h
        refine st_ialdR (o := 68) rfl rfl hj_58 rfl (fun y_59 hy_y_59 => ?_)
        have h := h y_59 hy_y_59
        refine st_go 4 (pc' := 353) (lo' := [(13, .int y_59), (6, .int 0), (5, .int r_3), (4, .int s0), (0, .ref 42), (1, .int x1), (2, .int x2), (3, .int x3)]) (st' := [.int y_59, .int r_3, .ref 42]) rfl ?_
        refine st_callv (k' := 363) (as := [.ref 42, .int r_3, .int y_59]) (rest := []) (lo' := [(0, .ref 42), (1, .int r_3), (2, .int y_59)]) (wf := fun d => wR L d e) rfl rfl rfl ?_
        refine tMO_store (fun d_60 h => ⟨d_60, rfl, rfl, ?_⟩) r_3 y_59 d_2 h
        refine st_go 5 (pc' := 363) (lo' := [(13, .int y_59), (6, .int 0), (5, .int r_3), (4, .int s0), (0, .ref 42), (1, .int x1), (2, .int x2), (3, .int x3)]) (st' := [.int (r_3 + s0), .int 4, .ref 42]) rfl ?_
        refine st_callv (k' := 355) (as := [.ref 42, .int 4, .int (r_3 + s0)]) (rest := []) (lo' := [(0, .ref 42), (1, .int 4), (2, .int (r_3 + s0))]) (wf := fun d => wR L d e) rfl rfl rfl ?_
        refine tMO_setTwo (fun d_61 h => ⟨d_61, rfl, rfl, ?_⟩) 4 (r_3 + s0) d_60 h
        refine st_go 6 (pc' := 376) (lo' := [(13, .int y_59), (6, .int 0), (5, .int r_3), (4, .int s0), (0, .ref 42), (1, .int x1), (2, .int x2), (3, .int x3)]) (st' := [.int 0, .ref 65, .int 0, .ref 65]) rfl ?_
        refine st_ialdR (o := 65) rfl rfl (show ixOk 0 8 by decide) rfl (fun y_62 hy_y_62 => ?_)
        have h := h y_62 hy_y_62
        refine st_go 4 (pc' := 383) (lo' := [(13, .int y_59), (6, .int 0), (5, .int r_3), (4, .int s0), (0, .ref 42), (1, .int x1), (2, .int x2), (3, .int x3)]) (st' := [.int ((y_62 - 1) &&& 255), .int 0, .ref 65]) rfl ?_
        refine st_iastR (o := 65) rfl rfl (show ixOk 0 8 by decide) rfl (fun d_63 hy_d_63 => ?_)
        have h := h d_63 hy_d_63
        refine st_go 6 (pc' := 394) (lo' := [(13, .int y_59), (6, .int 0), (5, .int r_3), (4, .int s0), (0, .ref 42), (1, .int x1), (2, .int x2), (3, .int x3)]) (st' := [.int 1, .ref 65, .int y_59, .int y_59, .ref 42]) rfl ?_
        refine st_ialdR (o := 65) rfl rfl (show ixOk 1 8 by decide) rfl (fun y_64 hy_y_64 => ?_)
        have h := h y_64 hy_y_64
        refine st_go 5 (pc' := 403) (lo' := [(13, .int y_59), (6, .int 0), (5, .int r_3), (4, .int s0), (0, .ref 42), (1, .int x1), (2, .int x2), (3, .int x3)]) (st' := [.int (y_59 + ((y_64 + s0) &&& 255)), .int y_59, .ref 42]) rfl ?_
        refine st_callv (k' := 401) (as := [.ref 42, .int y_59, .int (y_59 + ((y_64 + s0) &&& 255))]) (rest := []) (lo' := [(0, .ref 42), (1, .int y_59), (2, .int (y_59 + ((y_64 + s0) &&& 255)))]) (wf := fun d => wR L d e) rfl rfl rfl ?_
        refine tMO_portFlags (fun d_65 h => ⟨d_65, rfl, rfl, ?_⟩) y_59 (y_59 + ((y_64 + s0) &&& 255)) d_63 h
        refine st_go 3 (pc' := 411) (lo' := [(13, .int y_59), (6, .int 0), (5, .int r_3), (4, .int s0), (0, .ref 42), (1, .int x1), (2, .int x2), (3, .int x3)]) (st' := [.int 0, .ref 65]) rfl ?_
        refine st_ialdR (o := 65) rfl rfl (show ixOk 0 8 by decide) rfl (fun y_66 hy_y_66 => ?_)
        have h := h y_66 hy_y_66
        by_cases hc_67 : y_66 = 0
        · have h := Eq.mp (if_pos hc_67) h
          refine st_if (t := 419) (b := true) rfl (decide_eq_true hc_67) rfl ?_
          refine st_go 1 (pc' := 420) (lo' := [(13, .int y_59), (6, .int 0), (5, .int r_3), (4, .int s0), (0, .ref 42), (1, .int x1), (2, .int x2), (3, .int x3)]) (st' := [.int 0]) rfl ?_
          refine vmWp.sub (lo' := [(0, .ref 42), (1, .int x1), (3, .int x3)]) ⟨rfl, rfl, rfl, trivial⟩ ?_
          exact tMO_doBlock_420 hQ x1 x3 0 d_65 h
        · have h := Eq.mp (if_neg hc_67) h
          refine st_if (t := 415) (b := false) rfl (decide_eq_false hc_67) rfl ?_
          refine st_go 2 (pc' := 420) (lo' := [(13, .int y_59), (6, .int 0), (5, .int r_3), (4, .int s0), (0, .ref 42), (1, .int x1), (2, .int x2), (3, .int x3)]) (st' := [.int 1]) rfl ?_
          refine vmWp.sub (lo' := [(0, .ref 42), (1, .int x1), (3, .int x3)]) ⟨rfl, rfl, rfl, trivial⟩ ?_
          exact tMO_doBlock_420 hQ x1 x3 1 d_65 h
      · have h := Eq.mp (if_neg hc_56) h
        refine st_tab (t := 425) rfl (tab_def rfl (by decide) rfl (by
          intro j hj hx
          have hj : j < 3 := hj
          rcases (j = 0 ∨ j = 1 ∨ j = 2 : Prop) |> fun _ => (show j = 0 ∨ j = 1 ∨ j = 2 by omega) with rfl | rfl | rfl <;> first | rfl | exact absurd hx hc_4 | exact absurd hx hc_31 | exact absurd hx hc_56)) ?_
        refine st_go 2 (pc' := 428) (lo' := [(6, .int 0), (5, .int r_3), (4, .int s0), (0, .ref 42), (1, .int x1), (2, .int x2), (3, .int x3)]) (st' := [.int r_3, .ref 42]) rfl ?_
        refine st_calli (k' := 320) (as := [.ref 42, .int r_3]) (rest := []) (lo' := [(0, .ref 42), (1, .int r_3)]) (wf := fun d => wR L d e) rfl rfl rfl ?_
        refine tMO_peek (fun r_69 d_68 h => ⟨r_69, d_68, rfl, rfl, ?_⟩) r_3 d_2 h
        refine st_go 7 (pc' := 443) (lo' := [(14, .int r_69), (6, .int 0), (5, .int r_3), (4, .int s0), (0, .ref 42), (1, .int x1), (2, .int x2), (3, .int x3)]) (st' := [.int 0, .ref 65, .int 0, .ref 65]) rfl ?_
        refine st_ialdR (o := 65) rfl rfl (show ixOk 0 8 by decide) rfl (fun y_70 hy_y_70 => ?_)
        have h := h y_70 hy_y_70
        refine st_go 4 (pc' := 450) (lo' := [(14, .int r_69), (6, .int 0), (5, .int r_3), (4, .int s0), (0, .ref 42), (1, .int x1), (2, .int x2), (3, .int x3)]) (st' := [.int ((y_70 - 1) &&& 255), .int 0, .ref 65]) rfl ?_
        refine st_iastR (o := 65) rfl rfl (show ixOk 0 8 by decide) rfl (fun d_71 hy_d_71 => ?_)
        have h := h d_71 hy_d_71
        refine st_go 4 (pc' := 457) (lo' := [(14, .int r_69), (6, .int 0), (5, .int r_3), (4, .int s0), (0, .ref 42), (1, .int x1), (2, .int x2), (3, .int x3)]) (st' := [.int 1, .ref 65, .ref 42]) rfl ?_
        refine st_ialdR (o := 65) rfl rfl (show ixOk 1 8 by decide) rfl (fun y_72 hy_y_72 => ?_)
        have h := h y_72 hy_y_72
        refine st_go 1 (pc' := 460) (lo' := [(14, .int r_69), (6, .int 0), (5, .int r_3), (4, .int s0), (0, .ref 42), (1, .int x1), (2, .int x2), (3, .int x3)]) (st' := [.int r_69, .int y_72, .ref 42]) rfl ?_
        refine st_callv (k' := 366) (as := [.ref 42, .int y_72, .int r_69]) (rest := []) (lo' := [(0, .ref 42), (1, .int y_72), (2, .int r_69)]) (wf := fun d => wR L d e) rfl rfl rfl ?_
        refine tMO_outPort (fun d_73 h => ⟨d_73, rfl, rfl, ?_⟩) y_72 r_69 d_71 h
        refine st_go 5 (pc' := 470) (lo' := [(14, .int r_69), (6, .int 0), (5, .int r_3), (4, .int s0), (0, .ref 42), (1, .int x1), (2, .int x2), (3, .int x3)]) (st' := [.int (r_3 + s0), .int 4, .ref 42]) rfl ?_
        refine st_callv (k' := 355) (as := [.ref 42, .int 4, .int (r_3 + s0)]) (rest := []) (lo' := [(0, .ref 42), (1, .int 4), (2, .int (r_3 + s0))]) (wf := fun d => wR L d e) rfl rfl rfl ?_
        refine tMO_setTwo (fun d_74 h => ⟨d_74, rfl, rfl, ?_⟩) 4 (r_3 + s0) d_73 h
        refine st_go 6 (pc' := 483) (lo' := [(14, .int r_69), (6, .int 0), (5, .int r_3), (4, .int s0), (0, .ref 42), (1, .int x1), (2, .int x2), (3, .int x3)]) (st' := [.int 5, .ref 65, .int r_69, .int r_69, .ref 42]) rfl ?_
        refine st_ialdR (o := 65) rfl rfl (show ixOk 5 8 by decide) rfl (fun y_75 hy_y_75 => ?_)
        have h := h y_75 hy_y_75
        refine st_go 1 (pc' := 485) (lo' := [(14, .int r_69), (6, .int 0), (5, .int r_3), (4, .int s0), (0, .ref 42), (1, .int x1), (2, .int x2), (3, .int x3)]) (st' := [.int (r_69 + y_75), .int r_69, .ref 42]) rfl ?_
        refine st_callv (k' := 401) (as := [.ref 42, .int r_69, .int (r_69 + y_75)]) (rest := []) (lo' := [(0, .ref 42), (1, .int r_69), (2, .int (r_69 + y_75))]) (wf := fun d => wR L d e) rfl rfl rfl ?_
        refine tMO_portFlags (fun d_76 h => ⟨d_76, rfl, rfl, ?_⟩) r_69 (r_69 + y_75) d_74 h
        refine st_go 3 (pc' := 493) (lo' := [(14, .int r_69), (6, .int 0), (5, .int r_3), (4, .int s0), (0, .ref 42), (1, .int x1), (2, .int x2), (3, .int x3)]) (st' := [.int 0, .ref 65]) rfl ?_
        refine st_ialdR (o := 65) rfl rfl (show ixOk 0 8 by decide) rfl (fun y_77 hy_y_77 => ?_)
        have h := h y_77 hy_y_77
        by_cases hc_78 : y_77 = 0
        · have h := Eq.mp (if_pos hc_78) h
          refine st_if (t := 501) (b := true) rfl (decide_eq_true hc_78) rfl ?_
          refine st_go 1 (pc' := 502) (lo' := [(14, .int r_69), (6, .int 0), (5, .int r_3), (4, .int s0), (0, .ref 42), (1, .int x1), (2, .int x2), (3, .int x3)]) (st' := [.int 0]) rfl ?_
          refine vmWp.sub (lo' := [(0, .ref 42), (1, .int x1), (3, .int x3)]) ⟨rfl, rfl, rfl, trivial⟩ ?_
          exact tMO_doBlock_502 hQ x1 x3 0 d_76 h
        · have h := Eq.mp (if_neg hc_78) h
          refine st_if (t := 497) (b := false) rfl (decide_eq_false hc_78) rfl ?_
          refine st_go 2 (pc' := 502) (lo' := [(14, .int r_69), (6, .int 0), (5, .int r_3), (4, .int s0), (0, .ref 42), (1, .int x1), (2, .int x2), (3, .int x3)]) (st' := [.int 1]) rfl ?_
          refine vmWp.sub (lo' := [(0, .ref 42), (1, .int x1), (3, .int x3)]) ⟨rfl, rfl, rfl, trivial⟩ ?_
          exact tMO_doBlock_502 hQ x1 x3 1 d_76 h
set_option maxRecDepth 100000 in
def MO_doBlock (x1 : Int32) (x2 : Int32) (x3 : Int32) (d : vmD) (Q : vmD → Prop) : Prop :=
  if (x1 &&& 1) = 0 then
  (MO_doBlock_11 x1 x2 x3 1 d Q)
  else
  (MO_doBlock_11 x1 x2 x3 (-1) d Q)
set_option maxRecDepth 100000 in
set_option maxHeartbeats 4000000 in
theorem tMO_doBlock {L : Nat} {e : vmD} {Qo : Option Value → vmW → Prop} {Q : vmD → Prop} (hQ : ∀ d, Q d → Qo none (wR L d e)) (x1 : Int32) (x2 : Int32) (x3 : Int32) (d : vmD) (h : MO_doBlock x1 x2 x3 d Q) : vmWp 400 0 [(0, .ref 42), (1, .int x1), (2, .int x2), (3, .int x3)] [] (wR L d e) Qo := by
  unfold MO_doBlock at h
  refine st_go 3 (pc' := 3) (lo' := [(0, .ref 42), (1, .int x1), (2, .int x2), (3, .int x3)]) (st' := [.int (x1 &&& 1)]) rfl ?_
  by_cases hc_1 : (x1 &&& 1) = 0
  · have h := Eq.mp (if_pos hc_1) h
    refine st_if (t := 6) (b := false) rfl (decide_eq_false (fun z => z hc_1)) rfl ?_
    refine st_go 2 (pc' := 11) (lo' := [(0, .ref 42), (1, .int x1), (2, .int x2), (3, .int x3)]) (st' := [.int 1]) rfl ?_
    refine vmWp.sub (lo' := [(0, .ref 42), (1, .int x1), (2, .int x2), (3, .int x3)]) ⟨rfl, rfl, rfl, rfl, trivial⟩ ?_
    exact tMO_doBlock_11 hQ x1 x2 x3 1 d h
  · have h := Eq.mp (if_neg hc_1) h
    refine st_if (t := 10) (b := true) rfl (decide_eq_true hc_1) rfl ?_
    refine st_go 1 (pc' := 11) (lo' := [(0, .ref 42), (1, .int x1), (2, .int x2), (3, .int x3)]) (st' := [.int (-1)]) rfl ?_
    refine vmWp.sub (lo' := [(0, .ref 42), (1, .int x1), (2, .int x2), (3, .int x3)]) ⟨rfl, rfl, rfl, rfl, trivial⟩ ?_
    exact tMO_doBlock_11 hQ x1 x2 x3 (-1) d h
set_option maxRecDepth 100000 in
def MO_base (d : vmD) (Q : Int32 → vmD → Prop) : Prop :=
  if (gF d 42 60) = 0 then
  (MO_two 4 d fun r_3 d_2 =>
  Q r_3 d_2)
  else
  (ixOk (gF d 42 60) 3 ∧
  bnd (gA d 67 (gF d 42 60).toNatClampNeg) fun y_5 =>
  Q y_5 d)
set_option maxRecDepth 100000 in
set_option maxHeartbeats 4000000 in
theorem tMO_base {L : Nat} {e : vmD} {Qo : Option Value → vmW → Prop} {Q : Int32 → vmD → Prop} (hQ : ∀ r d, Q r d → Qo (some (.int r)) (wR L d e)) (d : vmD) (h : MO_base d Q) : vmWp 375 0 [(0, .ref 42)] [] (wR L d e) Qo := by
  unfold MO_base at h
  refine st_go 2 (pc' := 4) (lo' := [(0, .ref 42)]) (st' := [.int (gF d 42 60)]) rfl ?_
  by_cases hc_1 : (gF d 42 60) = 0
  · have h := Eq.mp (if_pos hc_1) h
    refine st_if (t := 7) (b := false) rfl (decide_eq_false (fun z => z hc_1)) rfl ?_
    refine st_go 2 (pc' := 9) (lo' := [(0, .ref 42)]) (st' := [.int 4, .ref 42]) rfl ?_
    refine st_calli (k' := 354) (as := [.ref 42, .int 4]) (rest := []) (lo' := [(0, .ref 42), (1, .int 4)]) (wf := fun d => wR L d e) rfl rfl rfl ?_
    refine tMO_two (fun r_3 d_2 h => ⟨r_3, d_2, rfl, rfl, ?_⟩) 4 d h
    refine st_go 1 (pc' := 24) (lo' := [(0, .ref 42)]) (st' := [.int r_3]) rfl ?_
    exact st_retI rfl rfl (hQ _ _ h)
  · have h := Eq.mp (if_neg hc_1) h
    refine st_if (t := 15) (b := true) rfl (decide_eq_true hc_1) rfl ?_
    refine st_go 4 (pc' := 23) (lo' := [(0, .ref 42)]) (st' := [.int (gF d 42 60), .ref 67]) rfl ?_
    obtain ⟨hj_4, h⟩ := h
    refine st_ialdR (o := 67) rfl rfl hj_4 rfl (fun y_5 hy_y_5 => ?_)
    have h := h y_5 hy_y_5
    exact st_retI rfl rfl (hQ _ _ h)
set_option maxRecDepth 100000 in
def MO_pairAt (x1 : Int32) (d : vmD) (Q : Int32 → vmD → Prop) : Prop :=
  if x1 = 2 then
  (MO_base d fun r_3 d_2 =>
  Q r_3 d_2)
  else
  (if x1 = 3 then
  (Q (gF d 42 75) d)
  else
  (MO_two ((2 : Int32) * x1) d fun r_6 d_5 =>
  Q r_6 d_5))
set_option maxRecDepth 100000 in
set_option maxHeartbeats 4000000 in
theorem tMO_pairAt {L : Nat} {e : vmD} {Qo : Option Value → vmW → Prop} {Q : Int32 → vmD → Prop} (hQ : ∀ r d, Q r d → Qo (some (.int r)) (wR L d e)) (x1 : Int32) (d : vmD) (h : MO_pairAt x1 d Q) : vmWp 380 0 [(0, .ref 42), (1, .int x1)] [] (wR L d e) Qo := by
  unfold MO_pairAt at h
  refine st_go 2 (pc' := 2) (lo' := [(0, .ref 42), (1, .int x1)]) (st' := [.int 2, .int x1]) rfl ?_
  by_cases hc_1 : x1 = 2
  · have h := Eq.mp (if_pos hc_1) h
    refine st_icmp (t := 5) (b := false) rfl (decide_eq_false (fun z => z hc_1)) rfl ?_
    refine st_go 1 (pc' := 6) (lo' := [(0, .ref 42), (1, .int x1)]) (st' := [.ref 42]) rfl ?_
    refine st_calli (k' := 375) (as := [.ref 42]) (rest := []) (lo' := [(0, .ref 42)]) (wf := fun d => wR L d e) rfl rfl rfl ?_
    refine tMO_base (fun r_3 d_2 h => ⟨r_3, d_2, rfl, rfl, ?_⟩) d h
    refine st_go 1 (pc' := 31) (lo' := [(0, .ref 42), (1, .int x1)]) (st' := [.int r_3]) rfl ?_
    exact st_retI rfl rfl (hQ _ _ h)
  · have h := Eq.mp (if_neg hc_1) h
    refine st_icmp (t := 12) (b := true) rfl (decide_eq_true hc_1) rfl ?_
    refine st_go 2 (pc' := 14) (lo' := [(0, .ref 42), (1, .int x1)]) (st' := [.int 3, .int x1]) rfl ?_
    by_cases hc_4 : x1 = 3
    · have h := Eq.mp (if_pos hc_4) h
      refine st_icmp (t := 17) (b := false) rfl (decide_eq_false (fun z => z hc_4)) rfl ?_
      refine st_go 3 (pc' := 31) (lo' := [(0, .ref 42), (1, .int x1)]) (st' := [.int (gF d 42 75)]) rfl ?_
      exact st_retI rfl rfl (hQ _ _ h)
    · have h := Eq.mp (if_neg hc_4) h
      refine st_icmp (t := 24) (b := true) rfl (decide_eq_true hc_4) rfl ?_
      refine st_go 4 (pc' := 28) (lo' := [(0, .ref 42), (1, .int x1)]) (st' := [.int ((2 : Int32) * x1), .ref 42]) rfl ?_
      refine st_calli (k' := 354) (as := [.ref 42, .int ((2 : Int32) * x1)]) (rest := []) (lo' := [(0, .ref 42), (1, .int ((2 : Int32) * x1))]) (wf := fun d => wR L d e) rfl rfl rfl ?_
      refine tMO_two (fun r_6 d_5 h => ⟨r_6, d_5, rfl, rfl, ?_⟩) ((2 : Int32) * x1) d h
      exact st_retI rfl rfl (hQ _ _ h)
set_option maxRecDepth 100000 in
def MO_wideSum_135 (x5 : Int32) (x6 : Int32) (s0 : Int32) (s1 : Int32) (s2 : Int32) (d : vmD) (Q : vmD → Prop) : Prop :=
  ixOk s2 8 ∧
  bnd (sA d 65 s2.toNatClampNeg ((s1 ||| s0) ||| ((x5 >>> ((16 : Int32) &&& 31)) &&& 1))) fun d_11 =>
  MO_setTwo 4 x6 d_11 fun d_12 =>
  Q d_12
set_option maxRecDepth 100000 in
set_option maxHeartbeats 4000000 in
theorem tMO_wideSum_135 {L : Nat} {e : vmD} {Qo : Option Value → vmW → Prop} {Q : vmD → Prop} (hQ : ∀ d, Q d → Qo none (wR L d e)) (x5 : Int32) (x6 : Int32) (s0 : Int32) (s1 : Int32) (s2 : Int32) (d : vmD) (h : MO_wideSum_135 x5 x6 s0 s1 s2 d Q) : vmWp 398 135 [(0, .ref 42), (5, .int x5), (6, .int x6)] [.int s0, .int s1, .int s2, .ref 65] (wR L d e) Qo := by
  unfold MO_wideSum_135 at h
  refine st_go 7 (pc' := 144) (lo' := [(0, .ref 42), (5, .int x5), (6, .int x6)]) (st' := [.int ((s1 ||| s0) ||| ((x5 >>> ((16 : Int32) &&& 31)) &&& 1)), .int s2, .ref 65]) rfl ?_
  obtain ⟨hj_10, h⟩ := h
  refine st_iastR (o := 65) rfl rfl hj_10 rfl (fun d_11 hy_d_11 => ?_)
  have h := h d_11 hy_d_11
  refine st_go 3 (pc' := 149) (lo' := [(0, .ref 42), (5, .int x5), (6, .int x6)]) (st' := [.int x6, .int 4, .ref 42]) rfl ?_
  refine st_callv (k' := 355) (as := [.ref 42, .int 4, .int x6]) (rest := []) (lo' := [(0, .ref 42), (1, .int 4), (2, .int x6)]) (wf := fun d => wR L d e) rfl rfl rfl ?_
  refine tMO_setTwo (fun d_12 h => ⟨d_12, rfl, rfl, ?_⟩) 4 x6 d_11 h
  exact st_retV rfl rfl (hQ _ h)
set_option maxRecDepth 100000 in
def MO_wideSum_106 (x1 : Int32) (x2 : Int32) (x3 : Int32) (x5 : Int32) (x6 : Int32) (x7 : Int32) (s0 : Int32) (s1 : Int32) (s2 : Int32) (d : vmD) (Q : vmD → Prop) : Prop :=
  if x2 = 0 then
  (MO_wideSum_135 x5 x6 2 (((s1 ||| s0) ||| ((((x3 ^^^ x1) ^^^ x6) >>> ((8 : Int32) &&& 31)) &&& 16)) ||| (x7 >>> ((13 : Int32) &&& 31))) s2 d Q)
  else
  (MO_wideSum_135 x5 x6 0 (((s1 ||| s0) ||| ((((x3 ^^^ x1) ^^^ x6) >>> ((8 : Int32) &&& 31)) &&& 16)) ||| (x7 >>> ((13 : Int32) &&& 31))) s2 d Q)
set_option maxRecDepth 100000 in
set_option maxHeartbeats 4000000 in
theorem tMO_wideSum_106 {L : Nat} {e : vmD} {Qo : Option Value → vmW → Prop} {Q : vmD → Prop} (hQ : ∀ d, Q d → Qo none (wR L d e)) (x1 : Int32) (x2 : Int32) (x3 : Int32) (x5 : Int32) (x6 : Int32) (x7 : Int32) (s0 : Int32) (s1 : Int32) (s2 : Int32) (d : vmD) (h : MO_wideSum_106 x1 x2 x3 x5 x6 x7 s0 s1 s2 d Q) : vmWp 398 106 [(0, .ref 42), (1, .int x1), (2, .int x2), (3, .int x3), (5, .int x5), (6, .int x6), (7, .int x7)] [.int s0, .int s1, .int s2, .ref 65] (wR L d e) Qo := by
  unfold MO_wideSum_106 at h
  refine st_go 16 (pc' := 127) (lo' := [(0, .ref 42), (1, .int x1), (2, .int x2), (3, .int x3), (5, .int x5), (6, .int x6), (7, .int x7)]) (st' := [.int x2, .int (((s1 ||| s0) ||| ((((x3 ^^^ x1) ^^^ x6) >>> ((8 : Int32) &&& 31)) &&& 16)) ||| (x7 >>> ((13 : Int32) &&& 31))), .int s2, .ref 65]) rfl ?_
  by_cases hc_9 : x2 = 0
  · have h := Eq.mp (if_pos hc_9) h
    refine st_if (t := 134) (b := true) rfl (decide_eq_true hc_9) rfl ?_
    refine st_go 1 (pc' := 135) (lo' := [(0, .ref 42), (1, .int x1), (2, .int x2), (3, .int x3), (5, .int x5), (6, .int x6), (7, .int x7)]) (st' := [.int 2, .int (((s1 ||| s0) ||| ((((x3 ^^^ x1) ^^^ x6) >>> ((8 : Int32) &&& 31)) &&& 16)) ||| (x7 >>> ((13 : Int32) &&& 31))), .int s2, .ref 65]) rfl ?_
    refine vmWp.sub (lo' := [(0, .ref 42), (5, .int x5), (6, .int x6)]) ⟨rfl, rfl, rfl, trivial⟩ ?_
    exact tMO_wideSum_135 hQ x5 x6 2 (((s1 ||| s0) ||| ((((x3 ^^^ x1) ^^^ x6) >>> ((8 : Int32) &&& 31)) &&& 16)) ||| (x7 >>> ((13 : Int32) &&& 31))) s2 d h
  · have h := Eq.mp (if_neg hc_9) h
    refine st_if (t := 130) (b := false) rfl (decide_eq_false hc_9) rfl ?_
    refine st_go 2 (pc' := 135) (lo' := [(0, .ref 42), (1, .int x1), (2, .int x2), (3, .int x3), (5, .int x5), (6, .int x6), (7, .int x7)]) (st' := [.int 0, .int (((s1 ||| s0) ||| ((((x3 ^^^ x1) ^^^ x6) >>> ((8 : Int32) &&& 31)) &&& 16)) ||| (x7 >>> ((13 : Int32) &&& 31))), .int s2, .ref 65]) rfl ?_
    refine vmWp.sub (lo' := [(0, .ref 42), (5, .int x5), (6, .int x6)]) ⟨rfl, rfl, rfl, trivial⟩ ?_
    exact tMO_wideSum_135 hQ x5 x6 0 (((s1 ||| s0) ||| ((((x3 ^^^ x1) ^^^ x6) >>> ((8 : Int32) &&& 31)) &&& 16)) ||| (x7 >>> ((13 : Int32) &&& 31))) s2 d h
set_option maxRecDepth 100000 in
def MO_wideSum_78 (x1 : Int32) (x2 : Int32) (x3 : Int32) (x5 : Int32) (x6 : Int32) (s0 : Int32) (d : vmD) (Q : vmD → Prop) : Prop :=
  if x6 = 0 then
  (MO_wideSum_106 x1 x2 x3 x5 x6 s0 64 ((x6 >>> ((8 : Int32) &&& 31)) &&& 168) 6 d Q)
  else
  (MO_wideSum_106 x1 x2 x3 x5 x6 s0 0 ((x6 >>> ((8 : Int32) &&& 31)) &&& 168) 6 d Q)
set_option maxRecDepth 100000 in
set_option maxHeartbeats 4000000 in
theorem tMO_wideSum_78 {L : Nat} {e : vmD} {Qo : Option Value → vmW → Prop} {Q : vmD → Prop} (hQ : ∀ d, Q d → Qo none (wR L d e)) (x1 : Int32) (x2 : Int32) (x3 : Int32) (x5 : Int32) (x6 : Int32) (s0 : Int32) (d : vmD) (h : MO_wideSum_78 x1 x2 x3 x5 x6 s0 d Q) : vmWp 398 78 [(0, .ref 42), (1, .int x1), (2, .int x2), (3, .int x3), (5, .int x5), (6, .int x6)] [.int s0] (wR L d e) Qo := by
  unfold MO_wideSum_78 at h
  refine st_go 10 (pc' := 97) (lo' := [(7, .int s0), (0, .ref 42), (1, .int x1), (2, .int x2), (3, .int x3), (5, .int x5), (6, .int x6)]) (st' := [.int x6, .int ((x6 >>> ((8 : Int32) &&& 31)) &&& 168), .int 6, .ref 65]) rfl ?_
  by_cases hc_8 : x6 = 0
  · have h := Eq.mp (if_pos hc_8) h
    refine st_if (t := 100) (b := false) rfl (decide_eq_false (fun z => z hc_8)) rfl ?_
    refine st_go 2 (pc' := 106) (lo' := [(7, .int s0), (0, .ref 42), (1, .int x1), (2, .int x2), (3, .int x3), (5, .int x5), (6, .int x6)]) (st' := [.int 64, .int ((x6 >>> ((8 : Int32) &&& 31)) &&& 168), .int 6, .ref 65]) rfl ?_
    refine vmWp.sub (lo' := [(0, .ref 42), (1, .int x1), (2, .int x2), (3, .int x3), (5, .int x5), (6, .int x6), (7, .int s0)]) ⟨rfl, rfl, rfl, rfl, rfl, rfl, rfl, trivial⟩ ?_
    exact tMO_wideSum_106 hQ x1 x2 x3 x5 x6 s0 64 ((x6 >>> ((8 : Int32) &&& 31)) &&& 168) 6 d h
  · have h := Eq.mp (if_neg hc_8) h
    refine st_if (t := 105) (b := true) rfl (decide_eq_true hc_8) rfl ?_
    refine st_go 1 (pc' := 106) (lo' := [(7, .int s0), (0, .ref 42), (1, .int x1), (2, .int x2), (3, .int x3), (5, .int x5), (6, .int x6)]) (st' := [.int 0, .int ((x6 >>> ((8 : Int32) &&& 31)) &&& 168), .int 6, .ref 65]) rfl ?_
    refine vmWp.sub (lo' := [(0, .ref 42), (1, .int x1), (2, .int x2), (3, .int x3), (5, .int x5), (6, .int x6), (7, .int s0)]) ⟨rfl, rfl, rfl, rfl, rfl, rfl, rfl, trivial⟩ ?_
    exact tMO_wideSum_106 hQ x1 x2 x3 x5 x6 s0 0 ((x6 >>> ((8 : Int32) &&& 31)) &&& 168) 6 d h
set_option maxRecDepth 100000 in
def MO_wideSum_36 (x1 : Int32) (x2 : Int32) (x3 : Int32) (s0 : Int32) (d : vmD) (Q : vmD → Prop) : Prop :=
  bnd (s0 &&& 65535) fun x6_6 =>
  if x2 = 0 then
  (MO_wideSum_78 x1 x2 x3 s0 x6_6 (((x3 ^^^ x1) &&& (x3 ^^^ x6_6)) &&& 32768) d Q)
  else
  (MO_wideSum_78 x1 x2 x3 s0 x6_6 (((x3 ^^^ (x1 ^^^ (-1))) &&& (x3 ^^^ x6_6)) &&& 32768) d Q)
set_option maxRecDepth 100000 in
set_option maxHeartbeats 4000000 in
theorem tMO_wideSum_36 {L : Nat} {e : vmD} {Qo : Option Value → vmW → Prop} {Q : vmD → Prop} (hQ : ∀ d, Q d → Qo none (wR L d e)) (x1 : Int32) (x2 : Int32) (x3 : Int32) (s0 : Int32) (d : vmD) (h : MO_wideSum_36 x1 x2 x3 s0 d Q) : vmWp 398 36 [(0, .ref 42), (1, .int x1), (2, .int x2), (3, .int x3)] [.int s0] (wR L d e) Qo := by
  unfold MO_wideSum_36 at h
  refine st_go 5 (pc' := 45) (lo' := [(6, .int (s0 &&& 65535)), (5, .int s0), (0, .ref 42), (1, .int x1), (2, .int x2), (3, .int x3)]) (st' := []) rfl ?_
  refine st_locI (fun x6_6 hy_x6_6 => ?_)
  have h := h x6_6 hy_x6_6
  refine st_go 1 (pc' := 46) (lo' := [(6, .int x6_6), (5, .int s0), (0, .ref 42), (1, .int x1), (2, .int x2), (3, .int x3)]) (st' := [.int x2]) rfl ?_
  by_cases hc_7 : x2 = 0
  · have h := Eq.mp (if_pos hc_7) h
    refine st_if (t := 66) (b := true) rfl (decide_eq_true hc_7) rfl ?_
    refine st_go 9 (pc' := 78) (lo' := [(6, .int x6_6), (5, .int s0), (0, .ref 42), (1, .int x1), (2, .int x2), (3, .int x3)]) (st' := [.int (((x3 ^^^ x1) &&& (x3 ^^^ x6_6)) &&& 32768)]) rfl ?_
    refine vmWp.sub (lo' := [(0, .ref 42), (1, .int x1), (2, .int x2), (3, .int x3), (5, .int s0), (6, .int x6_6)]) ⟨rfl, rfl, rfl, rfl, rfl, rfl, trivial⟩ ?_
    exact tMO_wideSum_78 hQ x1 x2 x3 s0 x6_6 (((x3 ^^^ x1) &&& (x3 ^^^ x6_6)) &&& 32768) d h
  · have h := Eq.mp (if_neg hc_7) h
    refine st_if (t := 49) (b := false) rfl (decide_eq_false hc_7) rfl ?_
    refine st_go 12 (pc' := 78) (lo' := [(6, .int x6_6), (5, .int s0), (0, .ref 42), (1, .int x1), (2, .int x2), (3, .int x3)]) (st' := [.int (((x3 ^^^ (x1 ^^^ (-1))) &&& (x3 ^^^ x6_6)) &&& 32768)]) rfl ?_
    refine vmWp.sub (lo' := [(0, .ref 42), (1, .int x1), (2, .int x2), (3, .int x3), (5, .int s0), (6, .int x6_6)]) ⟨rfl, rfl, rfl, rfl, rfl, rfl, trivial⟩ ?_
    exact tMO_wideSum_78 hQ x1 x2 x3 s0 x6_6 (((x3 ^^^ (x1 ^^^ (-1))) &&& (x3 ^^^ x6_6)) &&& 32768) d h
set_option maxRecDepth 100000 in
def MO_wideSum (x1 : Int32) (x2 : Int32) (d : vmD) (Q : vmD → Prop) : Prop :=
  MO_two 4 d fun r_2 d_1 =>
  bnd (gA d_1 65 6) fun y_3 =>
  bnd (y_3 &&& 1) fun x4_4 =>
  if x2 = 0 then
  (MO_wideSum_36 x1 x2 r_2 ((r_2 - x1) - x4_4) d_1 Q)
  else
  (MO_wideSum_36 x1 x2 r_2 ((r_2 + x1) + x4_4) d_1 Q)
set_option maxRecDepth 100000 in
set_option maxHeartbeats 4000000 in
theorem tMO_wideSum {L : Nat} {e : vmD} {Qo : Option Value → vmW → Prop} {Q : vmD → Prop} (hQ : ∀ d, Q d → Qo none (wR L d e)) (x1 : Int32) (x2 : Int32) (d : vmD) (h : MO_wideSum x1 x2 d Q) : vmWp 398 0 [(0, .ref 42), (1, .int x1), (2, .int x2)] [] (wR L d e) Qo := by
  unfold MO_wideSum at h
  refine st_go 2 (pc' := 2) (lo' := [(0, .ref 42), (1, .int x1), (2, .int x2)]) (st' := [.int 4, .ref 42]) rfl ?_
  refine st_calli (k' := 354) (as := [.ref 42, .int 4]) (rest := []) (lo' := [(0, .ref 42), (1, .int 4)]) (wf := fun d => wR L d e) rfl rfl rfl ?_
  refine tMO_two (fun r_2 d_1 h => ⟨r_2, d_1, rfl, rfl, ?_⟩) 4 d h
  refine st_go 4 (pc' := 12) (lo' := [(3, .int r_2), (0, .ref 42), (1, .int x1), (2, .int x2)]) (st' := [.int 6, .ref 65]) rfl ?_
  refine st_ialdR (o := 65) rfl rfl (show ixOk 6 8 by decide) rfl (fun y_3 hy_y_3 => ?_)
  have h := h y_3 hy_y_3
  refine st_go 3 (pc' := 17) (lo' := [(4, .int (y_3 &&& 1)), (3, .int r_2), (0, .ref 42), (1, .int x1), (2, .int x2)]) (st' := []) rfl ?_
  refine st_locI (fun x4_4 hy_x4_4 => ?_)
  have h := h x4_4 hy_x4_4
  refine st_go 1 (pc' := 18) (lo' := [(4, .int x4_4), (3, .int r_2), (0, .ref 42), (1, .int x1), (2, .int x2)]) (st' := [.int x2]) rfl ?_
  by_cases hc_5 : x2 = 0
  · have h := Eq.mp (if_pos hc_5) h
    refine st_if (t := 30) (b := true) rfl (decide_eq_true hc_5) rfl ?_
    refine st_go 5 (pc' := 36) (lo' := [(4, .int x4_4), (3, .int r_2), (0, .ref 42), (1, .int x1), (2, .int x2)]) (st' := [.int ((r_2 - x1) - x4_4)]) rfl ?_
    refine vmWp.sub (lo' := [(0, .ref 42), (1, .int x1), (2, .int x2), (3, .int r_2)]) ⟨rfl, rfl, rfl, rfl, trivial⟩ ?_
    exact tMO_wideSum_36 hQ x1 x2 r_2 ((r_2 - x1) - x4_4) d_1 h
  · have h := Eq.mp (if_neg hc_5) h
    refine st_if (t := 21) (b := false) rfl (decide_eq_false hc_5) rfl ?_
    refine st_go 6 (pc' := 36) (lo' := [(4, .int x4_4), (3, .int r_2), (0, .ref 42), (1, .int x1), (2, .int x2)]) (st' := [.int ((r_2 + x1) + x4_4)]) rfl ?_
    refine vmWp.sub (lo' := [(0, .ref 42), (1, .int x1), (2, .int x2), (3, .int r_2)]) ⟨rfl, rfl, rfl, rfl, trivial⟩ ?_
    exact tMO_wideSum_36 hQ x1 x2 r_2 ((r_2 + x1) + x4_4) d_1 h
set_option maxRecDepth 100000 in
def MO_setBase (x1 : Int32) (d : vmD) (Q : vmD → Prop) : Prop :=
  if (gF d 42 60) = 0 then
  (MO_setTwo 4 x1 d fun d_2 =>
  Q d_2)
  else
  (ixOk (gF d 42 60) 3 ∧
  bnd (sA d 67 (gF d 42 60).toNatClampNeg (x1 &&& 65535)) fun d_4 =>
  Q d_4)
set_option maxRecDepth 100000 in
set_option maxHeartbeats 4000000 in
theorem tMO_setBase {L : Nat} {e : vmD} {Qo : Option Value → vmW → Prop} {Q : vmD → Prop} (hQ : ∀ d, Q d → Qo none (wR L d e)) (x1 : Int32) (d : vmD) (h : MO_setBase x1 d Q) : vmWp 376 0 [(0, .ref 42), (1, .int x1)] [] (wR L d e) Qo := by
  unfold MO_setBase at h
  refine st_go 2 (pc' := 4) (lo' := [(0, .ref 42), (1, .int x1)]) (st' := [.int (gF d 42 60)]) rfl ?_
  by_cases hc_1 : (gF d 42 60) = 0
  · have h := Eq.mp (if_pos hc_1) h
    refine st_if (t := 7) (b := false) rfl (decide_eq_false (fun z => z hc_1)) rfl ?_
    refine st_go 3 (pc' := 10) (lo' := [(0, .ref 42), (1, .int x1)]) (st' := [.int x1, .int 4, .ref 42]) rfl ?_
    refine st_callv (k' := 355) (as := [.ref 42, .int 4, .int x1]) (rest := []) (lo' := [(0, .ref 42), (1, .int 4), (2, .int x1)]) (wf := fun d => wR L d e) rfl rfl rfl ?_
    refine tMO_setTwo (fun d_2 h => ⟨d_2, rfl, rfl, ?_⟩) 4 x1 d h
    refine st_go 1 (pc' := 29) (lo' := [(0, .ref 42), (1, .int x1)]) (st' := []) rfl ?_
    exact st_retV rfl rfl (hQ _ h)
  · have h := Eq.mp (if_neg hc_1) h
    refine st_if (t := 16) (b := true) rfl (decide_eq_true hc_1) rfl ?_
    refine st_go 7 (pc' := 28) (lo' := [(0, .ref 42), (1, .int x1)]) (st' := [.int (x1 &&& 65535), .int (gF d 42 60), .ref 67]) rfl ?_
    obtain ⟨hj_3, h⟩ := h
    refine st_iastR (o := 67) rfl rfl hj_3 rfl (fun d_4 hy_d_4 => ?_)
    have h := h d_4 hy_d_4
    exact st_retV rfl rfl (hQ _ h)
set_option maxRecDepth 100000 in
def MO_setPair (x1 : Int32) (x2 : Int32) (d : vmD) (Q : vmD → Prop) : Prop :=
  if x1 = 2 then
  (MO_setBase x2 d fun d_2 =>
  Q d_2)
  else
  (if x1 = 3 then
  (bnd (sF d 42 75 (x2 &&& 65535)) fun d_4 =>
  Q d_4)
  else
  (MO_setTwo ((2 : Int32) * x1) x2 d fun d_5 =>
  Q d_5))
set_option maxRecDepth 100000 in
set_option maxHeartbeats 4000000 in
theorem tMO_setPair {L : Nat} {e : vmD} {Qo : Option Value → vmW → Prop} {Q : vmD → Prop} (hQ : ∀ d, Q d → Qo none (wR L d e)) (x1 : Int32) (x2 : Int32) (d : vmD) (h : MO_setPair x1 x2 d Q) : vmWp 381 0 [(0, .ref 42), (1, .int x1), (2, .int x2)] [] (wR L d e) Qo := by
  unfold MO_setPair at h
  refine st_go 2 (pc' := 2) (lo' := [(0, .ref 42), (1, .int x1), (2, .int x2)]) (st' := [.int 2, .int x1]) rfl ?_
  by_cases hc_1 : x1 = 2
  · have h := Eq.mp (if_pos hc_1) h
    refine st_icmp (t := 5) (b := false) rfl (decide_eq_false (fun z => z hc_1)) rfl ?_
    refine st_go 2 (pc' := 7) (lo' := [(0, .ref 42), (1, .int x1), (2, .int x2)]) (st' := [.int x2, .ref 42]) rfl ?_
    refine st_callv (k' := 376) (as := [.ref 42, .int x2]) (rest := []) (lo' := [(0, .ref 42), (1, .int x2)]) (wf := fun d => wR L d e) rfl rfl rfl ?_
    refine tMO_setBase (fun d_2 h => ⟨d_2, rfl, rfl, ?_⟩) x2 d h
    refine st_go 1 (pc' := 37) (lo' := [(0, .ref 42), (1, .int x1), (2, .int x2)]) (st' := []) rfl ?_
    exact st_retV rfl rfl (hQ _ h)
  · have h := Eq.mp (if_neg hc_1) h
    refine st_icmp (t := 13) (b := true) rfl (decide_eq_true hc_1) rfl ?_
    refine st_go 2 (pc' := 15) (lo' := [(0, .ref 42), (1, .int x1), (2, .int x2)]) (st' := [.int 3, .int x1]) rfl ?_
    by_cases hc_3 : x1 = 3
    · have h := Eq.mp (if_pos hc_3) h
      refine st_icmp (t := 18) (b := false) rfl (decide_eq_false (fun z => z hc_3)) rfl ?_
      refine st_go 4 (pc' := 23) (lo' := [(0, .ref 42), (1, .int x1), (2, .int x2)]) (st' := [.int (x2 &&& 65535), .ref 42]) rfl ?_
      refine st_putIR (o := 42) (f := 75) rfl rfl rfl rfl rfl (fun d_4 hy_d_4 => ?_)
      have h := h d_4 hy_d_4
      refine st_go 1 (pc' := 37) (lo' := [(0, .ref 42), (1, .int x1), (2, .int x2)]) (st' := []) rfl ?_
      exact st_retV rfl rfl (hQ _ h)
    · have h := Eq.mp (if_neg hc_3) h
      refine st_icmp (t := 29) (b := true) rfl (decide_eq_true hc_3) rfl ?_
      refine st_go 5 (pc' := 34) (lo' := [(0, .ref 42), (1, .int x1), (2, .int x2)]) (st' := [.int x2, .int ((2 : Int32) * x1), .ref 42]) rfl ?_
      refine st_callv (k' := 355) (as := [.ref 42, .int ((2 : Int32) * x1), .int x2]) (rest := []) (lo' := [(0, .ref 42), (1, .int ((2 : Int32) * x1)), (2, .int x2)]) (wf := fun d => wR L d e) rfl rfl rfl ?_
      refine tMO_setTwo (fun d_5 h => ⟨d_5, rfl, rfl, ?_⟩) ((2 : Int32) * x1) x2 d h
      exact st_retV rfl rfl (hQ _ h)
set_option maxRecDepth 100000 in
def MO_popTwo (d : vmD) (Q : Int32 → vmD → Prop) : Prop :=
  MO_wide (gF d 42 75) d fun r_2 d_1 =>
  bnd (sF d_1 42 75 (((gF d_1 42 75) + 2) &&& 65535)) fun d_3 =>
  Q r_2 d_3
set_option maxRecDepth 100000 in
set_option maxHeartbeats 4000000 in
theorem tMO_popTwo {L : Nat} {e : vmD} {Qo : Option Value → vmW → Prop} {Q : Int32 → vmD → Prop} (hQ : ∀ r d, Q r d → Qo (some (.int r)) (wR L d e)) (d : vmD) (h : MO_popTwo d Q) : vmWp 365 0 [(0, .ref 42)] [] (wR L d e) Qo := by
  unfold MO_popTwo at h
  refine st_go 3 (pc' := 5) (lo' := [(0, .ref 42)]) (st' := [.int (gF d 42 75), .ref 42]) rfl ?_
  refine st_calli (k' := 321) (as := [.ref 42, .int (gF d 42 75)]) (rest := []) (lo' := [(0, .ref 42), (1, .int (gF d 42 75))]) (wf := fun d => wR L d e) rfl rfl rfl ?_
  refine tMO_wide (fun r_2 d_1 h => ⟨r_2, d_1, rfl, rfl, ?_⟩) (gF d 42 75) d h
  refine st_go 8 (pc' := 19) (lo' := [(1, .int r_2), (0, .ref 42)]) (st' := [.int (((gF d_1 42 75) + 2) &&& 65535), .ref 42]) rfl ?_
  refine st_putIR (o := 42) (f := 75) rfl rfl rfl rfl rfl (fun d_3 hy_d_3 => ?_)
  have h := h d_3 hy_d_3
  refine st_go 1 (pc' := 23) (lo' := [(1, .int r_2), (0, .ref 42)]) (st' := [.int r_2]) rfl ?_
  exact st_retI rfl rfl (hQ _ _ h)
set_option maxRecDepth 100000 in
def MO_doHalves_123 (s0 : Int32) (s1 : Int32) (s2 : Int32) (d : vmD) (Q : vmD → Prop) : Prop :=
  ixOk s2 8 ∧
  bnd (sA d 65 s2.toNatClampNeg (s1 ||| s0)) fun d_17 =>
  Q d_17
set_option maxRecDepth 100000 in
set_option maxHeartbeats 4000000 in
theorem tMO_doHalves_123 {L : Nat} {e : vmD} {Qo : Option Value → vmW → Prop} {Q : vmD → Prop} (hQ : ∀ d, Q d → Qo none (wR L d e)) (s0 : Int32) (s1 : Int32) (s2 : Int32) (d : vmD) (h : MO_doHalves_123 s0 s1 s2 d Q) : vmWp 399 123 [] [.int s0, .int s1, .int s2, .ref 65] (wR L d e) Qo := by
  unfold MO_doHalves_123 at h
  refine st_go 1 (pc' := 124) (lo' := []) (st' := [.int (s1 ||| s0), .int s2, .ref 65]) rfl ?_
  obtain ⟨hj_16, h⟩ := h
  refine st_iastR (o := 65) rfl rfl hj_16 rfl (fun d_17 hy_d_17 => ?_)
  have h := h d_17 hy_d_17
  refine st_go 1 (pc' := 272) (lo' := []) (st' := []) rfl ?_
  exact st_retV rfl rfl (hQ _ h)
set_option maxRecDepth 100000 in
def MO_doHalves_82 (s0 : Int32) (s1 : Int32) (d : vmD) (Q : vmD → Prop) : Prop :=
  ixOk s1 8 ∧
  bnd (sA d 65 s1.toNatClampNeg s0) fun d_10 =>
  bnd (gA d_10 65 6) fun y_11 =>
  bnd (gA d_10 65 7) fun y_12 =>
  MO_signs y_12 d_10 fun r_14 d_13 =>
  if (gF d_13 42 78) = 1 then
  (MO_doHalves_123 4 ((y_11 &&& 1) ||| r_14) 6 d_13 Q)
  else
  (MO_doHalves_123 0 ((y_11 &&& 1) ||| r_14) 6 d_13 Q)
set_option maxRecDepth 100000 in
set_option maxHeartbeats 4000000 in
theorem tMO_doHalves_82 {L : Nat} {e : vmD} {Qo : Option Value → vmW → Prop} {Q : vmD → Prop} (hQ : ∀ d, Q d → Qo none (wR L d e)) (s0 : Int32) (s1 : Int32) (d : vmD) (h : MO_doHalves_82 s0 s1 d Q) : vmWp 399 82 [(0, .ref 42)] [.int s0, .int s1, .ref 65] (wR L d e) Qo := by
  unfold MO_doHalves_82 at h
  obtain ⟨hj_9, h⟩ := h
  refine st_iastR (o := 65) rfl rfl hj_9 rfl (fun d_10 hy_d_10 => ?_)
  have h := h d_10 hy_d_10
  refine st_go 6 (pc' := 95) (lo' := [(0, .ref 42)]) (st' := [.int 6, .ref 65, .int 6, .ref 65]) rfl ?_
  refine st_ialdR (o := 65) rfl rfl (show ixOk 6 8 by decide) rfl (fun y_11 hy_y_11 => ?_)
  have h := h y_11 hy_y_11
  refine st_go 6 (pc' := 105) (lo' := [(0, .ref 42)]) (st' := [.int 7, .ref 65, .ref 42, .int (y_11 &&& 1), .int 6, .ref 65]) rfl ?_
  refine st_ialdR (o := 65) rfl rfl (show ixOk 7 8 by decide) rfl (fun y_12 hy_y_12 => ?_)
  have h := h y_12 hy_y_12
  refine st_calli (k' := 369) (as := [.ref 42, .int y_12]) (rest := [.int (y_11 &&& 1), .int 6, .ref 65]) (lo' := [(0, .ref 42), (1, .int y_12)]) (wf := fun d => wR L d e) rfl rfl rfl ?_
  refine tMO_signs (fun r_14 d_13 h => ⟨r_14, d_13, rfl, rfl, ?_⟩) y_12 d_10 h
  refine st_go 4 (pc' := 115) (lo' := [(0, .ref 42)]) (st' := [.int 1, .int (gF d_13 42 78), .int ((y_11 &&& 1) ||| r_14), .int 6, .ref 65]) rfl ?_
  by_cases hc_15 : (gF d_13 42 78) = 1
  · have h := Eq.mp (if_pos hc_15) h
    refine st_icmp (t := 118) (b := false) rfl (decide_eq_false (fun z => z hc_15)) rfl ?_
    refine st_go 2 (pc' := 123) (lo' := [(0, .ref 42)]) (st' := [.int 4, .int ((y_11 &&& 1) ||| r_14), .int 6, .ref 65]) rfl ?_
    refine vmWp.sub (lo' := []) trivial ?_
    exact tMO_doHalves_123 hQ 4 ((y_11 &&& 1) ||| r_14) 6 d_13 h
  · have h := Eq.mp (if_neg hc_15) h
    refine st_icmp (t := 122) (b := true) rfl (decide_eq_true hc_15) rfl ?_
    refine st_go 1 (pc' := 123) (lo' := [(0, .ref 42)]) (st' := [.int 0, .int ((y_11 &&& 1) ||| r_14), .int 6, .ref 65]) rfl ?_
    refine vmWp.sub (lo' := []) trivial ?_
    exact tMO_doHalves_123 hQ 0 ((y_11 &&& 1) ||| r_14) 6 d_13 h
set_option maxRecDepth 100000 in
def MO_doHalves_232 (d : vmD) (Q : vmD → Prop) : Prop :=
  bnd (gA d 65 6) fun y_32 =>
  bnd (gA d 65 7) fun y_33 =>
  MO_signs y_33 d fun r_35 d_34 =>
  bnd (gA d_34 65 7) fun y_36 =>
  MO_parity y_36 d_34 fun r_38 d_37 =>
  bnd (sA d_37 65 6 (((y_32 &&& 1) ||| r_35) ||| r_38)) fun d_39 =>
  Q d_39
set_option maxRecDepth 100000 in
set_option maxHeartbeats 4000000 in
theorem tMO_doHalves_232 {L : Nat} {e : vmD} {Qo : Option Value → vmW → Prop} {Q : vmD → Prop} (hQ : ∀ d, Q d → Qo none (wR L d e)) (d : vmD) (h : MO_doHalves_232 d Q) : vmWp 399 232 [(0, .ref 42)] [] (wR L d e) Qo := by
  unfold MO_doHalves_232 at h
  refine st_go 6 (pc' := 244) (lo' := [(0, .ref 42)]) (st' := [.int 6, .ref 65, .int 6, .ref 65]) rfl ?_
  refine st_ialdR (o := 65) rfl rfl (show ixOk 6 8 by decide) rfl (fun y_32 hy_y_32 => ?_)
  have h := h y_32 hy_y_32
  refine st_go 6 (pc' := 254) (lo' := [(0, .ref 42)]) (st' := [.int 7, .ref 65, .ref 42, .int (y_32 &&& 1), .int 6, .ref 65]) rfl ?_
  refine st_ialdR (o := 65) rfl rfl (show ixOk 7 8 by decide) rfl (fun y_33 hy_y_33 => ?_)
  have h := h y_33 hy_y_33
  refine st_calli (k' := 369) (as := [.ref 42, .int y_33]) (rest := [.int (y_32 &&& 1), .int 6, .ref 65]) (lo' := [(0, .ref 42), (1, .int y_33)]) (wf := fun d => wR L d e) rfl rfl rfl ?_
  refine tMO_signs (fun r_35 d_34 h => ⟨r_35, d_34, rfl, rfl, ?_⟩) y_33 d h
  refine st_go 5 (pc' := 266) (lo' := [(0, .ref 42)]) (st' := [.int 7, .ref 65, .ref 42, .int ((y_32 &&& 1) ||| r_35), .int 6, .ref 65]) rfl ?_
  refine st_ialdR (o := 65) rfl rfl (show ixOk 7 8 by decide) rfl (fun y_36 hy_y_36 => ?_)
  have h := h y_36 hy_y_36
  refine st_calli (k' := 368) (as := [.ref 42, .int y_36]) (rest := [.int ((y_32 &&& 1) ||| r_35), .int 6, .ref 65]) (lo' := [(0, .ref 42), (1, .int y_36)]) (wf := fun d => wR L d e) rfl rfl rfl ?_
  refine tMO_parity (fun r_38 d_37 h => ⟨r_38, d_37, rfl, rfl, ?_⟩) y_36 d_34 h
  refine st_go 1 (pc' := 271) (lo' := [(0, .ref 42)]) (st' := [.int (((y_32 &&& 1) ||| r_35) ||| r_38), .int 6, .ref 65]) rfl ?_
  refine st_iastR (o := 65) rfl rfl (show ixOk 6 8 by decide) rfl (fun d_39 hy_d_39 => ?_)
  have h := h d_39 hy_d_39
  exact st_retV rfl rfl (hQ _ h)
set_option maxRecDepth 100000 in
def MO_doHalves (x1 : Int32) (d : vmD) (Q : vmD → Prop) : Prop :=
  if x1 = 0 then
  (bnd (gA d 65 7) fun y_2 =>
  bnd (sF d 42 72 y_2) fun d_3 =>
  Q d_3)
  else
  if x1 = 1 then
  (bnd (gA d 65 7) fun y_5 =>
  bnd (sF d 42 73 y_5) fun d_6 =>
  Q d_6)
  else
  if x1 = 2 then
  (if x1 = 2 then
  (MO_doHalves_82 (gF d 42 72) 7 d Q)
  else
  (MO_doHalves_82 (gF d 42 73) 7 d Q))
  else
  if x1 = 3 then
  (if x1 = 2 then
  (MO_doHalves_82 (gF d 42 72) 7 d Q)
  else
  (MO_doHalves_82 (gF d 42 73) 7 d Q))
  else
  (MO_two 4 d fun r_21 d_20 =>
  MO_peek r_21 d_20 fun r_23 d_22 =>
  bnd (gA d_22 65 7) fun y_24 =>
  bnd (y_24 &&& 15) fun x3_25 =>
  if x1 = 5 then
  (MO_two 4 d_22 fun r_28 d_27 =>
  MO_store r_28 ((r_23 <<< ((4 : Int32) &&& 31)) ||| x3_25) d_27 fun d_29 =>
  bnd (gA d_29 65 7) fun y_30 =>
  bnd (sA d_29 65 7 ((y_30 &&& 240) ||| (r_23 >>> ((4 : Int32) &&& 31)))) fun d_31 =>
  MO_doHalves_232 d_31 Q)
  else
  (MO_two 4 d_22 fun r_41 d_40 =>
  MO_store r_41 ((r_23 >>> ((4 : Int32) &&& 31)) ||| (x3_25 <<< ((4 : Int32) &&& 31))) d_40 fun d_42 =>
  bnd (gA d_42 65 7) fun y_43 =>
  bnd (sA d_42 65 7 ((y_43 &&& 240) ||| (r_23 &&& 15))) fun d_44 =>
  MO_doHalves_232 d_44 Q))
set_option maxRecDepth 100000 in
set_option maxHeartbeats 4000000 in
theorem tMO_doHalves {L : Nat} {e : vmD} {Qo : Option Value → vmW → Prop} {Q : vmD → Prop} (hQ : ∀ d, Q d → Qo none (wR L d e)) (x1 : Int32) (d : vmD) (h : MO_doHalves x1 d Q) : vmWp 399 0 [(0, .ref 42), (1, .int x1)] [] (wR L d e) Qo := by
  unfold MO_doHalves at h
  refine st_go 1 (pc' := 1) (lo' := [(0, .ref 42), (1, .int x1)]) (st' := [.int x1]) rfl ?_
  by_cases hc_1 : x1 = 0
  · have h := Eq.mp (if_pos hc_1) h
    refine st_tab (t := 32) rfl (by rw [hc_1]; rfl) ?_
    refine st_go 4 (pc' := 39) (lo' := [(0, .ref 42), (1, .int x1)]) (st' := [.int 7, .ref 65, .ref 42]) rfl ?_
    refine st_ialdR (o := 65) rfl rfl (show ixOk 7 8 by decide) rfl (fun y_2 hy_y_2 => ?_)
    have h := h y_2 hy_y_2
    refine st_putIR (o := 42) (f := 72) rfl rfl rfl rfl rfl (fun d_3 hy_d_3 => ?_)
    have h := h d_3 hy_d_3
    refine st_go 1 (pc' := 272) (lo' := [(0, .ref 42), (1, .int x1)]) (st' := []) rfl ?_
    exact st_retV rfl rfl (hQ _ h)
  · have h := Eq.mp (if_neg hc_1) h
    by_cases hc_4 : x1 = 1
    · have h := Eq.mp (if_pos hc_4) h
      refine st_tab (t := 46) rfl (by rw [hc_4]; rfl) ?_
      refine st_go 4 (pc' := 53) (lo' := [(0, .ref 42), (1, .int x1)]) (st' := [.int 7, .ref 65, .ref 42]) rfl ?_
      refine st_ialdR (o := 65) rfl rfl (show ixOk 7 8 by decide) rfl (fun y_5 hy_y_5 => ?_)
      have h := h y_5 hy_y_5
      refine st_putIR (o := 42) (f := 73) rfl rfl rfl rfl rfl (fun d_6 hy_d_6 => ?_)
      have h := h d_6 hy_d_6
      refine st_go 1 (pc' := 272) (lo' := [(0, .ref 42), (1, .int x1)]) (st' := []) rfl ?_
      exact st_retV rfl rfl (hQ _ h)
    · have h := Eq.mp (if_neg hc_4) h
      by_cases hc_7 : x1 = 2
      · have h := Eq.mp (if_pos hc_7) h
        refine st_tab (t := 60) rfl (by rw [hc_7]; rfl) ?_
        refine st_go 5 (pc' := 68) (lo' := [(0, .ref 42), (1, .int x1)]) (st' := [.int 2, .int x1, .int 7, .ref 65]) rfl ?_
        by_cases hc_8 : x1 = 2
        · have h := Eq.mp (if_pos hc_8) h
          refine st_icmp (t := 71) (b := false) rfl (decide_eq_false (fun z => z hc_8)) rfl ?_
          refine st_go 3 (pc' := 82) (lo' := [(0, .ref 42), (1, .int x1)]) (st' := [.int (gF d 42 72), .int 7, .ref 65]) rfl ?_
          refine vmWp.sub (lo' := [(0, .ref 42)]) ⟨rfl, trivial⟩ ?_
          exact tMO_doHalves_82 hQ (gF d 42 72) 7 d h
        · have h := Eq.mp (if_neg hc_8) h
          refine st_icmp (t := 78) (b := true) rfl (decide_eq_true hc_8) rfl ?_
          refine st_go 2 (pc' := 82) (lo' := [(0, .ref 42), (1, .int x1)]) (st' := [.int (gF d 42 73), .int 7, .ref 65]) rfl ?_
          refine vmWp.sub (lo' := [(0, .ref 42)]) ⟨rfl, trivial⟩ ?_
          exact tMO_doHalves_82 hQ (gF d 42 73) 7 d h
      · have h := Eq.mp (if_neg hc_7) h
        by_cases hc_18 : x1 = 3
        · have h := Eq.mp (if_pos hc_18) h
          refine st_tab (t := 60) rfl (by rw [hc_18]; rfl) ?_
          refine st_go 5 (pc' := 68) (lo' := [(0, .ref 42), (1, .int x1)]) (st' := [.int 2, .int x1, .int 7, .ref 65]) rfl ?_
          by_cases hc_19 : x1 = 2
          · have h := Eq.mp (if_pos hc_19) h
            refine st_icmp (t := 71) (b := false) rfl (decide_eq_false (fun z => z hc_19)) rfl ?_
            refine st_go 3 (pc' := 82) (lo' := [(0, .ref 42), (1, .int x1)]) (st' := [.int (gF d 42 72), .int 7, .ref 65]) rfl ?_
            refine vmWp.sub (lo' := [(0, .ref 42)]) ⟨rfl, trivial⟩ ?_
            exact tMO_doHalves_82 hQ (gF d 42 72) 7 d h
          · have h := Eq.mp (if_neg hc_19) h
            refine st_icmp (t := 78) (b := true) rfl (decide_eq_true hc_19) rfl ?_
            refine st_go 2 (pc' := 82) (lo' := [(0, .ref 42), (1, .int x1)]) (st' := [.int (gF d 42 73), .int 7, .ref 65]) rfl ?_
            refine vmWp.sub (lo' := [(0, .ref 42)]) ⟨rfl, trivial⟩ ?_
            exact tMO_doHalves_82 hQ (gF d 42 73) 7 d h
        · have h := Eq.mp (if_neg hc_18) h
          refine st_tab (t := 128) rfl (tab_def rfl (by decide) rfl (by
            intro j hj hx
            have hj : j < 4 := hj
            rcases (j = 0 ∨ j = 1 ∨ j = 2 ∨ j = 3 : Prop) |> fun _ => (show j = 0 ∨ j = 1 ∨ j = 2 ∨ j = 3 by omega) with rfl | rfl | rfl | rfl <;> first | rfl | exact absurd hx hc_1 | exact absurd hx hc_4 | exact absurd hx hc_7 | exact absurd hx hc_18)) ?_
          refine st_go 3 (pc' := 131) (lo' := [(0, .ref 42), (1, .int x1)]) (st' := [.int 4, .ref 42, .ref 42]) rfl ?_
          refine st_calli (k' := 354) (as := [.ref 42, .int 4]) (rest := [.ref 42]) (lo' := [(0, .ref 42), (1, .int 4)]) (wf := fun d => wR L d e) rfl rfl rfl ?_
          refine tMO_two (fun r_21 d_20 h => ⟨r_21, d_20, rfl, rfl, ?_⟩) 4 d h
          refine st_calli (k' := 320) (as := [.ref 42, .int r_21]) (rest := []) (lo' := [(0, .ref 42), (1, .int r_21)]) (wf := fun d => wR L d e) rfl rfl rfl ?_
          refine tMO_peek (fun r_23 d_22 h => ⟨r_23, d_22, rfl, rfl, ?_⟩) r_21 d_20 h
          refine st_go 4 (pc' := 144) (lo' := [(2, .int r_23), (0, .ref 42), (1, .int x1)]) (st' := [.int 7, .ref 65]) rfl ?_
          refine st_ialdR (o := 65) rfl rfl (show ixOk 7 8 by decide) rfl (fun y_24 hy_y_24 => ?_)
          have h := h y_24 hy_y_24
          refine st_go 3 (pc' := 149) (lo' := [(3, .int (y_24 &&& 15)), (2, .int r_23), (0, .ref 42), (1, .int x1)]) (st' := []) rfl ?_
          refine st_locI (fun x3_25 hy_x3_25 => ?_)
          have h := h x3_25 hy_x3_25
          refine st_go 2 (pc' := 151) (lo' := [(3, .int x3_25), (2, .int r_23), (0, .ref 42), (1, .int x1)]) (st' := [.int 5, .int x1]) rfl ?_
          by_cases hc_26 : x1 = 5
          · have h := Eq.mp (if_pos hc_26) h
            refine st_icmp (t := 154) (b := false) rfl (decide_eq_false (fun z => z hc_26)) rfl ?_
            refine st_go 3 (pc' := 157) (lo' := [(3, .int x3_25), (2, .int r_23), (0, .ref 42), (1, .int x1)]) (st' := [.int 4, .ref 42, .ref 42]) rfl ?_
            refine st_calli (k' := 354) (as := [.ref 42, .int 4]) (rest := [.ref 42]) (lo' := [(0, .ref 42), (1, .int 4)]) (wf := fun d => wR L d e) rfl rfl rfl ?_
            refine tMO_two (fun r_28 d_27 h => ⟨r_28, d_27, rfl, rfl, ?_⟩) 4 d_22 h
            refine st_go 5 (pc' := 165) (lo' := [(3, .int x3_25), (2, .int r_23), (0, .ref 42), (1, .int x1)]) (st' := [.int ((r_23 <<< ((4 : Int32) &&& 31)) ||| x3_25), .int r_28, .ref 42]) rfl ?_
            refine st_callv (k' := 363) (as := [.ref 42, .int r_28, .int ((r_23 <<< ((4 : Int32) &&& 31)) ||| x3_25)]) (rest := []) (lo' := [(0, .ref 42), (1, .int r_28), (2, .int ((r_23 <<< ((4 : Int32) &&& 31)) ||| x3_25))]) (wf := fun d => wR L d e) rfl rfl rfl ?_
            refine tMO_store (fun d_29 h => ⟨d_29, rfl, rfl, ?_⟩) r_28 ((r_23 <<< ((4 : Int32) &&& 31)) ||| x3_25) d_27 h
            refine st_go 6 (pc' := 180) (lo' := [(3, .int x3_25), (2, .int r_23), (0, .ref 42), (1, .int x1)]) (st' := [.int 7, .ref 65, .int 7, .ref 65]) rfl ?_
            refine st_ialdR (o := 65) rfl rfl (show ixOk 7 8 by decide) rfl (fun y_30 hy_y_30 => ?_)
            have h := h y_30 hy_y_30
            refine st_go 6 (pc' := 189) (lo' := [(3, .int x3_25), (2, .int r_23), (0, .ref 42), (1, .int x1)]) (st' := [.int ((y_30 &&& 240) ||| (r_23 >>> ((4 : Int32) &&& 31))), .int 7, .ref 65]) rfl ?_
            refine st_iastR (o := 65) rfl rfl (show ixOk 7 8 by decide) rfl (fun d_31 hy_d_31 => ?_)
            have h := h d_31 hy_d_31
            refine st_go 1 (pc' := 232) (lo' := [(3, .int x3_25), (2, .int r_23), (0, .ref 42), (1, .int x1)]) (st' := []) rfl ?_
            refine vmWp.sub (lo' := [(0, .ref 42)]) ⟨rfl, trivial⟩ ?_
            exact tMO_doHalves_232 hQ d_31 h
          · have h := Eq.mp (if_neg hc_26) h
            refine st_icmp (t := 193) (b := true) rfl (decide_eq_true hc_26) rfl ?_
            refine st_go 3 (pc' := 196) (lo' := [(3, .int x3_25), (2, .int r_23), (0, .ref 42), (1, .int x1)]) (st' := [.int 4, .ref 42, .ref 42]) rfl ?_
            refine st_calli (k' := 354) (as := [.ref 42, .int 4]) (rest := [.ref 42]) (lo' := [(0, .ref 42), (1, .int 4)]) (wf := fun d => wR L d e) rfl rfl rfl ?_
            refine tMO_two (fun r_41 d_40 h => ⟨r_41, d_40, rfl, rfl, ?_⟩) 4 d_22 h
            refine st_go 7 (pc' := 206) (lo' := [(3, .int x3_25), (2, .int r_23), (0, .ref 42), (1, .int x1)]) (st' := [.int ((r_23 >>> ((4 : Int32) &&& 31)) ||| (x3_25 <<< ((4 : Int32) &&& 31))), .int r_41, .ref 42]) rfl ?_
            refine st_callv (k' := 363) (as := [.ref 42, .int r_41, .int ((r_23 >>> ((4 : Int32) &&& 31)) ||| (x3_25 <<< ((4 : Int32) &&& 31)))]) (rest := []) (lo' := [(0, .ref 42), (1, .int r_41), (2, .int ((r_23 >>> ((4 : Int32) &&& 31)) ||| (x3_25 <<< ((4 : Int32) &&& 31))))]) (wf := fun d => wR L d e) rfl rfl rfl ?_
            refine tMO_store (fun d_42 h => ⟨d_42, rfl, rfl, ?_⟩) r_41 ((r_23 >>> ((4 : Int32) &&& 31)) ||| (x3_25 <<< ((4 : Int32) &&& 31))) d_40 h
            refine st_go 6 (pc' := 221) (lo' := [(3, .int x3_25), (2, .int r_23), (0, .ref 42), (1, .int x1)]) (st' := [.int 7, .ref 65, .int 7, .ref 65]) rfl ?_
            refine st_ialdR (o := 65) rfl rfl (show ixOk 7 8 by decide) rfl (fun y_43 hy_y_43 => ?_)
            have h := h y_43 hy_y_43
            refine st_go 6 (pc' := 231) (lo' := [(3, .int x3_25), (2, .int r_23), (0, .ref 42), (1, .int x1)]) (st' := [.int ((y_43 &&& 240) ||| (r_23 &&& 15)), .int 7, .ref 65]) rfl ?_
            refine st_iastR (o := 65) rfl rfl (show ixOk 7 8 by decide) rfl (fun d_44 hy_d_44 => ?_)
            have h := h d_44 hy_d_44
            refine vmWp.sub (lo' := [(0, .ref 42)]) ⟨rfl, trivial⟩ ?_
            exact tMO_doHalves_232 hQ d_44 h
