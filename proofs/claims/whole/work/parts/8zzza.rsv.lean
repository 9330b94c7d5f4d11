/-! Names.reserve -/
theorem vb_le (s : Nat) : Nat.ble vmBase (2000 + s) = true := Nat.ble_eq_true_of_le (show 2000 ≤ 2000 + s by omega)
theorem vb_lt {s : Nat} (hs : s < 7) : Nat.blt (2000 + s) (vmBase + 7) = true := Nat.ble_eq_true_of_le (show 2000 + s + 1 ≤ 2000 + 7 by omega)
theorem vb_sub (s : Nat) : 2000 + s - vmBase = s := show 2000 + s - 2000 = s by omega
theorem ct_slen {k pc tg j k' s : Nat} {y : List Nat} {cv : Int32} {w : vmW} {lo : vmL} {st : List Value} {Q : Option Value → vmW → Prop} (hI : mI k pc = some (.invokevirtual j, 3, cv, tg)) (hM : rM (mC k) j = some (7, k', y)) (hs : s < 7) (hc : Nat.ble (vmCat st) 8 = true) (h : vmWp k (pc + 3) lo (.int (nI (sB s).length) :: st) w Q) : vmWp k pc lo (.ref (2000 + s) :: st) w Q := by
  refine vmWp.one hI ?_ h
  show vmInvoke pc lo w (rM (mC k) j) (.ref (2000 + s) :: st) = _
  rw [hM]
  unfold vmInvoke
  dsimp only
  rw [vb_le, vb_lt hs, hc, vb_sub]
  rfl
theorem ct_schr {k pc tg j k' s i : Nat} {y : List Nat} {cv : Int32} {w : vmW} {lo : vmL} {st : List Value} {Q : Option Value → vmW → Prop} (hI : mI k pc = some (.invokevirtual j, 3, cv, tg)) (hM : rM (mC k) j = some (8, k', y)) (hs : s < 7) (hi : i < (sB s).length) (hi2 : i < 2147483648) (hc : Nat.ble (vmCat st) 8 = true) (h : vmWp k (pc + 3) lo (.int ((sB s).getD i 0) :: st) w Q) : vmWp k pc lo (.int (nI i) :: .ref (2000 + s) :: st) w Q := by
  refine vmWp.one hI ?_ h
  show vmInvoke pc lo w (rM (mC k) j) (.int (nI i) :: .ref (2000 + s) :: st) = _
  rw [hM]
  unfold vmInvoke
  dsimp only
  have e : (nI i).toNatClampNeg = i := nI_clamp (by omega)
  rw [vb_le, vb_lt hs, hc, vb_sub, e]
  exact if_pos (fun q => q.elim (nI_nlt (b := 0) (by omega) (by omega)) (fun q => absurd hi (Nat.not_lt.mpr q)))
theorem ct_lld {k pc tg n m L o j : Nat} {cv : Int32} {l : List (Nat × Nat)} {d : vmD} {lo : vmL} {st : List Value} {Q : Option Value → vmW → Prop} (hI : mI k pc = some (.laload, 1, cv, tg)) (hk : vmIs (wK n l m L d) o 23 = true) (hj : j < S0n L o) (hj2 : j < 2147483648) (h : vmWp k (pc + 1) lo (.long (gL d o j) :: st) (wK n l m L d) Q) : vmWp k pc lo (.int (nI j) :: .ref o :: st) (wK n l m L d) Q := by
  refine vmWp.one hI ?_ h
  delta vmAct
  dsimp only
  rw [hk, cond_true]
  have hc : (nI j).toNatClampNeg = j := nI_clamp (by omega)
  rw [if_pos (show ¬ (nI j < (0 : Int32) ∨ (wK n l m L d).1.2.2.2.1 o ≤ (nI j).toNatClampNeg) from fun q => q.elim (nI_nlt (b := 0) (by omega) (by omega)) (fun q => by rw [hc] at q; exact absurd hj (Nat.not_lt.mpr q))), hc]
  rfl
theorem ct_lst {k pc tg n m L o j : Nat} {cv : Int32} {x : Int64} {l : List (Nat × Nat)} {d : vmD} {lo : vmL} {st : List Value} {Q : Option Value → vmW → Prop} (hI : mI k pc = some (.lastore, 1, cv, tg)) (hk : vmIs (wK n l m L d) o 23 = true) (hj : j < S0n L o) (hj2 : j < 2147483648) (h : vmWp k (pc + 1) lo st (wK n l m L (sL d o j x)) Q) : vmWp k pc lo (.long x :: .int (nI j) :: .ref o :: st) (wK n l m L d) Q := by
  refine vmWp.one hI ?_ h
  delta vmAct
  dsimp only
  rw [hk, cond_true]
  have hc : (nI j).toNatClampNeg = j := nI_clamp (by omega)
  rw [if_pos (show ¬ (nI j < (0 : Int32) ∨ (wK n l m L d).1.2.2.2.1 o ≤ (nI j).toNatClampNeg) from fun q => q.elim (nI_nlt (b := 0) (by omega) (by omega)) (fun q => by rw [hc] at q; exact absurd hj (Nat.not_lt.mpr q))), hc]
  rfl
noncomputable def dgcC (c : Int32) : Bool := match pRun 60 135 0 [(0, .int c)] [] with
  | some (some (.int x)) => decide (x = Names_digitOf_v c)
  | _ => false
set_option maxRecDepth 100000 in
theorem dgcC_all : (List.range 7).all (fun s => (sB s).all (fun c => dgcC c)) = true := by decide +kernel
theorem dig_of {s : Nat} (hs : s < 7) {c : Int32} (hc : c ∈ sB s) (w : vmW) : vmRun 60 135 0 [(0, .int c)] [] w = some (some (.int (Names_digitOf_v c)), w) := by
  have h := List.all_eq_true.mp (rg_all dgcC_all hs) c hc
  unfold dgcC at h
  cases e : pRun 60 135 0 [(0, .int c)] [] with
  | none => rw [e] at h; cases h
  | some y =>
    rw [e] at h
    cases y with
    | none => cases h
    | some v =>
      cases v with
      | int x =>
        obtain rfl : x = Names_digitOf_v c := of_decide_eq_true h
        exact pRun_ok w 60 e
      | _ => cases h
theorem lgrW {s : Nat} (hs : s < 7) {c : Int32} (hc : c ∈ sB s) {K : Int64} {w : vmW} {Q : Option Value → vmW → Prop} (h : Q (some (.long (lgr K c))) w) : vmWp 136 0 [(0, .long K), (2, .int c)] [] w Q := by
  refine st_go 4 (pc' := 6) (lo' := [(0, .long K), (2, .int c)]) (st' := [.int c, .long (K * 38)]) rfl ?_
  refine vmWp.call (k' := 135) (args := [.int c]) (rest := [.long (K * 38)]) rfl rfl ⟨60, _, _, dig_of hs hc _, ?_⟩
  refine st_go 4 (pc' := 15) (lo' := [(0, .long K), (2, .int c)]) (st' := [.long (lgr K c)]) rfl ?_
  exact vmWp.ret rfl rfl h
theorem spcN_le : ∀ (t : List Int32) (id : Nat), id ≤ spcN t id
  | [], id => Nat.le_refl _
  | c :: t, id => by
    unfold spcN
    split
    · exact Nat.le_trans (Nat.le_succ id) (spcN_le t (id + 1))
    · exact spcN_le t id
theorem rsvLoop {L s : Nat} (hs : s < 7) {Q : Option Value → vmW → Prop} {q : List Int32} : ∀ (t p : List Int32) (id : Nat) (d : vmD), p ++ t = sB s → p.length + t.length < 100000 → spcN t id < 107 → id < 107 → Q (some (.int (nI (spcN t id + 1)))) (wRsv L (rsvF t id d)) → vmWp 134 5 [(4, .int (nI p.length)), (3, .int (nI id)), (0, .ref 3), (1, .ref (2000 + s))] [] (wRsv L d) Q := by
  intro t
  induction t with
  | nil =>
    intro p id d hp hl hn hid h
    have e : (sB s).length = p.length := by rw [← hp, List.append_nil]
    refine st_go 2 (pc' := 8) (lo' := [(4, .int (nI p.length)), (3, .int (nI id)), (0, .ref 3), (1, .ref (2000 + s))]) (st' := [.ref (2000 + s), .int (nI p.length)]) rfl ?_
    refine ct_slen rfl rfl hs rfl ?_
    rw [e]
    refine st_icmp (t := 78) (b := true) rfl (decide_eq_true (Int32.le_refl _)) rfl ?_
    refine st_go 3 (pc' := 81) (lo' := [(4, .int (nI p.length)), (3, .int (nI id)), (0, .ref 3), (1, .ref (2000 + s))]) (st' := [.int (nI id + 1)]) rfl ?_
    rw [nI_p1]
    exact vmWp.ret rfl rfl h
  | cons c t ih =>
    intro p id d hp hl hn hid h
    have hl2 : p.length + (t.length + 1) < 100000 := hl
    have e : (sB s).length = p.length + (t.length + 1) := by rw [← hp, List.length_append]; rfl
    have hc : (sB s).getD p.length 0 = c := by
      rw [← hp, List.getD_eq_getElem?_getD, List.getElem?_append_right (Nat.le_refl _), Nat.sub_self]
      rfl
    have hm : c ∈ sB s := by
      rw [← hp]
      exact List.mem_append_right _ List.mem_cons_self
    have ih := ih (p ++ [c])
    have el : (p ++ [c]).length = p.length + 1 := by rw [List.length_append]; rfl
    rw [el] at ih
    have ha : p ++ [c] ++ t = sB s := by rw [List.append_assoc]; exact hp
    refine st_go 2 (pc' := 8) (lo' := [(4, .int (nI p.length)), (3, .int (nI id)), (0, .ref 3), (1, .ref (2000 + s))]) (st' := [.ref (2000 + s), .int (nI p.length)]) rfl ?_
    refine ct_slen rfl rfl hs rfl ?_
    rw [e]
    refine st_icmp (t := 14) (b := false) rfl (decide_eq_false (fun q => Int32.not_lt.mpr q (nI_lt (by omega) (by omega)))) rfl ?_
    refine st_go 2 (pc' := 17) (lo' := [(4, .int (nI p.length)), (3, .int (nI id)), (0, .ref 3), (1, .ref (2000 + s))]) (st' := [.int (nI p.length), .ref (2000 + s)]) rfl ?_
    refine ct_schr rfl rfl hs (by omega) (by omega) rfl ?_
    rw [hc]
    refine st_go 3 (pc' := 26) (lo' := [(5, .int c), (4, .int (nI p.length)), (3, .int (nI id)), (0, .ref 3), (1, .ref (2000 + s))]) (st' := [.int 32, .int c]) rfl ?_
    unfold rsvF spcN at h
    unfold spcN at hn
    by_cases c32 : c = 32
    · rw [if_pos c32] at hn
      rw [if_pos c32, if_pos c32] at h
      refine st_icmp (t := 29) (b := false) rfl (decide_eq_false (fun q => q c32)) rfl ?_
      refine st_go 4 (pc' := 5) (lo' := [(4, .int (nI p.length + 1)), (3, .int (nI id + 1)), (5, .int c), (0, .ref 3), (1, .ref (2000 + s))]) (st' := []) rfl ?_
      rw [nI_p1, nI_p1]
      refine vmWp.sub (lo' := [(4, .int (nI (p.length + 1))), (3, .int (nI (id + 1))), (0, .ref 3), (1, .ref (2000 + s))]) ⟨rfl, rfl, rfl, rfl, trivial⟩ ?_
      have hge : id + 1 ≤ spcN t (id + 1) := spcN_le t (id + 1)
      exact ih (id + 1) d ha (by omega) hn (by omega) h
    · rw [if_neg c32] at hn
      rw [if_neg c32, if_neg c32] at h
      refine st_icmp (t := 35) (b := true) rfl (decide_eq_true c32) rfl ?_
      refine st_go 2 (pc' := 39) (lo' := [(5, .int c), (4, .int (nI p.length)), (3, .int (nI id)), (0, .ref 3), (1, .ref (2000 + s))]) (st' := [.int 45, .int c]) rfl ?_
      have fin : ∀ d', Q (some (.int (nI (spcN t id + 1)))) (wRsv L (rsvF t id d')) → vmWp 134 72 [(5, .int c), (4, .int (nI p.length)), (3, .int (nI id)), (0, .ref 3), (1, .ref (2000 + s))] [] (wRsv L d') Q := by
        intro d' h'
        refine st_go 2 (pc' := 5) (lo' := [(4, .int (nI p.length + 1)), (5, .int c), (3, .int (nI id)), (0, .ref 3), (1, .ref (2000 + s))]) (st' := []) rfl ?_
        rw [nI_p1]
        refine vmWp.sub (lo' := [(4, .int (nI (p.length + 1))), (3, .int (nI id)), (0, .ref 3), (1, .ref (2000 + s))]) ⟨rfl, rfl, rfl, rfl, trivial⟩ ?_
        exact ih id d' ha (by omega) hn hid h'
      by_cases c45 : c = 45
      · rw [if_pos c45] at h
        refine st_icmp (t := 72) (b := true) rfl (decide_eq_true c45) rfl ?_
        exact fin d h
      · rw [if_neg c45] at h
        refine st_icmp (t := 42) (b := false) rfl (decide_eq_false c45) rfl ?_
        refine st_go 1 (pc' := 43) (lo' := [(5, .int c), (4, .int (nI p.length)), (3, .int (nI id)), (0, .ref 3), (1, .ref (2000 + s))]) (st' := [.int (nI id)]) rfl ?_
        refine st_if (t := 46) (b := false) rfl (decide_eq_false (nI_nlt (b := 0) (by omega) (by omega))) rfl ?_
        refine st_go 3 (pc' := 51) (lo' := [(5, .int c), (4, .int (nI p.length)), (3, .int (nI id)), (0, .ref 3), (1, .ref (2000 + s))]) (st' := [.ref 4, .int (nI id)]) rfl ?_
        refine ct_len rfl rfl ?_
        refine st_icmp (t := 55) (b := false) rfl (decide_eq_false (fun q => Int32.not_lt.mpr q (nI_lt (b := 107) (by omega) (by omega)))) rfl ?_
        refine st_go 6 (pc' := 65) (lo' := [(5, .int c), (4, .int (nI p.length)), (3, .int (nI id)), (0, .ref 3), (1, .ref (2000 + s))]) (st' := [.int (nI id), .ref 4, .int (nI id), .ref 4]) rfl ?_
        refine ct_lld rfl rfl (show id < 107 from hid) (by omega) ?_
        refine st_go 1 (pc' := 68) (lo' := [(5, .int c), (4, .int (nI p.length)), (3, .int (nI id)), (0, .ref 3), (1, .ref (2000 + s))]) (st' := [.int c, .long (gL d 4 id), .int (nI id), .ref 4]) rfl ?_
        refine vmWp.call (k' := 136) (args := [.long (gL d 4 id), .int c]) (rest := [.int (nI id), .ref 4]) rfl rfl (lgrW hs hm ?_)
        refine ct_lst (j := id) rfl rfl (show id < 107 from hid) (by omega) ?_
        exact fin _ h
theorem rsvW {L : Nat} : RsvOk L := by
  intro s id ans d Q hs hn ha h
  have hle := spcN_le (sB s) id
  refine st_go 4 (pc' := 5) (lo' := [(4, .int 0), (3, .int (nI id)), (0, .ref 3), (1, .ref (2000 + s)), (2, .int (nI id))]) (st' := []) rfl ?_
  refine vmWp.sub (lo' := [(4, .int (nI 0)), (3, .int (nI id)), (0, .ref 3), (1, .ref (2000 + s))]) ⟨rfl, rfl, rfl, rfl, trivial⟩ ?_
  refine rsvLoop hs (q := []) (sB s) [] id d rfl ?_ hn (by omega) ?_
  · have := (sB_lens hs).2.2
    show 0 + (sB s).length < 100000
    omega
  · rw [ha]
    exact h
