/-! The decompiled program, 4.6 -/
set_option maxRecDepth 100000 in
def MO_isPlace_32 (b12 : Int32 → Int32 → Int32 → Int32 → vmD → Prop) (x1 : Int32) (x2 : Int32) (x3 : Int32) (d : vmD) (Q : Int32 → vmD → Prop) : Prop :=
  b12 x1 x2 x3 0 d
set_option maxRecDepth 100000 in
set_option maxHeartbeats 4000000 in
theorem tMO_isPlace_32 {L : Nat} {e : vmD} {Qo : Option Value → vmW → Prop} {b12 : Int32 → Int32 → Int32 → Int32 → vmD → Prop} {Q : Int32 → vmD → Prop} (hb12 : ∀ x1 x2 x3 x4 d, b12 x1 x2 x3 x4 d → vmWp 278 12 [(0, .ref 42), (1, .int x1), (2, .int x2), (3, .int x3), (4, .int x4)] [] (wR L d e) Qo) (hQ : ∀ r d, Q r d → Qo (some (.int r)) (wR L d e)) (x1 : Int32) (x2 : Int32) (x3 : Int32) (d : vmD) (h : MO_isPlace_32 b12 x1 x2 x3 d Q) : vmWp 278 32 [(0, .ref 42), (1, .int x1), (2, .int x2), (3, .int x3)] [] (wR L d e) Qo := by
  unfold MO_isPlace_32 at h
  refine st_go 3 (pc' := 12) (lo' := [(4, .int 0), (0, .ref 42), (1, .int x1), (2, .int x2), (3, .int x3)]) (st' := []) rfl ?_
  refine vmWp.sub (lo' := [(0, .ref 42), (1, .int x1), (2, .int x2), (3, .int x3), (4, .int 0)]) ⟨rfl, rfl, rfl, rfl, rfl, trivial⟩ ?_
  exact hb12 x1 x2 x3 0 d h
set_option maxRecDepth 100000 in
def MO_isPlace_66 (b12 : Int32 → Int32 → Int32 → Int32 → vmD → Prop) (x1 : Int32) (x3 : Int32) (x4 : Int32) (s0 : Int32) (s1 : Int32) (d : vmD) (Q : Int32 → vmD → Prop) : Prop :=
  bnd (s1 + s0) fun x2_12 =>
  MO_next d fun d_13 =>
  if x2_12 = 0 then
  (MO_endsOperand d_13 fun r_16 d_15 =>
  b12 x1 x2_12 r_16 0 d_15)
  else
  (b12 x1 x2_12 x3 x4 d_13)
set_option maxRecDepth 100000 in
set_option maxHeartbeats 4000000 in
theorem tMO_isPlace_66 {L : Nat} {e : vmD} {Qo : Option Value → vmW → Prop} {b12 : Int32 → Int32 → Int32 → Int32 → vmD → Prop} {Q : Int32 → vmD → Prop} (hb12 : ∀ x1 x2 x3 x4 d, b12 x1 x2 x3 x4 d → vmWp 278 12 [(0, .ref 42), (1, .int x1), (2, .int x2), (3, .int x3), (4, .int x4)] [] (wR L d e) Qo) (hQ : ∀ r d, Q r d → Qo (some (.int r)) (wR L d e)) (x1 : Int32) (x3 : Int32) (x4 : Int32) (s0 : Int32) (s1 : Int32) (d : vmD) (h : MO_isPlace_66 b12 x1 x3 x4 s0 s1 d Q) : vmWp 278 66 [(0, .ref 42), (1, .int x1), (3, .int x3), (4, .int x4)] [.int s0, .int s1] (wR L d e) Qo := by
  unfold MO_isPlace_66 at h
  refine st_go 2 (pc' := 68) (lo' := [(2, .int (s1 + s0)), (0, .ref 42), (1, .int x1), (3, .int x3), (4, .int x4)]) (st' := []) rfl ?_
  refine st_locI (fun x2_12 hy_x2_12 => ?_)
  have h := h x2_12 hy_x2_12
  refine st_go 1 (pc' := 69) (lo' := [(2, .int x2_12), (0, .ref 42), (1, .int x1), (3, .int x3), (4, .int x4)]) (st' := [.ref 42]) rfl ?_
  refine st_callv (k' := 252) (as := [.ref 42]) (rest := []) (lo' := [(0, .ref 42)]) (wf := fun d => wR L d e) rfl rfl rfl ?_
  refine tMO_next (fun d_13 h => ⟨d_13, rfl, rfl, ?_⟩) d h
  refine st_go 1 (pc' := 73) (lo' := [(2, .int x2_12), (0, .ref 42), (1, .int x1), (3, .int x3), (4, .int x4)]) (st' := [.int x2_12]) rfl ?_
  by_cases hc_14 : x2_12 = 0
  · have h := Eq.mp (if_pos hc_14) h
    refine st_if (t := 76) (b := false) rfl (decide_eq_false (fun z => z hc_14)) rfl ?_
    refine st_go 1 (pc' := 77) (lo' := [(2, .int x2_12), (0, .ref 42), (1, .int x1), (3, .int x3), (4, .int x4)]) (st' := [.ref 42]) rfl ?_
    refine st_calli (k' := 277) (as := [.ref 42]) (rest := []) (lo' := [(0, .ref 42)]) (wf := fun d => wR L d e) rfl rfl rfl ?_
    refine tMO_endsOperand (fun r_16 d_15 h => ⟨r_16, d_15, rfl, rfl, ?_⟩) d_13 h
    refine st_go 4 (pc' := 12) (lo' := [(4, .int 0), (3, .int r_16), (2, .int x2_12), (0, .ref 42), (1, .int x1)]) (st' := []) rfl ?_
    refine vmWp.sub (lo' := [(0, .ref 42), (1, .int x1), (2, .int x2_12), (3, .int r_16), (4, .int 0)]) ⟨rfl, rfl, rfl, rfl, rfl, trivial⟩ ?_
    exact hb12 x1 x2_12 r_16 0 d_15 h
  · have h := Eq.mp (if_neg hc_14) h
    refine st_if (t := 12) (b := true) rfl (decide_eq_true hc_14) rfl ?_
    refine vmWp.sub (lo' := [(0, .ref 42), (1, .int x1), (2, .int x2_12), (3, .int x3), (4, .int x4)]) ⟨rfl, rfl, rfl, rfl, rfl, trivial⟩ ?_
    exact hb12 x1 x2_12 x3 x4 d_13 h
set_option maxRecDepth 100000 in
def MO_isPlace_12 (Q : Int32 → vmD → Prop) : Nat → Int32 → Int32 → Int32 → Int32 → vmD → Prop
  | 0, _, _, _, _, _ => False
  | n + 1, x1, x2, x3, x4, d => if x4 = 0 then
  (MO_goTo x1 d fun d_3 =>
  (x3 = 0 ∨ x3 = 1) ∧ Q x3 d_3)
  else
  (if (gF d 42 3) = 1 then
  (MO_isPlace_32 (MO_isPlace_12 Q n) x1 x2 x3 d Q)
  else
  (if (gF d 42 3) = 0 then
  (MO_isPlace_32 (MO_isPlace_12 Q n) x1 x2 x3 d Q)
  else
  (MO_isSign 40 d fun r_7 d_6 =>
  if r_7 = 0 then
  (MO_isSign 41 d_6 fun r_10 d_9 =>
  if r_10 = 0 then
  (MO_isPlace_66 (MO_isPlace_12 Q n) x1 x3 x4 0 x2 d_9 Q)
  else
  (MO_isPlace_66 (MO_isPlace_12 Q n) x1 x3 x4 (-1) x2 d_9 Q))
  else
  (MO_isPlace_66 (MO_isPlace_12 Q n) x1 x3 x4 1 x2 d_6 Q))))
set_option maxRecDepth 100000 in
set_option maxHeartbeats 4000000 in
theorem tMO_isPlace_12 {L : Nat} {e : vmD} {Qo : Option Value → vmW → Prop} {Q : Int32 → vmD → Prop} (hQ : ∀ r d, Q r d → Qo (some (.int r)) (wR L d e)) : ∀ (n : Nat) (x1 : Int32) (x2 : Int32) (x3 : Int32) (x4 : Int32) (d : vmD), MO_isPlace_12 Q n x1 x2 x3 x4 d → vmWp 278 12 [(0, .ref 42), (1, .int x1), (2, .int x2), (3, .int x3), (4, .int x4)] [] (wR L d e) Qo := by
  intro n
  induction n with
  | zero => intro x1 x2 x3 x4 d h; exact h.elim
  | succ n ih =>
    intro x1 x2 x3 x4 d h
    unfold MO_isPlace_12 at h
    refine st_go 1 (pc' := 14) (lo' := [(0, .ref 42), (1, .int x1), (2, .int x2), (3, .int x3), (4, .int x4)]) (st' := [.int x4]) rfl ?_
    by_cases hc_2 : x4 = 0
    · have h := Eq.mp (if_pos hc_2) h
      refine st_if (t := 87) (b := true) rfl (decide_eq_true hc_2) rfl ?_
      refine st_go 2 (pc' := 89) (lo' := [(0, .ref 42), (1, .int x1), (2, .int x2), (3, .int x3), (4, .int x4)]) (st' := [.int x1, .ref 42]) rfl ?_
      refine st_callv (k' := 258) (as := [.ref 42, .int x1]) (rest := []) (lo' := [(0, .ref 42), (1, .int x1)]) (wf := fun d => wR L d e) rfl rfl rfl ?_
      refine tMO_goTo (fun d_3 h => ⟨d_3, rfl, rfl, ?_⟩) x1 d h
      refine st_go 1 (pc' := 93) (lo' := [(0, .ref 42), (1, .int x1), (2, .int x2), (3, .int x3), (4, .int x4)]) (st' := [.int x3]) rfl ?_
      exact st_retZ rfl rfl h.1 (hQ _ _ h.2)
    · have h := Eq.mp (if_neg hc_2) h
      refine st_if (t := 17) (b := false) rfl (decide_eq_false hc_2) rfl ?_
      refine st_go 3 (pc' := 22) (lo' := [(0, .ref 42), (1, .int x1), (2, .int x2), (3, .int x3), (4, .int x4)]) (st' := [.int 1, .int (gF d 42 3)]) rfl ?_
      by_cases hc_4 : (gF d 42 3) = 1
      · have h := Eq.mp (if_pos hc_4) h
        refine st_icmp (t := 32) (b := true) rfl (decide_eq_true hc_4) rfl ?_
        refine vmWp.sub (lo' := [(0, .ref 42), (1, .int x1), (2, .int x2), (3, .int x3)]) ⟨rfl, rfl, rfl, rfl, trivial⟩ ?_
        exact tMO_isPlace_32 ih hQ x1 x2 x3 d h
      · have h := Eq.mp (if_neg hc_4) h
        refine st_icmp (t := 25) (b := false) rfl (decide_eq_false hc_4) rfl ?_
        refine st_go 2 (pc' := 29) (lo' := [(0, .ref 42), (1, .int x1), (2, .int x2), (3, .int x3), (4, .int x4)]) (st' := [.int (gF d 42 3)]) rfl ?_
        by_cases hc_5 : (gF d 42 3) = 0
        · have h := Eq.mp (if_pos hc_5) h
          refine st_if (t := 32) (b := false) rfl (decide_eq_false (fun z => z hc_5)) rfl ?_
          refine vmWp.sub (lo' := [(0, .ref 42), (1, .int x1), (2, .int x2), (3, .int x3)]) ⟨rfl, rfl, rfl, rfl, trivial⟩ ?_
          exact tMO_isPlace_32 ih hQ x1 x2 x3 d h
        · have h := Eq.mp (if_neg hc_5) h
          refine st_if (t := 38) (b := true) rfl (decide_eq_true hc_5) rfl ?_
          refine st_go 3 (pc' := 42) (lo' := [(0, .ref 42), (1, .int x1), (2, .int x2), (3, .int x3), (4, .int x4)]) (st' := [.int 40, .ref 42, .int x2]) rfl ?_
          refine st_calli (k' := 257) (as := [.ref 42, .int 40]) (rest := [.int x2]) (lo' := [(0, .ref 42), (1, .int 40)]) (wf := fun d => wR L d e) rfl rfl rfl ?_
          refine tMO_isSign (fun r_7 d_6 h => ⟨r_7, d_6, rfl, rfl, ?_⟩) 40 d h
          by_cases hc_8 : r_7 = 0
          · have h := Eq.mp (if_pos hc_8) h
            refine st_if (t := 52) (b := true) rfl (decide_eq_true hc_8) rfl ?_
            refine st_go 2 (pc' := 55) (lo' := [(0, .ref 42), (1, .int x1), (2, .int x2), (3, .int x3), (4, .int x4)]) (st' := [.int 41, .ref 42, .int x2]) rfl ?_
            refine st_calli (k' := 257) (as := [.ref 42, .int 41]) (rest := [.int x2]) (lo' := [(0, .ref 42), (1, .int 41)]) (wf := fun d => wR L d e) rfl rfl rfl ?_
            refine tMO_isSign (fun r_10 d_9 h => ⟨r_10, d_9, rfl, rfl, ?_⟩) 41 d_6 h
            by_cases hc_11 : r_10 = 0
            · have h := Eq.mp (if_pos hc_11) h
              refine st_if (t := 65) (b := true) rfl (decide_eq_true hc_11) rfl ?_
              refine st_go 1 (pc' := 66) (lo' := [(0, .ref 42), (1, .int x1), (2, .int x2), (3, .int x3), (4, .int x4)]) (st' := [.int 0, .int x2]) rfl ?_
              refine vmWp.sub (lo' := [(0, .ref 42), (1, .int x1), (3, .int x3), (4, .int x4)]) ⟨rfl, rfl, rfl, rfl, trivial⟩ ?_
              exact tMO_isPlace_66 ih hQ x1 x3 x4 0 x2 d_9 h
            · have h := Eq.mp (if_neg hc_11) h
              refine st_if (t := 61) (b := false) rfl (decide_eq_false hc_11) rfl ?_
              refine st_go 2 (pc' := 66) (lo' := [(0, .ref 42), (1, .int x1), (2, .int x2), (3, .int x3), (4, .int x4)]) (st' := [.int (-1), .int x2]) rfl ?_
              refine vmWp.sub (lo' := [(0, .ref 42), (1, .int x1), (3, .int x3), (4, .int x4)]) ⟨rfl, rfl, rfl, rfl, trivial⟩ ?_
              exact tMO_isPlace_66 ih hQ x1 x3 x4 (-1) x2 d_9 h
          · have h := Eq.mp (if_neg hc_8) h
            refine st_if (t := 48) (b := false) rfl (decide_eq_false hc_8) rfl ?_
            refine st_go 2 (pc' := 66) (lo' := [(0, .ref 42), (1, .int x1), (2, .int x2), (3, .int x3), (4, .int x4)]) (st' := [.int 1, .int x2]) rfl ?_
            refine vmWp.sub (lo' := [(0, .ref 42), (1, .int x1), (3, .int x3), (4, .int x4)]) ⟨rfl, rfl, rfl, rfl, trivial⟩ ?_
            exact tMO_isPlace_66 ih hQ x1 x3 x4 1 x2 d_6 h
set_option maxRecDepth 100000 in
def MO_isPlace (d : vmD) (Q : Int32 → vmD → Prop) : Prop :=
  bnd (gF d 42 4) fun x1_1 =>
  ∃ m12, MO_isPlace_12 Q m12 x1_1 0 0 1 d
set_option maxRecDepth 100000 in
set_option maxHeartbeats 4000000 in
theorem tMO_isPlace {L : Nat} {e : vmD} {Qo : Option Value → vmW → Prop} {Q : Int32 → vmD → Prop} (hQ : ∀ r d, Q r d → Qo (some (.int r)) (wR L d e)) (d : vmD) (h : MO_isPlace d Q) : vmWp 278 0 [(0, .ref 42)] [] (wR L d e) Qo := by
  unfold MO_isPlace at h
  refine st_go 3 (pc' := 5) (lo' := [(1, .int (gF d 42 4)), (0, .ref 42)]) (st' := []) rfl ?_
  refine st_locI (fun x1_1 hy_x1_1 => ?_)
  have h := h x1_1 hy_x1_1
  refine st_go 6 (pc' := 12) (lo' := [(4, .int 1), (3, .int 0), (2, .int 0), (1, .int x1_1), (0, .ref 42)]) (st' := []) rfl ?_
  obtain ⟨m12, h⟩ := h
  refine vmWp.sub (lo' := [(0, .ref 42), (1, .int x1_1), (2, .int 0), (3, .int 0), (4, .int 1)]) ⟨rfl, rfl, rfl, rfl, rfl, trivial⟩ ?_
  exact tMO_isPlace_12 hQ m12 x1_1 0 0 1 d h
set_option maxRecDepth 100000 in
def MO_readPlace_290 (x1 : Int32) (d : vmD) (Q : Int32 → vmD → Prop) : Prop :=
  ixOk x1 8 ∧
  bnd (sA d 50 x1.toNatClampNeg (15 : Int32)) fun d_7 =>
  ixOk x1 8 ∧
  bnd (sA d_7 52 x1.toNatClampNeg (gF d_7 42 4)) fun d_9 =>
  MO_expression 0 d_9 fun r_11 d_10 =>
  if r_11 = 0 then
  (Q 0 d_10)
  else
  (MO_isSign 41 d_10 fun r_14 d_13 =>
  if r_14 = 0 then
  (MO_refuse d_13 fun r_17 d_16 =>
  (r_17 = 0 ∨ r_17 = 1) ∧ Q r_17 d_16)
  else
  (MO_next d_13 fun d_18 =>
  MO_endsOperand d_18 fun r_20 d_19 =>
  if r_20 = 0 then
  (MO_refuse d_19 fun r_23 d_22 =>
  if r_23 = 0 then
  (Q 0 d_22)
  else
  (Q 1 d_22))
  else
  (Q 1 d_19)))
set_option maxRecDepth 100000 in
set_option maxHeartbeats 4000000 in
theorem tMO_readPlace_290 {L : Nat} {e : vmD} {Qo : Option Value → vmW → Prop} {Q : Int32 → vmD → Prop} (hQ : ∀ r d, Q r d → Qo (some (.int r)) (wR L d e)) (x1 : Int32) (d : vmD) (h : MO_readPlace_290 x1 d Q) : vmWp 281 290 [(0, .ref 42), (1, .int x1)] [] (wR L d e) Qo := by
  unfold MO_readPlace_290 at h
  refine st_go 4 (pc' := 297) (lo' := [(0, .ref 42), (1, .int x1)]) (st' := [.int 15, .int x1, .ref 50]) rfl ?_
  obtain ⟨hj_6, h⟩ := h
  refine st_iastR (o := 50) rfl rfl hj_6 rfl (fun d_7 hy_d_7 => ?_)
  have h := h d_7 hy_d_7
  refine st_go 5 (pc' := 307) (lo' := [(0, .ref 42), (1, .int x1)]) (st' := [.int (gF d_7 42 4), .int x1, .ref 52]) rfl ?_
  obtain ⟨hj_8, h⟩ := h
  refine st_iastR (o := 52) rfl rfl hj_8 rfl (fun d_9 hy_d_9 => ?_)
  have h := h d_9 hy_d_9
  refine st_go 2 (pc' := 310) (lo' := [(0, .ref 42), (1, .int x1)]) (st' := [.int 0, .ref 42]) rfl ?_
  refine st_calli (k' := 269) (as := [.ref 42, .int 0]) (rest := []) (lo' := [(0, .ref 42), (1, .int 0)]) (wf := fun d => wR L d e) rfl rfl rfl ?_
  refine tMO_expression (fun r_11 d_10 h => ⟨r_11, d_10, rfl, rfl, ?_⟩) 0 d_9 h
  by_cases hc_12 : r_11 = 0
  · have h := Eq.mp (if_pos hc_12) h
    refine st_if (t := 316) (b := false) rfl (decide_eq_false (fun z => z hc_12)) rfl ?_
    refine st_go 1 (pc' := 317) (lo' := [(0, .ref 42), (1, .int x1)]) (st' := [.int 0]) rfl ?_
    exact st_retZ rfl rfl (Or.inl rfl) (hQ _ _ h)
  · have h := Eq.mp (if_neg hc_12) h
    refine st_if (t := 318) (b := true) rfl (decide_eq_true hc_12) rfl ?_
    refine st_go 2 (pc' := 321) (lo' := [(0, .ref 42), (1, .int x1)]) (st' := [.int 41, .ref 42]) rfl ?_
    refine st_calli (k' := 257) (as := [.ref 42, .int 41]) (rest := []) (lo' := [(0, .ref 42), (1, .int 41)]) (wf := fun d => wR L d e) rfl rfl rfl ?_
    refine tMO_isSign (fun r_14 d_13 h => ⟨r_14, d_13, rfl, rfl, ?_⟩) 41 d_10 h
    by_cases hc_15 : r_14 = 0
    · have h := Eq.mp (if_pos hc_15) h
      refine st_if (t := 327) (b := false) rfl (decide_eq_false (fun z => z hc_15)) rfl ?_
      refine st_go 1 (pc' := 328) (lo' := [(0, .ref 42), (1, .int x1)]) (st' := [.ref 42]) rfl ?_
      refine st_calli (k' := 246) (as := [.ref 42]) (rest := []) (lo' := [(0, .ref 42)]) (wf := fun d => wR L d e) rfl rfl rfl ?_
      refine tMO_refuse (fun r_17 d_16 h => ⟨r_17, d_16, rfl, rfl, ?_⟩) d_13 h
      exact st_retZ rfl rfl h.1 (hQ _ _ h.2)
    · have h := Eq.mp (if_neg hc_15) h
      refine st_if (t := 332) (b := true) rfl (decide_eq_true hc_15) rfl ?_
      refine st_go 1 (pc' := 333) (lo' := [(0, .ref 42), (1, .int x1)]) (st' := [.ref 42]) rfl ?_
      refine st_callv (k' := 252) (as := [.ref 42]) (rest := []) (lo' := [(0, .ref 42)]) (wf := fun d => wR L d e) rfl rfl rfl ?_
      refine tMO_next (fun d_18 h => ⟨d_18, rfl, rfl, ?_⟩) d_13 h
      refine st_go 1 (pc' := 337) (lo' := [(0, .ref 42), (1, .int x1)]) (st' := [.ref 42]) rfl ?_
      refine st_calli (k' := 277) (as := [.ref 42]) (rest := []) (lo' := [(0, .ref 42)]) (wf := fun d => wR L d e) rfl rfl rfl ?_
      refine tMO_endsOperand (fun r_20 d_19 h => ⟨r_20, d_19, rfl, rfl, ?_⟩) d_18 h
      by_cases hc_21 : r_20 = 0
      · have h := Eq.mp (if_pos hc_21) h
        refine st_if (t := 343) (b := false) rfl (decide_eq_false (fun z => z hc_21)) rfl ?_
        refine st_go 1 (pc' := 344) (lo' := [(0, .ref 42), (1, .int x1)]) (st' := [.ref 42]) rfl ?_
        refine st_calli (k' := 246) (as := [.ref 42]) (rest := []) (lo' := [(0, .ref 42)]) (wf := fun d => wR L d e) rfl rfl rfl ?_
        refine tMO_refuse (fun r_23 d_22 h => ⟨r_23, d_22, rfl, rfl, ?_⟩) d_19 h
        by_cases hc_24 : r_23 = 0
        · have h := Eq.mp (if_pos hc_24) h
          refine st_if (t := 354) (b := true) rfl (decide_eq_true hc_24) rfl ?_
          refine st_go 1 (pc' := 355) (lo' := [(0, .ref 42), (1, .int x1)]) (st' := [.int 0]) rfl ?_
          exact st_retZ rfl rfl (Or.inl rfl) (hQ _ _ h)
        · have h := Eq.mp (if_neg hc_24) h
          refine st_if (t := 350) (b := false) rfl (decide_eq_false hc_24) rfl ?_
          refine st_go 2 (pc' := 355) (lo' := [(0, .ref 42), (1, .int x1)]) (st' := [.int 1]) rfl ?_
          exact st_retZ rfl rfl (Or.inr rfl) (hQ _ _ h)
      · have h := Eq.mp (if_neg hc_21) h
        refine st_if (t := 350) (b := true) rfl (decide_eq_true hc_21) rfl ?_
        refine st_go 2 (pc' := 355) (lo' := [(0, .ref 42), (1, .int x1)]) (st' := [.int 1]) rfl ?_
        exact st_retZ rfl rfl (Or.inr rfl) (hQ _ _ h)
set_option maxRecDepth 100000 in
def MO_readPlace_285 (x1 : Int32) (x2 : Int32) (d : vmD) (Q : Int32 → vmD → Prop) : Prop :=
  MO_goTo x2 d fun d_43 =>
  MO_readPlace_290 x1 d_43 Q
set_option maxRecDepth 100000 in
set_option maxHeartbeats 4000000 in
theorem tMO_readPlace_285 {L : Nat} {e : vmD} {Qo : Option Value → vmW → Prop} {Q : Int32 → vmD → Prop} (hQ : ∀ r d, Q r d → Qo (some (.int r)) (wR L d e)) (x1 : Int32) (x2 : Int32) (d : vmD) (h : MO_readPlace_285 x1 x2 d Q) : vmWp 281 285 [(0, .ref 42), (1, .int x1), (2, .int x2)] [] (wR L d e) Qo := by
  unfold MO_readPlace_285 at h
  refine st_go 2 (pc' := 287) (lo' := [(0, .ref 42), (1, .int x1), (2, .int x2)]) (st' := [.int x2, .ref 42]) rfl ?_
  refine st_callv (k' := 258) (as := [.ref 42, .int x2]) (rest := []) (lo' := [(0, .ref 42), (1, .int x2)]) (wf := fun d => wR L d e) rfl rfl rfl ?_
  refine tMO_goTo (fun d_43 h => ⟨d_43, rfl, rfl, ?_⟩) x2 d h
  refine vmWp.sub (lo' := [(0, .ref 42), (1, .int x1)]) ⟨rfl, rfl, trivial⟩ ?_
  exact tMO_readPlace_290 hQ x1 d_43 h
set_option maxRecDepth 100000 in
def MO_readPlace_169 (x1 : Int32) (x3 : Int64) (d : vmD) (Q : Int32 → vmD → Prop) : Prop :=
  ixOk x1 8 ∧
  bnd (sA d 50 x1.toNatClampNeg (14 : Int32)) fun d_45 =>
  MO_index x3 d_45 fun r_47 d_46 =>
  ixOk x1 8 ∧
  bnd (sA d_46 51 x1.toNatClampNeg r_47) fun d_49 =>
  MO_isSign 41 d_49 fun r_51 d_50 =>
  ixOk x1 8 ∧
  bnd (sA d_50 54 x1.toNatClampNeg (r_51 &&& 1)) fun d_53 =>
  MO_isSign 45 d_53 fun r_55 d_54 =>
  ixOk x1 8 ∧
  bnd (sA d_54 53 x1.toNatClampNeg (r_55 &&& 1)) fun d_57 =>
  MO_next d_57 fun d_58 =>
  ixOk x1 8 ∧
  bnd (gA d_58 54 x1.toNatClampNeg) fun y_60 =>
  if y_60 = 0 then
  (ixOk x1 8 ∧
  bnd (sA d_58 52 x1.toNatClampNeg (gF d_58 42 4)) fun d_63 =>
  MO_expression 0 d_63 fun r_65 d_64 =>
  if r_65 = 0 then
  (Q 0 d_64)
  else
  (MO_isSign 41 d_64 fun r_68 d_67 =>
  if r_68 = 0 then
  (MO_refuse d_67 fun r_71 d_70 =>
  (r_71 = 0 ∨ r_71 = 1) ∧ Q r_71 d_70)
  else
  (MO_next d_67 fun d_72 =>
  MO_endsOperand d_72 fun r_74 d_73 =>
  if r_74 = 0 then
  (MO_refuse d_73 fun r_77 d_76 =>
  if r_77 = 0 then
  (Q 0 d_76)
  else
  (Q 1 d_76))
  else
  (Q 1 d_73))))
  else
  (Q 1 d_58)
set_option maxRecDepth 100000 in
set_option maxHeartbeats 4000000 in
theorem tMO_readPlace_169 {L : Nat} {e : vmD} {Qo : Option Value → vmW → Prop} {Q : Int32 → vmD → Prop} (hQ : ∀ r d, Q r d → Qo (some (.int r)) (wR L d e)) (x1 : Int32) (x3 : Int64) (d : vmD) (h : MO_readPlace_169 x1 x3 d Q) : vmWp 281 169 [(0, .ref 42), (1, .int x1), (3, .long x3)] [] (wR L d e) Qo := by
  unfold MO_readPlace_169 at h
  refine st_go 4 (pc' := 176) (lo' := [(0, .ref 42), (1, .int x1), (3, .long x3)]) (st' := [.int 14, .int x1, .ref 50]) rfl ?_
  obtain ⟨hj_44, h⟩ := h
  refine st_iastR (o := 50) rfl rfl hj_44 rfl (fun d_45 hy_d_45 => ?_)
  have h := h d_45 hy_d_45
  refine st_go 5 (pc' := 184) (lo' := [(0, .ref 42), (1, .int x1), (3, .long x3)]) (st' := [.long x3, .ref 42, .int x1, .ref 51]) rfl ?_
  refine st_calli (k' := 275) (as := [.ref 42, .long x3]) (rest := [.int x1, .ref 51]) (lo' := [(0, .ref 42), (1, .long x3)]) (wf := fun d => wR L d e) rfl rfl rfl ?_
  refine tMO_index (fun r_47 d_46 h => ⟨r_47, d_46, rfl, rfl, ?_⟩) x3 d_45 h
  obtain ⟨hj_48, h⟩ := h
  refine st_iastR (o := 51) rfl rfl hj_48 rfl (fun d_49 hy_d_49 => ?_)
  have h := h d_49 hy_d_49
  refine st_go 5 (pc' := 196) (lo' := [(0, .ref 42), (1, .int x1), (3, .long x3)]) (st' := [.int 41, .ref 42, .int x1, .ref 54]) rfl ?_
  refine st_calli (k' := 257) (as := [.ref 42, .int 41]) (rest := [.int x1, .ref 54]) (lo' := [(0, .ref 42), (1, .int 41)]) (wf := fun d => wR L d e) rfl rfl rfl ?_
  refine tMO_isSign (fun r_51 d_50 h => ⟨r_51, d_50, rfl, rfl, ?_⟩) 41 d_49 h
  obtain ⟨hj_52, h⟩ := h
  refine st_zastR (o := 54) rfl rfl rfl hj_52 rfl (fun d_53 hy_d_53 => ?_)
  have h := h d_53 hy_d_53
  refine st_go 5 (pc' := 208) (lo' := [(0, .ref 42), (1, .int x1), (3, .long x3)]) (st' := [.int 45, .ref 42, .int x1, .ref 53]) rfl ?_
  refine st_calli (k' := 257) (as := [.ref 42, .int 45]) (rest := [.int x1, .ref 53]) (lo' := [(0, .ref 42), (1, .int 45)]) (wf := fun d => wR L d e) rfl rfl rfl ?_
  refine tMO_isSign (fun r_55 d_54 h => ⟨r_55, d_54, rfl, rfl, ?_⟩) 45 d_53 h
  obtain ⟨hj_56, h⟩ := h
  refine st_zastR (o := 53) rfl rfl rfl hj_56 rfl (fun d_57 hy_d_57 => ?_)
  have h := h d_57 hy_d_57
  refine st_go 1 (pc' := 213) (lo' := [(0, .ref 42), (1, .int x1), (3, .long x3)]) (st' := [.ref 42]) rfl ?_
  refine st_callv (k' := 252) (as := [.ref 42]) (rest := []) (lo' := [(0, .ref 42)]) (wf := fun d => wR L d e) rfl rfl rfl ?_
  refine tMO_next (fun d_58 h => ⟨d_58, rfl, rfl, ?_⟩) d_57 h
  refine st_go 3 (pc' := 221) (lo' := [(0, .ref 42), (1, .int x1), (3, .long x3)]) (st' := [.int x1, .ref 54]) rfl ?_
  obtain ⟨hj_59, h⟩ := h
  refine st_zaldR (o := 54) rfl rfl hj_59 rfl (fun y_60 hy_y_60 => ?_)
  have h := h y_60 hy_y_60
  by_cases hc_61 : y_60 = 0
  · have h := Eq.mp (if_pos hc_61) h
    refine st_if (t := 227) (b := true) rfl (decide_eq_true hc_61) rfl ?_
    refine st_go 5 (pc' := 236) (lo' := [(0, .ref 42), (1, .int x1), (3, .long x3)]) (st' := [.int (gF d_58 42 4), .int x1, .ref 52]) rfl ?_
    obtain ⟨hj_62, h⟩ := h
    refine st_iastR (o := 52) rfl rfl hj_62 rfl (fun d_63 hy_d_63 => ?_)
    have h := h d_63 hy_d_63
    refine st_go 2 (pc' := 239) (lo' := [(0, .ref 42), (1, .int x1), (3, .long x3)]) (st' := [.int 0, .ref 42]) rfl ?_
    refine st_calli (k' := 269) (as := [.ref 42, .int 0]) (rest := []) (lo' := [(0, .ref 42), (1, .int 0)]) (wf := fun d => wR L d e) rfl rfl rfl ?_
    refine tMO_expression (fun r_65 d_64 h => ⟨r_65, d_64, rfl, rfl, ?_⟩) 0 d_63 h
    by_cases hc_66 : r_65 = 0
    · have h := Eq.mp (if_pos hc_66) h
      refine st_if (t := 245) (b := false) rfl (decide_eq_false (fun z => z hc_66)) rfl ?_
      refine st_go 1 (pc' := 246) (lo' := [(0, .ref 42), (1, .int x1), (3, .long x3)]) (st' := [.int 0]) rfl ?_
      exact st_retZ rfl rfl (Or.inl rfl) (hQ _ _ h)
    · have h := Eq.mp (if_neg hc_66) h
      refine st_if (t := 247) (b := true) rfl (decide_eq_true hc_66) rfl ?_
      refine st_go 2 (pc' := 250) (lo' := [(0, .ref 42), (1, .int x1), (3, .long x3)]) (st' := [.int 41, .ref 42]) rfl ?_
      refine st_calli (k' := 257) (as := [.ref 42, .int 41]) (rest := []) (lo' := [(0, .ref 42), (1, .int 41)]) (wf := fun d => wR L d e) rfl rfl rfl ?_
      refine tMO_isSign (fun r_68 d_67 h => ⟨r_68, d_67, rfl, rfl, ?_⟩) 41 d_64 h
      by_cases hc_69 : r_68 = 0
      · have h := Eq.mp (if_pos hc_69) h
        refine st_if (t := 256) (b := false) rfl (decide_eq_false (fun z => z hc_69)) rfl ?_
        refine st_go 1 (pc' := 257) (lo' := [(0, .ref 42), (1, .int x1), (3, .long x3)]) (st' := [.ref 42]) rfl ?_
        refine st_calli (k' := 246) (as := [.ref 42]) (rest := []) (lo' := [(0, .ref 42)]) (wf := fun d => wR L d e) rfl rfl rfl ?_
        refine tMO_refuse (fun r_71 d_70 h => ⟨r_71, d_70, rfl, rfl, ?_⟩) d_67 h
        exact st_retZ rfl rfl h.1 (hQ _ _ h.2)
      · have h := Eq.mp (if_neg hc_69) h
        refine st_if (t := 261) (b := true) rfl (decide_eq_true hc_69) rfl ?_
        refine st_go 1 (pc' := 262) (lo' := [(0, .ref 42), (1, .int x1), (3, .long x3)]) (st' := [.ref 42]) rfl ?_
        refine st_callv (k' := 252) (as := [.ref 42]) (rest := []) (lo' := [(0, .ref 42)]) (wf := fun d => wR L d e) rfl rfl rfl ?_
        refine tMO_next (fun d_72 h => ⟨d_72, rfl, rfl, ?_⟩) d_67 h
        refine st_go 1 (pc' := 266) (lo' := [(0, .ref 42), (1, .int x1), (3, .long x3)]) (st' := [.ref 42]) rfl ?_
        refine st_calli (k' := 277) (as := [.ref 42]) (rest := []) (lo' := [(0, .ref 42)]) (wf := fun d => wR L d e) rfl rfl rfl ?_
        refine tMO_endsOperand (fun r_74 d_73 h => ⟨r_74, d_73, rfl, rfl, ?_⟩) d_72 h
        by_cases hc_75 : r_74 = 0
        · have h := Eq.mp (if_pos hc_75) h
          refine st_if (t := 272) (b := false) rfl (decide_eq_false (fun z => z hc_75)) rfl ?_
          refine st_go 1 (pc' := 273) (lo' := [(0, .ref 42), (1, .int x1), (3, .long x3)]) (st' := [.ref 42]) rfl ?_
          refine st_calli (k' := 246) (as := [.ref 42]) (rest := []) (lo' := [(0, .ref 42)]) (wf := fun d => wR L d e) rfl rfl rfl ?_
          refine tMO_refuse (fun r_77 d_76 h => ⟨r_77, d_76, rfl, rfl, ?_⟩) d_73 h
          by_cases hc_78 : r_77 = 0
          · have h := Eq.mp (if_pos hc_78) h
            refine st_if (t := 283) (b := true) rfl (decide_eq_true hc_78) rfl ?_
            refine st_go 1 (pc' := 284) (lo' := [(0, .ref 42), (1, .int x1), (3, .long x3)]) (st' := [.int 0]) rfl ?_
            exact st_retZ rfl rfl (Or.inl rfl) (hQ _ _ h)
          · have h := Eq.mp (if_neg hc_78) h
            refine st_if (t := 279) (b := false) rfl (decide_eq_false hc_78) rfl ?_
            refine st_go 2 (pc' := 284) (lo' := [(0, .ref 42), (1, .int x1), (3, .long x3)]) (st' := [.int 1]) rfl ?_
            exact st_retZ rfl rfl (Or.inr rfl) (hQ _ _ h)
        · have h := Eq.mp (if_neg hc_75) h
          refine st_if (t := 279) (b := true) rfl (decide_eq_true hc_75) rfl ?_
          refine st_go 2 (pc' := 284) (lo' := [(0, .ref 42), (1, .int x1), (3, .long x3)]) (st' := [.int 1]) rfl ?_
          exact st_retZ rfl rfl (Or.inr rfl) (hQ _ _ h)
  · have h := Eq.mp (if_neg hc_61) h
    refine st_if (t := 225) (b := false) rfl (decide_eq_false hc_61) rfl ?_
    refine st_go 1 (pc' := 226) (lo' := [(0, .ref 42), (1, .int x1), (3, .long x3)]) (st' := [.int 1]) rfl ?_
    exact st_retZ rfl rfl (Or.inr rfl) (hQ _ _ h)
set_option maxRecDepth 100000 in
def MO_readPlace_134 (x1 : Int32) (x2 : Int32) (x3 : Int64) (d : vmD) (Q : Int32 → vmD → Prop) : Prop :=
  MO_index x3 d fun r_32 d_31 =>
  if (0 : Int32) < r_32 then
  (MO_isSign 41 d_31 fun r_35 d_34 =>
  if r_35 = 0 then
  (MO_isSign 43 d_34 fun r_38 d_37 =>
  if r_38 = 0 then
  (MO_isSign 45 d_37 fun r_41 d_40 =>
  if r_41 = 0 then
  (MO_readPlace_285 x1 x2 d_40 Q)
  else
  (MO_readPlace_169 x1 x3 d_40 Q))
  else
  (MO_readPlace_169 x1 x3 d_37 Q))
  else
  (MO_readPlace_169 x1 x3 d_34 Q))
  else
  (MO_readPlace_285 x1 x2 d_31 Q)
set_option maxRecDepth 100000 in
set_option maxHeartbeats 4000000 in
theorem tMO_readPlace_134 {L : Nat} {e : vmD} {Qo : Option Value → vmW → Prop} {Q : Int32 → vmD → Prop} (hQ : ∀ r d, Q r d → Qo (some (.int r)) (wR L d e)) (x1 : Int32) (x2 : Int32) (x3 : Int64) (d : vmD) (h : MO_readPlace_134 x1 x2 x3 d Q) : vmWp 281 134 [(0, .ref 42), (1, .int x1), (2, .int x2), (3, .long x3)] [] (wR L d e) Qo := by
  unfold MO_readPlace_134 at h
  refine st_go 2 (pc' := 136) (lo' := [(0, .ref 42), (1, .int x1), (2, .int x2), (3, .long x3)]) (st' := [.long x3, .ref 42]) rfl ?_
  refine st_calli (k' := 275) (as := [.ref 42, .long x3]) (rest := []) (lo' := [(0, .ref 42), (1, .long x3)]) (wf := fun d => wR L d e) rfl rfl rfl ?_
  refine tMO_index (fun r_32 d_31 h => ⟨r_32, d_31, rfl, rfl, ?_⟩) x3 d h
  by_cases hc_33 : (0 : Int32) < r_32
  · have h := Eq.mp (if_pos hc_33) h
    refine st_if (t := 142) (b := false) rfl (decide_eq_false (Int32.not_le.mpr hc_33)) rfl ?_
    refine st_go 2 (pc' := 145) (lo' := [(0, .ref 42), (1, .int x1), (2, .int x2), (3, .long x3)]) (st' := [.int 41, .ref 42]) rfl ?_
    refine st_calli (k' := 257) (as := [.ref 42, .int 41]) (rest := []) (lo' := [(0, .ref 42), (1, .int 41)]) (wf := fun d => wR L d e) rfl rfl rfl ?_
    refine tMO_isSign (fun r_35 d_34 h => ⟨r_35, d_34, rfl, rfl, ?_⟩) 41 d_31 h
    by_cases hc_36 : r_35 = 0
    · have h := Eq.mp (if_pos hc_36) h
      refine st_if (t := 151) (b := false) rfl (decide_eq_false (fun z => z hc_36)) rfl ?_
      refine st_go 2 (pc' := 154) (lo' := [(0, .ref 42), (1, .int x1), (2, .int x2), (3, .long x3)]) (st' := [.int 43, .ref 42]) rfl ?_
      refine st_calli (k' := 257) (as := [.ref 42, .int 43]) (rest := []) (lo' := [(0, .ref 42), (1, .int 43)]) (wf := fun d => wR L d e) rfl rfl rfl ?_
      refine tMO_isSign (fun r_38 d_37 h => ⟨r_38, d_37, rfl, rfl, ?_⟩) 43 d_34 h
      by_cases hc_39 : r_38 = 0
      · have h := Eq.mp (if_pos hc_39) h
        refine st_if (t := 160) (b := false) rfl (decide_eq_false (fun z => z hc_39)) rfl ?_
        refine st_go 2 (pc' := 163) (lo' := [(0, .ref 42), (1, .int x1), (2, .int x2), (3, .long x3)]) (st' := [.int 45, .ref 42]) rfl ?_
        refine st_calli (k' := 257) (as := [.ref 42, .int 45]) (rest := []) (lo' := [(0, .ref 42), (1, .int 45)]) (wf := fun d => wR L d e) rfl rfl rfl ?_
        refine tMO_isSign (fun r_41 d_40 h => ⟨r_41, d_40, rfl, rfl, ?_⟩) 45 d_37 h
        by_cases hc_42 : r_41 = 0
        · have h := Eq.mp (if_pos hc_42) h
          refine st_if (t := 285) (b := true) rfl (decide_eq_true hc_42) rfl ?_
          refine vmWp.sub (lo' := [(0, .ref 42), (1, .int x1), (2, .int x2)]) ⟨rfl, rfl, rfl, trivial⟩ ?_
          exact tMO_readPlace_285 hQ x1 x2 d_40 h
        · have h := Eq.mp (if_neg hc_42) h
          refine st_if (t := 169) (b := false) rfl (decide_eq_false hc_42) rfl ?_
          refine vmWp.sub (lo' := [(0, .ref 42), (1, .int x1), (3, .long x3)]) ⟨rfl, rfl, rfl, trivial⟩ ?_
          exact tMO_readPlace_169 hQ x1 x3 d_40 h
      · have h := Eq.mp (if_neg hc_39) h
        refine st_if (t := 169) (b := true) rfl (decide_eq_true hc_39) rfl ?_
        refine vmWp.sub (lo' := [(0, .ref 42), (1, .int x1), (3, .long x3)]) ⟨rfl, rfl, rfl, trivial⟩ ?_
        exact tMO_readPlace_169 hQ x1 x3 d_37 h
    · have h := Eq.mp (if_neg hc_36) h
      refine st_if (t := 169) (b := true) rfl (decide_eq_true hc_36) rfl ?_
      refine vmWp.sub (lo' := [(0, .ref 42), (1, .int x1), (3, .long x3)]) ⟨rfl, rfl, rfl, trivial⟩ ?_
      exact tMO_readPlace_169 hQ x1 x3 d_34 h
  · have h := Eq.mp (if_neg hc_33) h
    refine st_if (t := 285) (b := true) rfl (decide_eq_true (Int32.not_lt.mp hc_33)) rfl ?_
    refine vmWp.sub (lo' := [(0, .ref 42), (1, .int x1), (2, .int x2)]) ⟨rfl, rfl, rfl, trivial⟩ ?_
    exact tMO_readPlace_285 hQ x1 x2 d_31 h
set_option maxRecDepth 100000 in
def MO_readPlace_104 (x1 : Int32) (x2 : Int32) (x3 : Int64) (s0 : Int32) (d : vmD) (Q : Int32 → vmD → Prop) : Prop :=
  if (0 : Int32) < s0 then
  (MO_isSign 41 d fun r_29 d_28 =>
  if r_29 = 0 then
  (MO_readPlace_134 x1 x2 x3 d_28 Q)
  else
  (ixOk x1 8 ∧
  bnd (sA d_28 50 x1.toNatClampNeg s0) fun d_80 =>
  MO_next d_80 fun d_81 =>
  Q 1 d_81))
  else
  (MO_readPlace_134 x1 x2 x3 d Q)
set_option maxRecDepth 100000 in
set_option maxHeartbeats 4000000 in
theorem tMO_readPlace_104 {L : Nat} {e : vmD} {Qo : Option Value → vmW → Prop} {Q : Int32 → vmD → Prop} (hQ : ∀ r d, Q r d → Qo (some (.int r)) (wR L d e)) (x1 : Int32) (x2 : Int32) (x3 : Int64) (s0 : Int32) (d : vmD) (h : MO_readPlace_104 x1 x2 x3 s0 d Q) : vmWp 281 104 [(0, .ref 42), (1, .int x1), (2, .int x2), (3, .long x3)] [.int s0] (wR L d e) Qo := by
  unfold MO_readPlace_104 at h
  refine st_go 2 (pc' := 108) (lo' := [(6, .int s0), (0, .ref 42), (1, .int x1), (2, .int x2), (3, .long x3)]) (st' := [.int s0]) rfl ?_
  by_cases hc_27 : (0 : Int32) < s0
  · have h := Eq.mp (if_pos hc_27) h
    refine st_if (t := 111) (b := false) rfl (decide_eq_false (Int32.not_le.mpr hc_27)) rfl ?_
    refine st_go 2 (pc' := 114) (lo' := [(6, .int s0), (0, .ref 42), (1, .int x1), (2, .int x2), (3, .long x3)]) (st' := [.int 41, .ref 42]) rfl ?_
    refine st_calli (k' := 257) (as := [.ref 42, .int 41]) (rest := []) (lo' := [(0, .ref 42), (1, .int 41)]) (wf := fun d => wR L d e) rfl rfl rfl ?_
    refine tMO_isSign (fun r_29 d_28 h => ⟨r_29, d_28, rfl, rfl, ?_⟩) 41 d h
    by_cases hc_30 : r_29 = 0
    · have h := Eq.mp (if_pos hc_30) h
      refine st_if (t := 134) (b := true) rfl (decide_eq_true hc_30) rfl ?_
      refine vmWp.sub (lo' := [(0, .ref 42), (1, .int x1), (2, .int x2), (3, .long x3)]) ⟨rfl, rfl, rfl, rfl, trivial⟩ ?_
      exact tMO_readPlace_134 hQ x1 x2 x3 d_28 h
    · have h := Eq.mp (if_neg hc_30) h
      refine st_if (t := 120) (b := false) rfl (decide_eq_false hc_30) rfl ?_
      refine st_go 4 (pc' := 127) (lo' := [(6, .int s0), (0, .ref 42), (1, .int x1), (2, .int x2), (3, .long x3)]) (st' := [.int s0, .int x1, .ref 50]) rfl ?_
      obtain ⟨hj_79, h⟩ := h
      refine st_iastR (o := 50) rfl rfl hj_79 rfl (fun d_80 hy_d_80 => ?_)
      have h := h d_80 hy_d_80
      refine st_go 1 (pc' := 129) (lo' := [(6, .int s0), (0, .ref 42), (1, .int x1), (2, .int x2), (3, .long x3)]) (st' := [.ref 42]) rfl ?_
      refine st_callv (k' := 252) (as := [.ref 42]) (rest := []) (lo' := [(0, .ref 42)]) (wf := fun d => wR L d e) rfl rfl rfl ?_
      refine tMO_next (fun d_81 h => ⟨d_81, rfl, rfl, ?_⟩) d_80 h
      refine st_go 1 (pc' := 133) (lo' := [(6, .int s0), (0, .ref 42), (1, .int x1), (2, .int x2), (3, .long x3)]) (st' := [.int 1]) rfl ?_
      exact st_retZ rfl rfl (Or.inr rfl) (hQ _ _ h)
  · have h := Eq.mp (if_neg hc_27) h
    refine st_if (t := 134) (b := true) rfl (decide_eq_true (Int32.not_lt.mp hc_27)) rfl ?_
    refine vmWp.sub (lo' := [(0, .ref 42), (1, .int x1), (2, .int x2), (3, .long x3)]) ⟨rfl, rfl, rfl, rfl, trivial⟩ ?_
    exact tMO_readPlace_134 hQ x1 x2 x3 d h
set_option maxRecDepth 100000 in
def MO_readPlace_27 (x1 : Int32) (x2 : Int32) (x3 : Int64) (s0 : Int32) (d : vmD) (Q : Int32 → vmD → Prop) : Prop :=
  if s0 = 0 then
  (MO_readPlace_290 x1 d Q)
  else
  (MO_next d fun d_25 =>
  if (lg_cmp x3 18508) = 0 then
  (MO_readPlace_104 x1 x2 x3 9 d_25 Q)
  else
  (if (lg_cmp x3 16963) = 0 then
  (MO_readPlace_104 x1 x2 x3 10 d_25 Q)
  else
  (if (lg_cmp x3 17477) = 0 then
  (MO_readPlace_104 x1 x2 x3 11 d_25 Q)
  else
  (if (lg_cmp x3 21328) = 0 then
  (MO_readPlace_104 x1 x2 x3 12 d_25 Q)
  else
  (if (lg_cmp x3 67) = 0 then
  (MO_readPlace_104 x1 x2 x3 13 d_25 Q)
  else
  (MO_readPlace_104 x1 x2 x3 0 d_25 Q))))))
set_option maxRecDepth 100000 in
set_option maxHeartbeats 4000000 in
theorem tMO_readPlace_27 {L : Nat} {e : vmD} {Qo : Option Value → vmW → Prop} {Q : Int32 → vmD → Prop} (hQ : ∀ r d, Q r d → Qo (some (.int r)) (wR L d e)) (x1 : Int32) (x2 : Int32) (x3 : Int64) (s0 : Int32) (d : vmD) (h : MO_readPlace_27 x1 x2 x3 s0 d Q) : vmWp 281 27 [(0, .ref 42), (1, .int x1), (2, .int x2), (3, .long x3)] [.int s0] (wR L d e) Qo := by
  unfold MO_readPlace_27 at h
  refine st_go 2 (pc' := 31) (lo' := [(5, .int s0), (0, .ref 42), (1, .int x1), (2, .int x2), (3, .long x3)]) (st' := [.int s0]) rfl ?_
  by_cases hc_5 : s0 = 0
  · have h := Eq.mp (if_pos hc_5) h
    refine st_if (t := 290) (b := true) rfl (decide_eq_true hc_5) rfl ?_
    refine vmWp.sub (lo' := [(0, .ref 42), (1, .int x1)]) ⟨rfl, rfl, trivial⟩ ?_
    exact tMO_readPlace_290 hQ x1 d h
  · have h := Eq.mp (if_neg hc_5) h
    refine st_if (t := 34) (b := false) rfl (decide_eq_false hc_5) rfl ?_
    refine st_go 1 (pc' := 35) (lo' := [(5, .int s0), (0, .ref 42), (1, .int x1), (2, .int x2), (3, .long x3)]) (st' := [.ref 42]) rfl ?_
    refine st_callv (k' := 252) (as := [.ref 42]) (rest := []) (lo' := [(0, .ref 42)]) (wf := fun d => wR L d e) rfl rfl rfl ?_
    refine tMO_next (fun d_25 h => ⟨d_25, rfl, rfl, ?_⟩) d h
    refine st_go 3 (pc' := 43) (lo' := [(5, .int s0), (0, .ref 42), (1, .int x1), (2, .int x2), (3, .long x3)]) (st' := [.int (lg_cmp x3 18508)]) rfl ?_
    by_cases hc_26 : (lg_cmp x3 18508) = 0
    · have h := Eq.mp (if_pos hc_26) h
      refine st_if (t := 46) (b := false) rfl (decide_eq_false (fun z => z hc_26)) rfl ?_
      refine st_go 2 (pc' := 104) (lo' := [(5, .int s0), (0, .ref 42), (1, .int x1), (2, .int x2), (3, .long x3)]) (st' := [.int 9]) rfl ?_
      refine vmWp.sub (lo' := [(0, .ref 42), (1, .int x1), (2, .int x2), (3, .long x3)]) ⟨rfl, rfl, rfl, rfl, trivial⟩ ?_
      exact tMO_readPlace_104 hQ x1 x2 x3 9 d_25 h
    · have h := Eq.mp (if_neg hc_26) h
      refine st_if (t := 51) (b := true) rfl (decide_eq_true hc_26) rfl ?_
      refine st_go 3 (pc' := 56) (lo' := [(5, .int s0), (0, .ref 42), (1, .int x1), (2, .int x2), (3, .long x3)]) (st' := [.int (lg_cmp x3 16963)]) rfl ?_
      by_cases hc_82 : (lg_cmp x3 16963) = 0
      · have h := Eq.mp (if_pos hc_82) h
        refine st_if (t := 59) (b := false) rfl (decide_eq_false (fun z => z hc_82)) rfl ?_
        refine st_go 2 (pc' := 104) (lo' := [(5, .int s0), (0, .ref 42), (1, .int x1), (2, .int x2), (3, .long x3)]) (st' := [.int 10]) rfl ?_
        refine vmWp.sub (lo' := [(0, .ref 42), (1, .int x1), (2, .int x2), (3, .long x3)]) ⟨rfl, rfl, rfl, rfl, trivial⟩ ?_
        exact tMO_readPlace_104 hQ x1 x2 x3 10 d_25 h
      · have h := Eq.mp (if_neg hc_82) h
        refine st_if (t := 64) (b := true) rfl (decide_eq_true hc_82) rfl ?_
        refine st_go 3 (pc' := 69) (lo' := [(5, .int s0), (0, .ref 42), (1, .int x1), (2, .int x2), (3, .long x3)]) (st' := [.int (lg_cmp x3 17477)]) rfl ?_
        by_cases hc_83 : (lg_cmp x3 17477) = 0
        · have h := Eq.mp (if_pos hc_83) h
          refine st_if (t := 72) (b := false) rfl (decide_eq_false (fun z => z hc_83)) rfl ?_
          refine st_go 2 (pc' := 104) (lo' := [(5, .int s0), (0, .ref 42), (1, .int x1), (2, .int x2), (3, .long x3)]) (st' := [.int 11]) rfl ?_
          refine vmWp.sub (lo' := [(0, .ref 42), (1, .int x1), (2, .int x2), (3, .long x3)]) ⟨rfl, rfl, rfl, rfl, trivial⟩ ?_
          exact tMO_readPlace_104 hQ x1 x2 x3 11 d_25 h
        · have h := Eq.mp (if_neg hc_83) h
          refine st_if (t := 77) (b := true) rfl (decide_eq_true hc_83) rfl ?_
          refine st_go 3 (pc' := 82) (lo' := [(5, .int s0), (0, .ref 42), (1, .int x1), (2, .int x2), (3, .long x3)]) (st' := [.int (lg_cmp x3 21328)]) rfl ?_
          by_cases hc_84 : (lg_cmp x3 21328) = 0
          · have h := Eq.mp (if_pos hc_84) h
            refine st_if (t := 85) (b := false) rfl (decide_eq_false (fun z => z hc_84)) rfl ?_
            refine st_go 2 (pc' := 104) (lo' := [(5, .int s0), (0, .ref 42), (1, .int x1), (2, .int x2), (3, .long x3)]) (st' := [.int 12]) rfl ?_
            refine vmWp.sub (lo' := [(0, .ref 42), (1, .int x1), (2, .int x2), (3, .long x3)]) ⟨rfl, rfl, rfl, rfl, trivial⟩ ?_
            exact tMO_readPlace_104 hQ x1 x2 x3 12 d_25 h
          · have h := Eq.mp (if_neg hc_84) h
            refine st_if (t := 90) (b := true) rfl (decide_eq_true hc_84) rfl ?_
            refine st_go 3 (pc' := 95) (lo' := [(5, .int s0), (0, .ref 42), (1, .int x1), (2, .int x2), (3, .long x3)]) (st' := [.int (lg_cmp x3 67)]) rfl ?_
            by_cases hc_85 : (lg_cmp x3 67) = 0
            · have h := Eq.mp (if_pos hc_85) h
              refine st_if (t := 98) (b := false) rfl (decide_eq_false (fun z => z hc_85)) rfl ?_
              refine st_go 2 (pc' := 104) (lo' := [(5, .int s0), (0, .ref 42), (1, .int x1), (2, .int x2), (3, .long x3)]) (st' := [.int 13]) rfl ?_
              refine vmWp.sub (lo' := [(0, .ref 42), (1, .int x1), (2, .int x2), (3, .long x3)]) ⟨rfl, rfl, rfl, rfl, trivial⟩ ?_
              exact tMO_readPlace_104 hQ x1 x2 x3 13 d_25 h
            · have h := Eq.mp (if_neg hc_85) h
              refine st_if (t := 103) (b := true) rfl (decide_eq_true hc_85) rfl ?_
              refine st_go 1 (pc' := 104) (lo' := [(5, .int s0), (0, .ref 42), (1, .int x1), (2, .int x2), (3, .long x3)]) (st' := [.int 0]) rfl ?_
              refine vmWp.sub (lo' := [(0, .ref 42), (1, .int x1), (2, .int x2), (3, .long x3)]) ⟨rfl, rfl, rfl, rfl, trivial⟩ ?_
              exact tMO_readPlace_104 hQ x1 x2 x3 0 d_25 h
set_option maxRecDepth 100000 in
def MO_readPlace (x1 : Int32) (d : vmD) (Q : Int32 → vmD → Prop) : Prop :=
  MO_next d fun d_1 =>
  bnd (gF d_1 42 4) fun x2_2 =>
  bnd (gG d_1 42 7) fun x3_3 =>
  if (gF d_1 42 3) = 2 then
  (MO_readPlace_27 x1 x2_2 x3_3 1 d_1 Q)
  else
  (MO_readPlace_27 x1 x2_2 x3_3 0 d_1 Q)
set_option maxRecDepth 100000 in
set_option maxHeartbeats 4000000 in
theorem tMO_readPlace {L : Nat} {e : vmD} {Qo : Option Value → vmW → Prop} {Q : Int32 → vmD → Prop} (hQ : ∀ r d, Q r d → Qo (some (.int r)) (wR L d e)) (x1 : Int32) (d : vmD) (h : MO_readPlace x1 d Q) : vmWp 281 0 [(0, .ref 42), (1, .int x1)] [] (wR L d e) Qo := by
  unfold MO_readPlace at h
  refine st_go 1 (pc' := 1) (lo' := [(0, .ref 42), (1, .int x1)]) (st' := [.ref 42]) rfl ?_
  refine st_callv (k' := 252) (as := [.ref 42]) (rest := []) (lo' := [(0, .ref 42)]) (wf := fun d => wR L d e) rfl rfl rfl ?_
  refine tMO_next (fun d_1 h => ⟨d_1, rfl, rfl, ?_⟩) d h
  refine st_go 3 (pc' := 9) (lo' := [(2, .int (gF d_1 42 4)), (0, .ref 42), (1, .int x1)]) (st' := []) rfl ?_
  refine st_locI (fun x2_2 hy_x2_2 => ?_)
  have h := h x2_2 hy_x2_2
  refine st_go 3 (pc' := 14) (lo' := [(3, .long (gG d_1 42 7)), (2, .int x2_2), (0, .ref 42), (1, .int x1)]) (st' := []) rfl ?_
  refine st_locJ (fun x3_3 hy_x3_3 => ?_)
  have h := h x3_3 hy_x3_3
  refine st_go 3 (pc' := 19) (lo' := [(3, .long x3_3), (2, .int x2_2), (0, .ref 42), (1, .int x1)]) (st' := [.int 2, .int (gF d_1 42 3)]) rfl ?_
  by_cases hc_4 : (gF d_1 42 3) = 2
  · have h := Eq.mp (if_pos hc_4) h
    refine st_icmp (t := 22) (b := false) rfl (decide_eq_false (fun z => z hc_4)) rfl ?_
    refine st_go 2 (pc' := 27) (lo' := [(3, .long x3_3), (2, .int x2_2), (0, .ref 42), (1, .int x1)]) (st' := [.int 1]) rfl ?_
    refine vmWp.sub (lo' := [(0, .ref 42), (1, .int x1), (2, .int x2_2), (3, .long x3_3)]) ⟨rfl, rfl, rfl, rfl, trivial⟩ ?_
    exact tMO_readPlace_27 hQ x1 x2_2 x3_3 1 d_1 h
  · have h := Eq.mp (if_neg hc_4) h
    refine st_icmp (t := 26) (b := true) rfl (decide_eq_true hc_4) rfl ?_
    refine st_go 1 (pc' := 27) (lo' := [(3, .long x3_3), (2, .int x2_2), (0, .ref 42), (1, .int x1)]) (st' := [.int 0]) rfl ?_
    refine vmWp.sub (lo' := [(0, .ref 42), (1, .int x1), (2, .int x2_2), (3, .long x3_3)]) ⟨rfl, rfl, rfl, rfl, trivial⟩ ?_
    exact tMO_readPlace_27 hQ x1 x2_2 x3_3 0 d_1 h
set_option maxRecDepth 100000 in
def MO_readOperand_148 (d : vmD) (Q : Int32 → vmD → Prop) : Prop :=
  MO_expression 0 d fun r_21 d_20 =>
  (r_21 = 0 ∨ r_21 = 1) ∧ Q r_21 d_20
set_option maxRecDepth 100000 in
set_option maxHeartbeats 4000000 in
theorem tMO_readOperand_148 {L : Nat} {e : vmD} {Qo : Option Value → vmW → Prop} {Q : Int32 → vmD → Prop} (hQ : ∀ r d, Q r d → Qo (some (.int r)) (wR L d e)) (d : vmD) (h : MO_readOperand_148 d Q) : vmWp 279 148 [(0, .ref 42)] [] (wR L d e) Qo := by
  unfold MO_readOperand_148 at h
  refine st_go 2 (pc' := 150) (lo' := [(0, .ref 42)]) (st' := [.int 0, .ref 42]) rfl ?_
  refine st_calli (k' := 269) (as := [.ref 42, .int 0]) (rest := []) (lo' := [(0, .ref 42), (1, .int 0)]) (wf := fun d => wR L d e) rfl rfl rfl ?_
  refine tMO_expression (fun r_21 d_20 h => ⟨r_21, d_20, rfl, rfl, ?_⟩) 0 d h
  exact st_retZ rfl rfl h.1 (hQ _ _ h.2)
set_option maxRecDepth 100000 in
def MO_readOperand_90 (x1 : Int32) (d : vmD) (Q : Int32 → vmD → Prop) : Prop :=
  if (gF d 42 3) = 2 then
  (MO_isRegister (gG d 42 7) d fun r_18 d_17 =>
  if r_18 = 0 then
  (MO_readOperand_148 d_17 Q)
  else
  (bnd (gF d_17 42 4) fun x2_22 =>
  bnd (gG d_17 42 7) fun x3_23 =>
  MO_next d_17 fun d_24 =>
  MO_endsOperand d_24 fun r_26 d_25 =>
  if r_26 = 0 then
  (MO_goTo x2_22 d_25 fun d_28 =>
  MO_refuse d_28 fun r_30 d_29 =>
  (r_30 = 0 ∨ r_30 = 1) ∧ Q r_30 d_29)
  else
  (MO_setRegister x1 x3_23 d_25 fun d_31 =>
  Q 1 d_31)))
  else
  (MO_readOperand_148 d Q)
set_option maxRecDepth 100000 in
set_option maxHeartbeats 4000000 in
theorem tMO_readOperand_90 {L : Nat} {e : vmD} {Qo : Option Value → vmW → Prop} {Q : Int32 → vmD → Prop} (hQ : ∀ r d, Q r d → Qo (some (.int r)) (wR L d e)) (x1 : Int32) (d : vmD) (h : MO_readOperand_90 x1 d Q) : vmWp 279 90 [(0, .ref 42), (1, .int x1)] [] (wR L d e) Qo := by
  unfold MO_readOperand_90 at h
  refine st_go 3 (pc' := 95) (lo' := [(0, .ref 42), (1, .int x1)]) (st' := [.int 2, .int (gF d 42 3)]) rfl ?_
  by_cases hc_16 : (gF d 42 3) = 2
  · have h := Eq.mp (if_pos hc_16) h
    refine st_icmp (t := 98) (b := false) rfl (decide_eq_false (fun z => z hc_16)) rfl ?_
    refine st_go 3 (pc' := 103) (lo' := [(0, .ref 42), (1, .int x1)]) (st' := [.long (gG d 42 7), .ref 42]) rfl ?_
    refine st_calli (k' := 261) (as := [.ref 42, .long (gG d 42 7)]) (rest := []) (lo' := [(0, .ref 42), (1, .long (gG d 42 7))]) (wf := fun d => wR L d e) rfl rfl rfl ?_
    refine tMO_isRegister (fun r_18 d_17 h => ⟨r_18, d_17, rfl, rfl, ?_⟩) (gG d 42 7) d h
    by_cases hc_19 : r_18 = 0
    · have h := Eq.mp (if_pos hc_19) h
      refine st_if (t := 148) (b := true) rfl (decide_eq_true hc_19) rfl ?_
      refine vmWp.sub (lo' := [(0, .ref 42)]) ⟨rfl, trivial⟩ ?_
      exact tMO_readOperand_148 hQ d_17 h
    · have h := Eq.mp (if_neg hc_19) h
      refine st_if (t := 109) (b := false) rfl (decide_eq_false hc_19) rfl ?_
      refine st_go 3 (pc' := 114) (lo' := [(2, .int (gF d_17 42 4)), (0, .ref 42), (1, .int x1)]) (st' := []) rfl ?_
      refine st_locI (fun x2_22 hy_x2_22 => ?_)
      have h := h x2_22 hy_x2_22
      refine st_go 3 (pc' := 119) (lo' := [(3, .long (gG d_17 42 7)), (2, .int x2_22), (0, .ref 42), (1, .int x1)]) (st' := []) rfl ?_
      refine st_locJ (fun x3_23 hy_x3_23 => ?_)
      have h := h x3_23 hy_x3_23
      refine st_go 1 (pc' := 120) (lo' := [(3, .long x3_23), (2, .int x2_22), (0, .ref 42), (1, .int x1)]) (st' := [.ref 42]) rfl ?_
      refine st_callv (k' := 252) (as := [.ref 42]) (rest := []) (lo' := [(0, .ref 42)]) (wf := fun d => wR L d e) rfl rfl rfl ?_
      refine tMO_next (fun d_24 h => ⟨d_24, rfl, rfl, ?_⟩) d_17 h
      refine st_go 1 (pc' := 124) (lo' := [(3, .long x3_23), (2, .int x2_22), (0, .ref 42), (1, .int x1)]) (st' := [.ref 42]) rfl ?_
      refine st_calli (k' := 277) (as := [.ref 42]) (rest := []) (lo' := [(0, .ref 42)]) (wf := fun d => wR L d e) rfl rfl rfl ?_
      refine tMO_endsOperand (fun r_26 d_25 h => ⟨r_26, d_25, rfl, rfl, ?_⟩) d_24 h
      by_cases hc_27 : r_26 = 0
      · have h := Eq.mp (if_pos hc_27) h
        refine st_if (t := 138) (b := true) rfl (decide_eq_true hc_27) rfl ?_
        refine st_go 2 (pc' := 140) (lo' := [(3, .long x3_23), (2, .int x2_22), (0, .ref 42), (1, .int x1)]) (st' := [.int x2_22, .ref 42]) rfl ?_
        refine st_callv (k' := 258) (as := [.ref 42, .int x2_22]) (rest := []) (lo' := [(0, .ref 42), (1, .int x2_22)]) (wf := fun d => wR L d e) rfl rfl rfl ?_
        refine tMO_goTo (fun d_28 h => ⟨d_28, rfl, rfl, ?_⟩) x2_22 d_25 h
        refine st_go 1 (pc' := 144) (lo' := [(3, .long x3_23), (2, .int x2_22), (0, .ref 42), (1, .int x1)]) (st' := [.ref 42]) rfl ?_
        refine st_calli (k' := 246) (as := [.ref 42]) (rest := []) (lo' := [(0, .ref 42)]) (wf := fun d => wR L d e) rfl rfl rfl ?_
        refine tMO_refuse (fun r_30 d_29 h => ⟨r_30, d_29, rfl, rfl, ?_⟩) d_28 h
        exact st_retZ rfl rfl h.1 (hQ _ _ h.2)
      · have h := Eq.mp (if_neg hc_27) h
        refine st_if (t := 130) (b := false) rfl (decide_eq_false hc_27) rfl ?_
        refine st_go 3 (pc' := 133) (lo' := [(3, .long x3_23), (2, .int x2_22), (0, .ref 42), (1, .int x1)]) (st' := [.long x3_23, .int x1, .ref 42]) rfl ?_
        refine st_callv (k' := 280) (as := [.ref 42, .int x1, .long x3_23]) (rest := []) (lo' := [(0, .ref 42), (1, .int x1), (2, .long x3_23)]) (wf := fun d => wR L d e) rfl rfl rfl ?_
        refine tMO_setRegister (fun d_31 h => ⟨d_31, rfl, rfl, ?_⟩) x1 x3_23 d_25 h
        refine st_go 1 (pc' := 137) (lo' := [(3, .long x3_23), (2, .int x2_22), (0, .ref 42), (1, .int x1)]) (st' := [.int 1]) rfl ?_
        exact st_retZ rfl rfl (Or.inr rfl) (hQ _ _ h)
  · have h := Eq.mp (if_neg hc_16) h
    refine st_icmp (t := 148) (b := true) rfl (decide_eq_true hc_16) rfl ?_
    refine vmWp.sub (lo' := [(0, .ref 42)]) ⟨rfl, trivial⟩ ?_
    exact tMO_readOperand_148 hQ d h
set_option maxRecDepth 100000 in
def MO_readOperand_18 (s0 : Int32) (d : vmD) (Q : Int32 → vmD → Prop) : Prop :=
  ixOk s0 8 ∧
  bnd (sA d 50 s0.toNatClampNeg (16 : Int32)) fun d_3 =>
  ixOk s0 8 ∧
  bnd (sA d_3 51 s0.toNatClampNeg (0 : Int32)) fun d_5 =>
  ixOk s0 8 ∧
  bnd (sA d_5 52 s0.toNatClampNeg (gF d_5 42 4)) fun d_7 =>
  ixOk s0 8 ∧
  bnd (sA d_7 53 s0.toNatClampNeg ((0 : Int32) &&& 1)) fun d_9 =>
  ixOk s0 8 ∧
  bnd (sA d_9 54 s0.toNatClampNeg ((0 : Int32) &&& 1)) fun d_11 =>
  bnd (sF d_11 42 28 ((gF d_11 42 28) + 1)) fun d_12 =>
  MO_isSign 40 d_12 fun r_14 d_13 =>
  if r_14 = 0 then
  (MO_readOperand_90 s0 d_13 Q)
  else
  (MO_isPlace d_13 fun r_33 d_32 =>
  if r_33 = 0 then
  (MO_readOperand_90 s0 d_32 Q)
  else
  (MO_readPlace s0 d_32 fun r_36 d_35 =>
  (r_36 = 0 ∨ r_36 = 1) ∧ Q r_36 d_35))
set_option maxRecDepth 100000 in
set_option maxHeartbeats 4000000 in
theorem tMO_readOperand_18 {L : Nat} {e : vmD} {Qo : Option Value → vmW → Prop} {Q : Int32 → vmD → Prop} (hQ : ∀ r d, Q r d → Qo (some (.int r)) (wR L d e)) (s0 : Int32) (d : vmD) (h : MO_readOperand_18 s0 d Q) : vmWp 279 18 [(0, .ref 42)] [.int s0] (wR L d e) Qo := by
  unfold MO_readOperand_18 at h
  refine st_go 5 (pc' := 26) (lo' := [(1, .int s0), (0, .ref 42)]) (st' := [.int 16, .int s0, .ref 50]) rfl ?_
  obtain ⟨hj_2, h⟩ := h
  refine st_iastR (o := 50) rfl rfl hj_2 rfl (fun d_3 hy_d_3 => ?_)
  have h := h d_3 hy_d_3
  refine st_go 4 (pc' := 33) (lo' := [(1, .int s0), (0, .ref 42)]) (st' := [.int 0, .int s0, .ref 51]) rfl ?_
  obtain ⟨hj_4, h⟩ := h
  refine st_iastR (o := 51) rfl rfl hj_4 rfl (fun d_5 hy_d_5 => ?_)
  have h := h d_5 hy_d_5
  refine st_go 5 (pc' := 43) (lo' := [(1, .int s0), (0, .ref 42)]) (st' := [.int (gF d_5 42 4), .int s0, .ref 52]) rfl ?_
  obtain ⟨hj_6, h⟩ := h
  refine st_iastR (o := 52) rfl rfl hj_6 rfl (fun d_7 hy_d_7 => ?_)
  have h := h d_7 hy_d_7
  refine st_go 4 (pc' := 50) (lo' := [(1, .int s0), (0, .ref 42)]) (st' := [.int 0, .int s0, .ref 53]) rfl ?_
  obtain ⟨hj_8, h⟩ := h
  refine st_zastR (o := 53) rfl rfl rfl hj_8 rfl (fun d_9 hy_d_9 => ?_)
  have h := h d_9 hy_d_9
  refine st_go 4 (pc' := 57) (lo' := [(1, .int s0), (0, .ref 42)]) (st' := [.int 0, .int s0, .ref 54]) rfl ?_
  obtain ⟨hj_10, h⟩ := h
  refine st_zastR (o := 54) rfl rfl rfl hj_10 rfl (fun d_11 hy_d_11 => ?_)
  have h := h d_11 hy_d_11
  refine st_go 5 (pc' := 65) (lo' := [(1, .int s0), (0, .ref 42)]) (st' := [.int ((gF d_11 42 28) + 1), .ref 42]) rfl ?_
  refine st_putIR (o := 42) (f := 28) rfl rfl rfl rfl rfl (fun d_12 hy_d_12 => ?_)
  have h := h d_12 hy_d_12
  refine st_go 2 (pc' := 71) (lo' := [(1, .int s0), (0, .ref 42)]) (st' := [.int 40, .ref 42]) rfl ?_
  refine st_calli (k' := 257) (as := [.ref 42, .int 40]) (rest := []) (lo' := [(0, .ref 42), (1, .int 40)]) (wf := fun d => wR L d e) rfl rfl rfl ?_
  refine tMO_isSign (fun r_14 d_13 h => ⟨r_14, d_13, rfl, rfl, ?_⟩) 40 d_12 h
  by_cases hc_15 : r_14 = 0
  · have h := Eq.mp (if_pos hc_15) h
    refine st_if (t := 90) (b := true) rfl (decide_eq_true hc_15) rfl ?_
    refine vmWp.sub (lo' := [(0, .ref 42), (1, .int s0)]) ⟨rfl, rfl, trivial⟩ ?_
    exact tMO_readOperand_90 hQ s0 d_13 h
  · have h := Eq.mp (if_neg hc_15) h
    refine st_if (t := 77) (b := false) rfl (decide_eq_false hc_15) rfl ?_
    refine st_go 1 (pc' := 78) (lo' := [(1, .int s0), (0, .ref 42)]) (st' := [.ref 42]) rfl ?_
    refine st_calli (k' := 278) (as := [.ref 42]) (rest := []) (lo' := [(0, .ref 42)]) (wf := fun d => wR L d e) rfl rfl rfl ?_
    refine tMO_isPlace (fun r_33 d_32 h => ⟨r_33, d_32, rfl, rfl, ?_⟩) d_13 h
    by_cases hc_34 : r_33 = 0
    · have h := Eq.mp (if_pos hc_34) h
      refine st_if (t := 90) (b := true) rfl (decide_eq_true hc_34) rfl ?_
      refine vmWp.sub (lo' := [(0, .ref 42), (1, .int s0)]) ⟨rfl, rfl, trivial⟩ ?_
      exact tMO_readOperand_90 hQ s0 d_32 h
    · have h := Eq.mp (if_neg hc_34) h
      refine st_if (t := 84) (b := false) rfl (decide_eq_false hc_34) rfl ?_
      refine st_go 2 (pc' := 86) (lo' := [(1, .int s0), (0, .ref 42)]) (st' := [.int s0, .ref 42]) rfl ?_
      refine st_calli (k' := 281) (as := [.ref 42, .int s0]) (rest := []) (lo' := [(0, .ref 42), (1, .int s0)]) (wf := fun d => wR L d e) rfl rfl rfl ?_
      refine tMO_readPlace (fun r_36 d_35 h => ⟨r_36, d_35, rfl, rfl, ?_⟩) s0 d_32 h
      exact st_retZ rfl rfl h.1 (hQ _ _ h.2)
set_option maxRecDepth 100000 in
def MO_readOperand (d : vmD) (Q : Int32 → vmD → Prop) : Prop :=
  if (gF d 42 28) < 8 then
  (MO_readOperand_18 (gF d 42 28) d Q)
  else
  (MO_readOperand_18 7 d Q)
set_option maxRecDepth 100000 in
set_option maxHeartbeats 4000000 in
theorem tMO_readOperand {L : Nat} {e : vmD} {Qo : Option Value → vmW → Prop} {Q : Int32 → vmD → Prop} (hQ : ∀ r d, Q r d → Qo (some (.int r)) (wR L d e)) (d : vmD) (h : MO_readOperand d Q) : vmWp 279 0 [(0, .ref 42)] [] (wR L d e) Qo := by
  unfold MO_readOperand at h
  refine st_go 3 (pc' := 6) (lo' := [(0, .ref 42)]) (st' := [.int 8, .int (gF d 42 28)]) rfl ?_
  by_cases hc_1 : (gF d 42 28) < 8
  · have h := Eq.mp (if_pos hc_1) h
    refine st_icmp (t := 9) (b := false) rfl (decide_eq_false (Int32.not_le.mpr hc_1)) rfl ?_
    refine st_go 3 (pc' := 18) (lo' := [(0, .ref 42)]) (st' := [.int (gF d 42 28)]) rfl ?_
    refine vmWp.sub (lo' := [(0, .ref 42)]) ⟨rfl, trivial⟩ ?_
    exact tMO_readOperand_18 hQ (gF d 42 28) d h
  · have h := Eq.mp (if_neg hc_1) h
    refine st_icmp (t := 16) (b := true) rfl (decide_eq_true (Int32.not_lt.mp hc_1)) rfl ?_
    refine st_go 1 (pc' := 18) (lo' := [(0, .ref 42)]) (st' := [.int 7]) rfl ?_
    refine vmWp.sub (lo' := [(0, .ref 42)]) ⟨rfl, trivial⟩ ?_
    exact tMO_readOperand_18 hQ 7 d h
set_option maxRecDepth 100000 in
def MO_readOperands_51 (d : vmD) (Q : Int32 → vmD → Prop) : Prop :=
  MO_refuse d fun r_11 d_10 =>
  (r_11 = 0 ∨ r_11 = 1) ∧ Q r_11 d_10
set_option maxRecDepth 100000 in
set_option maxHeartbeats 4000000 in
theorem tMO_readOperands_51 {L : Nat} {e : vmD} {Qo : Option Value → vmW → Prop} {Q : Int32 → vmD → Prop} (hQ : ∀ r d, Q r d → Qo (some (.int r)) (wR L d e)) (d : vmD) (h : MO_readOperands_51 d Q) : vmWp 282 51 [(0, .ref 42)] [] (wR L d e) Qo := by
  unfold MO_readOperands_51 at h
  refine st_go 1 (pc' := 52) (lo' := [(0, .ref 42)]) (st' := [.ref 42]) rfl ?_
  refine st_calli (k' := 246) (as := [.ref 42]) (rest := []) (lo' := [(0, .ref 42)]) (wf := fun d => wR L d e) rfl rfl rfl ?_
  refine tMO_refuse (fun r_11 d_10 h => ⟨r_11, d_10, rfl, rfl, ?_⟩) d h
  exact st_retZ rfl rfl h.1 (hQ _ _ h.2)
set_option maxRecDepth 100000 in
def MO_readOperands_15 (Q : Int32 → vmD → Prop) : Nat → vmD → Prop
  | 0, _ => False
  | n + 1, d => MO_readOperand d fun r_4 d_3 =>
  if r_4 = 0 then
  (Q 0 d_3)
  else
  (if (gF d_3 42 3) = 1 then
  (Q 1 d_3)
  else
  (MO_isSign 44 d_3 fun r_8 d_7 =>
  if r_8 = 0 then
  (MO_readOperands_51 d_7 Q)
  else
  (if (gF d_7 42 28) = 2 then
  (MO_readOperands_51 d_7 Q)
  else
  (MO_next d_7 fun d_13 =>
  (MO_readOperands_15 Q n) d_13))))
set_option maxRecDepth 100000 in
set_option maxHeartbeats 4000000 in
theorem tMO_readOperands_15 {L : Nat} {e : vmD} {Qo : Option Value → vmW → Prop} {Q : Int32 → vmD → Prop} (hQ : ∀ r d, Q r d → Qo (some (.int r)) (wR L d e)) : ∀ (n : Nat) (d : vmD), MO_readOperands_15 Q n d → vmWp 282 15 [(0, .ref 42)] [] (wR L d e) Qo := by
  intro n
  induction n with
  | zero => intro d h; exact h.elim
  | succ n ih =>
    intro d h
    unfold MO_readOperands_15 at h
    refine st_go 1 (pc' := 16) (lo' := [(0, .ref 42)]) (st' := [.ref 42]) rfl ?_
    refine st_calli (k' := 279) (as := [.ref 42]) (rest := []) (lo' := [(0, .ref 42)]) (wf := fun d => wR L d e) rfl rfl rfl ?_
    refine tMO_readOperand (fun r_4 d_3 h => ⟨r_4, d_3, rfl, rfl, ?_⟩) d h
    by_cases hc_5 : r_4 = 0
    · have h := Eq.mp (if_pos hc_5) h
      refine st_if (t := 22) (b := false) rfl (decide_eq_false (fun z => z hc_5)) rfl ?_
      refine st_go 1 (pc' := 23) (lo' := [(0, .ref 42)]) (st' := [.int 0]) rfl ?_
      exact st_retZ rfl rfl (Or.inl rfl) (hQ _ _ h)
    · have h := Eq.mp (if_neg hc_5) h
      refine st_if (t := 24) (b := true) rfl (decide_eq_true hc_5) rfl ?_
      refine st_go 3 (pc' := 29) (lo' := [(0, .ref 42)]) (st' := [.int 1, .int (gF d_3 42 3)]) rfl ?_
      by_cases hc_6 : (gF d_3 42 3) = 1
      · have h := Eq.mp (if_pos hc_6) h
        refine st_icmp (t := 32) (b := false) rfl (decide_eq_false (fun z => z hc_6)) rfl ?_
        refine st_go 1 (pc' := 33) (lo' := [(0, .ref 42)]) (st' := [.int 1]) rfl ?_
        exact st_retZ rfl rfl (Or.inr rfl) (hQ _ _ h)
      · have h := Eq.mp (if_neg hc_6) h
        refine st_icmp (t := 34) (b := true) rfl (decide_eq_true hc_6) rfl ?_
        refine st_go 2 (pc' := 37) (lo' := [(0, .ref 42)]) (st' := [.int 44, .ref 42]) rfl ?_
        refine st_calli (k' := 257) (as := [.ref 42, .int 44]) (rest := []) (lo' := [(0, .ref 42), (1, .int 44)]) (wf := fun d => wR L d e) rfl rfl rfl ?_
        refine tMO_isSign (fun r_8 d_7 h => ⟨r_8, d_7, rfl, rfl, ?_⟩) 44 d_3 h
        by_cases hc_9 : r_8 = 0
        · have h := Eq.mp (if_pos hc_9) h
          refine st_if (t := 51) (b := true) rfl (decide_eq_true hc_9) rfl ?_
          refine vmWp.sub (lo' := [(0, .ref 42)]) ⟨rfl, trivial⟩ ?_
          exact tMO_readOperands_51 hQ d_7 h
        · have h := Eq.mp (if_neg hc_9) h
          refine st_if (t := 43) (b := false) rfl (decide_eq_false hc_9) rfl ?_
          refine st_go 3 (pc' := 48) (lo' := [(0, .ref 42)]) (st' := [.int 2, .int (gF d_7 42 28)]) rfl ?_
          by_cases hc_12 : (gF d_7 42 28) = 2
          · have h := Eq.mp (if_pos hc_12) h
            refine st_icmp (t := 51) (b := false) rfl (decide_eq_false (fun z => z hc_12)) rfl ?_
            refine vmWp.sub (lo' := [(0, .ref 42)]) ⟨rfl, trivial⟩ ?_
            exact tMO_readOperands_51 hQ d_7 h
          · have h := Eq.mp (if_neg hc_12) h
            refine st_icmp (t := 56) (b := true) rfl (decide_eq_true hc_12) rfl ?_
            refine st_go 1 (pc' := 57) (lo' := [(0, .ref 42)]) (st' := [.ref 42]) rfl ?_
            refine st_callv (k' := 252) (as := [.ref 42]) (rest := []) (lo' := [(0, .ref 42)]) (wf := fun d => wR L d e) rfl rfl rfl ?_
            refine tMO_next (fun d_13 h => ⟨d_13, rfl, rfl, ?_⟩) d_7 h
            refine st_go 1 (pc' := 15) (lo' := [(0, .ref 42)]) (st' := []) rfl ?_
            refine vmWp.sub (lo' := [(0, .ref 42)]) ⟨rfl, trivial⟩ ?_
            exact ih d_13 h
set_option maxRecDepth 100000 in
def MO_readOperands (d : vmD) (Q : Int32 → vmD → Prop) : Prop :=
  bnd (sF d 42 28 0) fun d_1 =>
  if (gF d_1 42 3) = 1 then
  (Q 1 d_1)
  else
  (∃ m15, MO_readOperands_15 Q m15 d_1)
set_option maxRecDepth 100000 in
set_option maxHeartbeats 4000000 in
theorem tMO_readOperands {L : Nat} {e : vmD} {Qo : Option Value → vmW → Prop} {Q : Int32 → vmD → Prop} (hQ : ∀ r d, Q r d → Qo (some (.int r)) (wR L d e)) (d : vmD) (h : MO_readOperands d Q) : vmWp 282 0 [(0, .ref 42)] [] (wR L d e) Qo := by
  unfold MO_readOperands at h
  refine st_go 2 (pc' := 2) (lo' := [(0, .ref 42)]) (st' := [.int 0, .ref 42]) rfl ?_
  refine st_putIR (o := 42) (f := 28) rfl rfl rfl rfl rfl (fun d_1 hy_d_1 => ?_)
  have h := h d_1 hy_d_1
  refine st_go 3 (pc' := 10) (lo' := [(0, .ref 42)]) (st' := [.int 1, .int (gF d_1 42 3)]) rfl ?_
  by_cases hc_2 : (gF d_1 42 3) = 1
  · have h := Eq.mp (if_pos hc_2) h
    refine st_icmp (t := 13) (b := false) rfl (decide_eq_false (fun z => z hc_2)) rfl ?_
    refine st_go 1 (pc' := 14) (lo' := [(0, .ref 42)]) (st' := [.int 1]) rfl ?_
    exact st_retZ rfl rfl (Or.inr rfl) (hQ _ _ h)
  · have h := Eq.mp (if_neg hc_2) h
    refine st_icmp (t := 15) (b := true) rfl (decide_eq_true hc_2) rfl ?_
    obtain ⟨m15, h⟩ := h
    refine vmWp.sub (lo' := [(0, .ref 42)]) ⟨rfl, trivial⟩ ?_
    exact tMO_readOperands_15 hQ m15 d_1 h
set_option maxRecDepth 100000 in
def MO_give (x1 : Int32) (x2 : Int32) (x3 : Int32) (d : vmD) (Q : Int32 → vmD → Prop) : Prop :=
  bnd (sF d 42 29 x1) fun d_1 =>
  bnd (sF d_1 42 30 x2) fun d_2 =>
  bnd (sF d_2 42 31 x3) fun d_3 =>
  Q 1 d_3
set_option maxRecDepth 100000 in
set_option maxHeartbeats 4000000 in
theorem tMO_give {L : Nat} {e : vmD} {Qo : Option Value → vmW → Prop} {Q : Int32 → vmD → Prop} (hQ : ∀ r d, Q r d → Qo (some (.int r)) (wR L d e)) (x1 : Int32) (x2 : Int32) (x3 : Int32) (d : vmD) (h : MO_give x1 x2 x3 d Q) : vmWp 283 0 [(0, .ref 42), (1, .int x1), (2, .int x2), (3, .int x3)] [] (wR L d e) Qo := by
  unfold MO_give at h
  refine st_go 2 (pc' := 2) (lo' := [(0, .ref 42), (1, .int x1), (2, .int x2), (3, .int x3)]) (st' := [.int x1, .ref 42]) rfl ?_
  refine st_putIR (o := 42) (f := 29) rfl rfl rfl rfl rfl (fun d_1 hy_d_1 => ?_)
  have h := h d_1 hy_d_1
  refine st_go 2 (pc' := 7) (lo' := [(0, .ref 42), (1, .int x1), (2, .int x2), (3, .int x3)]) (st' := [.int x2, .ref 42]) rfl ?_
  refine st_putIR (o := 42) (f := 30) rfl rfl rfl rfl rfl (fun d_2 hy_d_2 => ?_)
  have h := h d_2 hy_d_2
  refine st_go 2 (pc' := 12) (lo' := [(0, .ref 42), (1, .int x1), (2, .int x2), (3, .int x3)]) (st' := [.int x3, .ref 42]) rfl ?_
  refine st_putIR (o := 42) (f := 31) rfl rfl rfl rfl rfl (fun d_3 hy_d_3 => ?_)
  have h := h d_3 hy_d_3
  refine st_go 1 (pc' := 16) (lo' := [(0, .ref 42), (1, .int x1), (2, .int x2), (3, .int x3)]) (st' := [.int 1]) rfl ?_
  exact st_retZ rfl rfl (Or.inr rfl) (hQ _ _ h)
set_option maxRecDepth 100000 in
def MO_conditionOf (x1 : Int32) (d : vmD) (Q : Int32 → vmD → Prop) : Prop :=
  ixOk x1 8 ∧
  bnd (gA d 50 x1.toNatClampNeg) fun y_2 =>
  if y_2 = 8 then
  (ixOk x1 8 ∧
  bnd (gA d 51 x1.toNatClampNeg) fun y_5 =>
  Q y_5 d)
  else
  (ixOk x1 8 ∧
  bnd (gA d 50 x1.toNatClampNeg) fun y_7 =>
  if y_7 = 1 then
  (ixOk x1 8 ∧
  bnd (gA d 51 x1.toNatClampNeg) fun y_10 =>
  if y_10 = 1 then
  (Q 3 d)
  else
  (Q (-1) d))
  else
  (Q (-1) d))
set_option maxRecDepth 100000 in
set_option maxHeartbeats 4000000 in
theorem tMO_conditionOf {L : Nat} {e : vmD} {Qo : Option Value → vmW → Prop} {Q : Int32 → vmD → Prop} (hQ : ∀ r d, Q r d → Qo (some (.int r)) (wR L d e)) (x1 : Int32) (d : vmD) (h : MO_conditionOf x1 d Q) : vmWp 291 0 [(0, .ref 42), (1, .int x1)] [] (wR L d e) Qo := by
  unfold MO_conditionOf at h
  refine st_go 3 (pc' := 5) (lo' := [(0, .ref 42), (1, .int x1)]) (st' := [.int x1, .ref 50]) rfl ?_
  obtain ⟨hj_1, h⟩ := h
  refine st_ialdR (o := 50) rfl rfl hj_1 rfl (fun y_2 hy_y_2 => ?_)
  have h := h y_2 hy_y_2
  refine st_go 1 (pc' := 8) (lo' := [(0, .ref 42), (1, .int x1)]) (st' := [.int 8, .int y_2]) rfl ?_
  by_cases hc_3 : y_2 = 8
  · have h := Eq.mp (if_pos hc_3) h
    refine st_icmp (t := 11) (b := false) rfl (decide_eq_false (fun z => z hc_3)) rfl ?_
    refine st_go 3 (pc' := 16) (lo' := [(0, .ref 42), (1, .int x1)]) (st' := [.int x1, .ref 51]) rfl ?_
    obtain ⟨hj_4, h⟩ := h
    refine st_ialdR (o := 51) rfl rfl hj_4 rfl (fun y_5 hy_y_5 => ?_)
    have h := h y_5 hy_y_5
    refine st_go 1 (pc' := 45) (lo' := [(0, .ref 42), (1, .int x1)]) (st' := [.int y_5]) rfl ?_
    exact st_retI rfl rfl (hQ _ _ h)
  · have h := Eq.mp (if_neg hc_3) h
    refine st_icmp (t := 20) (b := true) rfl (decide_eq_true hc_3) rfl ?_
    refine st_go 3 (pc' := 25) (lo' := [(0, .ref 42), (1, .int x1)]) (st' := [.int x1, .ref 50]) rfl ?_
    obtain ⟨hj_6, h⟩ := h
    refine st_ialdR (o := 50) rfl rfl hj_6 rfl (fun y_7 hy_y_7 => ?_)
    have h := h y_7 hy_y_7
    refine st_go 1 (pc' := 27) (lo' := [(0, .ref 42), (1, .int x1)]) (st' := [.int 1, .int y_7]) rfl ?_
    by_cases hc_8 : y_7 = 1
    · have h := Eq.mp (if_pos hc_8) h
      refine st_icmp (t := 30) (b := false) rfl (decide_eq_false (fun z => z hc_8)) rfl ?_
      refine st_go 3 (pc' := 35) (lo' := [(0, .ref 42), (1, .int x1)]) (st' := [.int x1, .ref 51]) rfl ?_
      obtain ⟨hj_9, h⟩ := h
      refine st_ialdR (o := 51) rfl rfl hj_9 rfl (fun y_10 hy_y_10 => ?_)
      have h := h y_10 hy_y_10
      refine st_go 1 (pc' := 37) (lo' := [(0, .ref 42), (1, .int x1)]) (st' := [.int 1, .int y_10]) rfl ?_
      by_cases hc_11 : y_10 = 1
      · have h := Eq.mp (if_pos hc_11) h
        refine st_icmp (t := 40) (b := false) rfl (decide_eq_false (fun z => z hc_11)) rfl ?_
        refine st_go 2 (pc' := 45) (lo' := [(0, .ref 42), (1, .int x1)]) (st' := [.int 3]) rfl ?_
        exact st_retI rfl rfl (hQ _ _ h)
      · have h := Eq.mp (if_neg hc_11) h
        refine st_icmp (t := 44) (b := true) rfl (decide_eq_true hc_11) rfl ?_
        refine st_go 1 (pc' := 45) (lo' := [(0, .ref 42), (1, .int x1)]) (st' := [.int (-1)]) rfl ?_
        exact st_retI rfl rfl (hQ _ _ h)
    · have h := Eq.mp (if_neg hc_8) h
      refine st_icmp (t := 44) (b := true) rfl (decide_eq_true hc_8) rfl ?_
      refine st_go 1 (pc' := 45) (lo' := [(0, .ref 42), (1, .int x1)]) (st' := [.int (-1)]) rfl ?_
      exact st_retI rfl rfl (hQ _ _ h)
set_option maxRecDepth 100000 in
def MO_octetOf (x1 : Int32) (d : vmD) (Q : Int32 → vmD → Prop) : Prop :=
  ixOk x1 8 ∧
  bnd (gA d 50 x1.toNatClampNeg) fun y_2 =>
  if y_2 = 1 then
  (ixOk x1 8 ∧
  bnd (gA d 51 x1.toNatClampNeg) fun y_5 =>
  Q y_5 d)
  else
  (ixOk x1 8 ∧
  bnd (gA d 50 x1.toNatClampNeg) fun y_7 =>
  if y_7 = 9 then
  (Q 6 d)
  else
  (ixOk x1 8 ∧
  bnd (gA d 50 x1.toNatClampNeg) fun y_10 =>
  if y_10 = 14 then
  (Q 6 d)
  else
  (Q (-1) d)))
set_option maxRecDepth 100000 in
set_option maxHeartbeats 4000000 in
theorem tMO_octetOf {L : Nat} {e : vmD} {Qo : Option Value → vmW → Prop} {Q : Int32 → vmD → Prop} (hQ : ∀ r d, Q r d → Qo (some (.int r)) (wR L d e)) (x1 : Int32) (d : vmD) (h : MO_octetOf x1 d Q) : vmWp 289 0 [(0, .ref 42), (1, .int x1)] [] (wR L d e) Qo := by
  unfold MO_octetOf at h
  refine st_go 3 (pc' := 5) (lo' := [(0, .ref 42), (1, .int x1)]) (st' := [.int x1, .ref 50]) rfl ?_
  obtain ⟨hj_1, h⟩ := h
  refine st_ialdR (o := 50) rfl rfl hj_1 rfl (fun y_2 hy_y_2 => ?_)
  have h := h y_2 hy_y_2
  refine st_go 1 (pc' := 7) (lo' := [(0, .ref 42), (1, .int x1)]) (st' := [.int 1, .int y_2]) rfl ?_
  by_cases hc_3 : y_2 = 1
  · have h := Eq.mp (if_pos hc_3) h
    refine st_icmp (t := 10) (b := false) rfl (decide_eq_false (fun z => z hc_3)) rfl ?_
    refine st_go 3 (pc' := 15) (lo' := [(0, .ref 42), (1, .int x1)]) (st' := [.int x1, .ref 51]) rfl ?_
    obtain ⟨hj_4, h⟩ := h
    refine st_ialdR (o := 51) rfl rfl hj_4 rfl (fun y_5 hy_y_5 => ?_)
    have h := h y_5 hy_y_5
    refine st_go 1 (pc' := 47) (lo' := [(0, .ref 42), (1, .int x1)]) (st' := [.int y_5]) rfl ?_
    exact st_retI rfl rfl (hQ _ _ h)
  · have h := Eq.mp (if_neg hc_3) h
    refine st_icmp (t := 19) (b := true) rfl (decide_eq_true hc_3) rfl ?_
    refine st_go 3 (pc' := 24) (lo' := [(0, .ref 42), (1, .int x1)]) (st' := [.int x1, .ref 50]) rfl ?_
    obtain ⟨hj_6, h⟩ := h
    refine st_ialdR (o := 50) rfl rfl hj_6 rfl (fun y_7 hy_y_7 => ?_)
    have h := h y_7 hy_y_7
    refine st_go 1 (pc' := 27) (lo' := [(0, .ref 42), (1, .int x1)]) (st' := [.int 9, .int y_7]) rfl ?_
    by_cases hc_8 : y_7 = 9
    · have h := Eq.mp (if_pos hc_8) h
      refine st_icmp (t := 41) (b := true) rfl (decide_eq_true hc_8) rfl ?_
      refine st_go 2 (pc' := 47) (lo' := [(0, .ref 42), (1, .int x1)]) (st' := [.int 6]) rfl ?_
      exact st_retI rfl rfl (hQ _ _ h)
    · have h := Eq.mp (if_neg hc_8) h
      refine st_icmp (t := 30) (b := false) rfl (decide_eq_false hc_8) rfl ?_
      refine st_go 3 (pc' := 35) (lo' := [(0, .ref 42), (1, .int x1)]) (st' := [.int x1, .ref 50]) rfl ?_
      obtain ⟨hj_9, h⟩ := h
      refine st_ialdR (o := 50) rfl rfl hj_9 rfl (fun y_10 hy_y_10 => ?_)
      have h := h y_10 hy_y_10
      refine st_go 1 (pc' := 38) (lo' := [(0, .ref 42), (1, .int x1)]) (st' := [.int 14, .int y_10]) rfl ?_
      by_cases hc_11 : y_10 = 14
      · have h := Eq.mp (if_pos hc_11) h
        refine st_icmp (t := 41) (b := false) rfl (decide_eq_false (fun z => z hc_11)) rfl ?_
        refine st_go 2 (pc' := 47) (lo' := [(0, .ref 42), (1, .int x1)]) (st' := [.int 6]) rfl ?_
        exact st_retI rfl rfl (hQ _ _ h)
      · have h := Eq.mp (if_neg hc_11) h
        refine st_icmp (t := 46) (b := true) rfl (decide_eq_true hc_11) rfl ?_
        refine st_go 1 (pc' := 47) (lo' := [(0, .ref 42), (1, .int x1)]) (st' := [.int (-1)]) rfl ?_
        exact st_retI rfl rfl (hQ _ _ h)
set_option maxRecDepth 100000 in
def MO_is (x1 : Int32) (x2 : Int32) (d : vmD) (Q : Int32 → vmD → Prop) : Prop :=
  ixOk x1 8 ∧
  bnd (gA d 50 x1.toNatClampNeg) fun y_2 =>
  if y_2 = x2 then
  (Q 1 d)
  else
  (Q 0 d)
set_option maxRecDepth 100000 in
set_option maxHeartbeats 4000000 in
theorem tMO_is {L : Nat} {e : vmD} {Qo : Option Value → vmW → Prop} {Q : Int32 → vmD → Prop} (hQ : ∀ r d, Q r d → Qo (some (.int r)) (wR L d e)) (x1 : Int32) (x2 : Int32) (d : vmD) (h : MO_is x1 x2 d Q) : vmWp 285 0 [(0, .ref 42), (1, .int x1), (2, .int x2)] [] (wR L d e) Qo := by
  unfold MO_is at h
  refine st_go 3 (pc' := 5) (lo' := [(0, .ref 42), (1, .int x1), (2, .int x2)]) (st' := [.int x1, .ref 50]) rfl ?_
  obtain ⟨hj_1, h⟩ := h
  refine st_ialdR (o := 50) rfl rfl hj_1 rfl (fun y_2 hy_y_2 => ?_)
  have h := h y_2 hy_y_2
  refine st_go 1 (pc' := 7) (lo' := [(0, .ref 42), (1, .int x1), (2, .int x2)]) (st' := [.int x2, .int y_2]) rfl ?_
  by_cases hc_3 : y_2 = x2
  · have h := Eq.mp (if_pos hc_3) h
    refine st_icmp (t := 10) (b := false) rfl (decide_eq_false (fun z => z hc_3)) rfl ?_
    refine st_go 2 (pc' := 15) (lo' := [(0, .ref 42), (1, .int x1), (2, .int x2)]) (st' := [.int 1]) rfl ?_
    exact st_retZ rfl rfl (Or.inr rfl) (hQ _ _ h)
  · have h := Eq.mp (if_neg hc_3) h
    refine st_icmp (t := 14) (b := true) rfl (decide_eq_true hc_3) rfl ?_
    refine st_go 1 (pc' := 15) (lo' := [(0, .ref 42), (1, .int x1), (2, .int x2)]) (st' := [.int 0]) rfl ?_
    exact st_retZ rfl rfl (Or.inl rfl) (hQ _ _ h)
set_option maxRecDepth 100000 in
def MO_frontOf (x1 : Int32) (d : vmD) (Q : Int32 → vmD → Prop) : Prop :=
  ixOk x1 8 ∧
  bnd (gA d 51 x1.toNatClampNeg) fun y_2 =>
  if y_2 = 1 then
  (Q 221 d)
  else
  (Q 253 d)
set_option maxRecDepth 100000 in
set_option maxHeartbeats 4000000 in
theorem tMO_frontOf {L : Nat} {e : vmD} {Qo : Option Value → vmW → Prop} {Q : Int32 → vmD → Prop} (hQ : ∀ r d, Q r d → Qo (some (.int r)) (wR L d e)) (x1 : Int32) (d : vmD) (h : MO_frontOf x1 d Q) : vmWp 288 0 [(0, .ref 42), (1, .int x1)] [] (wR L d e) Qo := by
  unfold MO_frontOf at h
  refine st_go 3 (pc' := 5) (lo' := [(0, .ref 42), (1, .int x1)]) (st' := [.int x1, .ref 51]) rfl ?_
  obtain ⟨hj_1, h⟩ := h
  refine st_ialdR (o := 51) rfl rfl hj_1 rfl (fun y_2 hy_y_2 => ?_)
  have h := h y_2 hy_y_2
  refine st_go 1 (pc' := 7) (lo' := [(0, .ref 42), (1, .int x1)]) (st' := [.int 1, .int y_2]) rfl ?_
  by_cases hc_3 : y_2 = 1
  · have h := Eq.mp (if_pos hc_3) h
    refine st_icmp (t := 10) (b := false) rfl (decide_eq_false (fun z => z hc_3)) rfl ?_
    refine st_go 2 (pc' := 19) (lo' := [(0, .ref 42), (1, .int x1)]) (st' := [.int 221]) rfl ?_
    exact st_retI rfl rfl (hQ _ _ h)
  · have h := Eq.mp (if_neg hc_3) h
    refine st_icmp (t := 16) (b := true) rfl (decide_eq_true hc_3) rfl ?_
    refine st_go 1 (pc' := 19) (lo' := [(0, .ref 42), (1, .int x1)]) (st' := [.int 253]) rfl ?_
    exact st_retI rfl rfl (hQ _ _ h)
set_option maxRecDepth 100000 in
def MO_giveOctet (x1 : Int32) (x2 : Int32) (x3 : Int32) (d : vmD) (Q : Int32 → vmD → Prop) : Prop :=
  ixOk x3 8 ∧
  bnd (gA d 50 x3.toNatClampNeg) fun y_2 =>
  if y_2 = 14 then
  (bnd (sF d 42 36 x3) fun d_4 =>
  MO_frontOf x3 d_4 fun r_6 d_5 =>
  MO_give r_6 x1 x2 d_5 fun r_8 d_7 =>
  (r_8 = 0 ∨ r_8 = 1) ∧ Q r_8 d_7)
  else
  (MO_give 0 x1 x2 d fun r_10 d_9 =>
  (r_10 = 0 ∨ r_10 = 1) ∧ Q r_10 d_9)
set_option maxRecDepth 100000 in
set_option maxHeartbeats 4000000 in
theorem tMO_giveOctet {L : Nat} {e : vmD} {Qo : Option Value → vmW → Prop} {Q : Int32 → vmD → Prop} (hQ : ∀ r d, Q r d → Qo (some (.int r)) (wR L d e)) (x1 : Int32) (x2 : Int32) (x3 : Int32) (d : vmD) (h : MO_giveOctet x1 x2 x3 d Q) : vmWp 290 0 [(0, .ref 42), (1, .int x1), (2, .int x2), (3, .int x3)] [] (wR L d e) Qo := by
  unfold MO_giveOctet at h
  refine st_go 3 (pc' := 5) (lo' := [(0, .ref 42), (1, .int x1), (2, .int x2), (3, .int x3)]) (st' := [.int x3, .ref 50]) rfl ?_
  obtain ⟨hj_1, h⟩ := h
  refine st_ialdR (o := 50) rfl rfl hj_1 rfl (fun y_2 hy_y_2 => ?_)
  have h := h y_2 hy_y_2
  refine st_go 1 (pc' := 8) (lo' := [(0, .ref 42), (1, .int x1), (2, .int x2), (3, .int x3)]) (st' := [.int 14, .int y_2]) rfl ?_
  by_cases hc_3 : y_2 = 14
  · have h := Eq.mp (if_pos hc_3) h
    refine st_icmp (t := 11) (b := false) rfl (decide_eq_false (fun z => z hc_3)) rfl ?_
    refine st_go 2 (pc' := 13) (lo' := [(0, .ref 42), (1, .int x1), (2, .int x2), (3, .int x3)]) (st' := [.int x3, .ref 42]) rfl ?_
    refine st_putIR (o := 42) (f := 36) rfl rfl rfl rfl rfl (fun d_4 hy_d_4 => ?_)
    have h := h d_4 hy_d_4
    refine st_go 3 (pc' := 19) (lo' := [(0, .ref 42), (1, .int x1), (2, .int x2), (3, .int x3)]) (st' := [.int x3, .ref 42, .ref 42]) rfl ?_
    refine st_calli (k' := 288) (as := [.ref 42, .int x3]) (rest := [.ref 42]) (lo' := [(0, .ref 42), (1, .int x3)]) (wf := fun d => wR L d e) rfl rfl rfl ?_
    refine tMO_frontOf (fun r_6 d_5 h => ⟨r_6, d_5, rfl, rfl, ?_⟩) x3 d_4 h
    refine st_go 2 (pc' := 24) (lo' := [(0, .ref 42), (1, .int x1), (2, .int x2), (3, .int x3)]) (st' := [.int x2, .int x1, .int r_6, .ref 42]) rfl ?_
    refine st_calli (k' := 283) (as := [.ref 42, .int r_6, .int x1, .int x2]) (rest := []) (lo' := [(0, .ref 42), (1, .int r_6), (2, .int x1), (3, .int x2)]) (wf := fun d => wR L d e) rfl rfl rfl ?_
    refine tMO_give (fun r_8 d_7 h => ⟨r_8, d_7, rfl, rfl, ?_⟩) r_6 x1 x2 d_5 h
    exact st_retZ rfl rfl h.1 (hQ _ _ h.2)
  · have h := Eq.mp (if_neg hc_3) h
    refine st_icmp (t := 28) (b := true) rfl (decide_eq_true hc_3) rfl ?_
    refine st_go 4 (pc' := 32) (lo' := [(0, .ref 42), (1, .int x1), (2, .int x2), (3, .int x3)]) (st' := [.int x2, .int x1, .int 0, .ref 42]) rfl ?_
    refine st_calli (k' := 283) (as := [.ref 42, .int 0, .int x1, .int x2]) (rest := []) (lo' := [(0, .ref 42), (1, .int 0), (2, .int x1), (3, .int x2)]) (wf := fun d => wR L d e) rfl rfl rfl ?_
    refine tMO_give (fun r_10 d_9 h => ⟨r_10, d_9, rfl, rfl, ?_⟩) 0 x1 x2 d h
    exact st_retZ rfl rfl h.1 (hQ _ _ h.2)
set_option maxRecDepth 100000 in
def MO_alone (x1 : Int64) (d : vmD) (Q : Int32 → vmD → Prop) : Prop :=
  if (lg_cmp x1 5461314) = 0 then
  (Q 16 d)
  else
  (if (lg_cmp x1 4279876) = 0 then
  (Q 32 d)
  else
  (if (lg_cmp x1 5787474) = 0 then
  (Q 40 d)
  else
  (if (lg_cmp x1 20306) = 0 then
  (Q 48 d)
  else
  (if (lg_cmp x1 17232) = 0 then
  (Q 56 d)
  else
  (Q (-1) d)))))
set_option maxRecDepth 100000 in
set_option maxHeartbeats 4000000 in
theorem tMO_alone {L : Nat} {e : vmD} {Qo : Option Value → vmW → Prop} {Q : Int32 → vmD → Prop} (hQ : ∀ r d, Q r d → Qo (some (.int r)) (wR L d e)) (x1 : Int64) (d : vmD) (h : MO_alone x1 d Q) : vmWp 294 0 [(0, .ref 42), (1, .long x1)] [] (wR L d e) Qo := by
  unfold MO_alone at h
  refine st_go 3 (pc' := 5) (lo' := [(0, .ref 42), (1, .long x1)]) (st' := [.int (lg_cmp x1 5461314)]) rfl ?_
  by_cases hc_1 : (lg_cmp x1 5461314) = 0
  · have h := Eq.mp (if_pos hc_1) h
    refine st_if (t := 8) (b := false) rfl (decide_eq_false (fun z => z hc_1)) rfl ?_
    refine st_go 2 (pc' := 66) (lo' := [(0, .ref 42), (1, .long x1)]) (st' := [.int 16]) rfl ?_
    exact st_retI rfl rfl (hQ _ _ h)
  · have h := Eq.mp (if_neg hc_1) h
    refine st_if (t := 13) (b := true) rfl (decide_eq_true hc_1) rfl ?_
    refine st_go 3 (pc' := 18) (lo' := [(0, .ref 42), (1, .long x1)]) (st' := [.int (lg_cmp x1 4279876)]) rfl ?_
    by_cases hc_2 : (lg_cmp x1 4279876) = 0
    · have h := Eq.mp (if_pos hc_2) h
      refine st_if (t := 21) (b := false) rfl (decide_eq_false (fun z => z hc_2)) rfl ?_
      refine st_go 2 (pc' := 66) (lo' := [(0, .ref 42), (1, .long x1)]) (st' := [.int 32]) rfl ?_
      exact st_retI rfl rfl (hQ _ _ h)
    · have h := Eq.mp (if_neg hc_2) h
      refine st_if (t := 26) (b := true) rfl (decide_eq_true hc_2) rfl ?_
      refine st_go 3 (pc' := 31) (lo' := [(0, .ref 42), (1, .long x1)]) (st' := [.int (lg_cmp x1 5787474)]) rfl ?_
      by_cases hc_3 : (lg_cmp x1 5787474) = 0
      · have h := Eq.mp (if_pos hc_3) h
        refine st_if (t := 34) (b := false) rfl (decide_eq_false (fun z => z hc_3)) rfl ?_
        refine st_go 2 (pc' := 66) (lo' := [(0, .ref 42), (1, .long x1)]) (st' := [.int 40]) rfl ?_
        exact st_retI rfl rfl (hQ _ _ h)
      · have h := Eq.mp (if_neg hc_3) h
        refine st_if (t := 39) (b := true) rfl (decide_eq_true hc_3) rfl ?_
        refine st_go 3 (pc' := 44) (lo' := [(0, .ref 42), (1, .long x1)]) (st' := [.int (lg_cmp x1 20306)]) rfl ?_
        by_cases hc_4 : (lg_cmp x1 20306) = 0
        · have h := Eq.mp (if_pos hc_4) h
          refine st_if (t := 47) (b := false) rfl (decide_eq_false (fun z => z hc_4)) rfl ?_
          refine st_go 2 (pc' := 66) (lo' := [(0, .ref 42), (1, .long x1)]) (st' := [.int 48]) rfl ?_
          exact st_retI rfl rfl (hQ _ _ h)
        · have h := Eq.mp (if_neg hc_4) h
          refine st_if (t := 52) (b := true) rfl (decide_eq_true hc_4) rfl ?_
          refine st_go 3 (pc' := 57) (lo' := [(0, .ref 42), (1, .long x1)]) (st' := [.int (lg_cmp x1 17232)]) rfl ?_
          by_cases hc_5 : (lg_cmp x1 17232) = 0
          · have h := Eq.mp (if_pos hc_5) h
            refine st_if (t := 60) (b := false) rfl (decide_eq_false (fun z => z hc_5)) rfl ?_
            refine st_go 2 (pc' := 66) (lo' := [(0, .ref 42), (1, .long x1)]) (st' := [.int 56]) rfl ?_
            exact st_retI rfl rfl (hQ _ _ h)
          · have h := Eq.mp (if_neg hc_5) h
            refine st_if (t := 65) (b := true) rfl (decide_eq_true hc_5) rfl ?_
            refine st_go 1 (pc' := 66) (lo' := [(0, .ref 42), (1, .long x1)]) (st' := [.int (-1)]) rfl ?_
            exact st_retI rfl rfl (hQ _ _ h)
set_option maxRecDepth 100000 in
def MO_shiftOf (x1 : Int64) (d : vmD) (Q : Int32 → vmD → Prop) : Prop :=
  if (lg_cmp x1 5393475) = 0 then
  (Q 0 d)
  else
  (if (lg_cmp x1 5395011) = 0 then
  (Q 8 d)
  else
  (if (lg_cmp x1 21068) = 0 then
  (Q 16 d)
  else
  (if (lg_cmp x1 21074) = 0 then
  (Q 24 d)
  else
  (if (lg_cmp x1 5459009) = 0 then
  (Q 32 d)
  else
  (if (lg_cmp x1 5460545) = 0 then
  (Q 40 d)
  else
  (if (lg_cmp x1 5460556) = 0 then
  (Q 56 d)
  else
  (Q (-1) d)))))))
set_option maxRecDepth 100000 in
set_option maxHeartbeats 4000000 in
theorem tMO_shiftOf {L : Nat} {e : vmD} {Qo : Option Value → vmW → Prop} {Q : Int32 → vmD → Prop} (hQ : ∀ r d, Q r d → Qo (some (.int r)) (wR L d e)) (x1 : Int64) (d : vmD) (h : MO_shiftOf x1 d Q) : vmWp 293 0 [(0, .ref 42), (1, .long x1)] [] (wR L d e) Qo := by
  unfold MO_shiftOf at h
  refine st_go 3 (pc' := 5) (lo' := [(0, .ref 42), (1, .long x1)]) (st' := [.int (lg_cmp x1 5393475)]) rfl ?_
  by_cases hc_1 : (lg_cmp x1 5393475) = 0
  · have h := Eq.mp (if_pos hc_1) h
    refine st_if (t := 8) (b := false) rfl (decide_eq_false (fun z => z hc_1)) rfl ?_
    refine st_go 2 (pc' := 91) (lo' := [(0, .ref 42), (1, .long x1)]) (st' := [.int 0]) rfl ?_
    exact st_retI rfl rfl (hQ _ _ h)
  · have h := Eq.mp (if_neg hc_1) h
    refine st_if (t := 12) (b := true) rfl (decide_eq_true hc_1) rfl ?_
    refine st_go 3 (pc' := 17) (lo' := [(0, .ref 42), (1, .long x1)]) (st' := [.int (lg_cmp x1 5395011)]) rfl ?_
    by_cases hc_2 : (lg_cmp x1 5395011) = 0
    · have h := Eq.mp (if_pos hc_2) h
      refine st_if (t := 20) (b := false) rfl (decide_eq_false (fun z => z hc_2)) rfl ?_
      refine st_go 2 (pc' := 91) (lo' := [(0, .ref 42), (1, .long x1)]) (st' := [.int 8]) rfl ?_
      exact st_retI rfl rfl (hQ _ _ h)
    · have h := Eq.mp (if_neg hc_2) h
      refine st_if (t := 25) (b := true) rfl (decide_eq_true hc_2) rfl ?_
      refine st_go 3 (pc' := 30) (lo' := [(0, .ref 42), (1, .long x1)]) (st' := [.int (lg_cmp x1 21068)]) rfl ?_
      by_cases hc_3 : (lg_cmp x1 21068) = 0
      · have h := Eq.mp (if_pos hc_3) h
        refine st_if (t := 33) (b := false) rfl (decide_eq_false (fun z => z hc_3)) rfl ?_
        refine st_go 2 (pc' := 91) (lo' := [(0, .ref 42), (1, .long x1)]) (st' := [.int 16]) rfl ?_
        exact st_retI rfl rfl (hQ _ _ h)
      · have h := Eq.mp (if_neg hc_3) h
        refine st_if (t := 38) (b := true) rfl (decide_eq_true hc_3) rfl ?_
        refine st_go 3 (pc' := 43) (lo' := [(0, .ref 42), (1, .long x1)]) (st' := [.int (lg_cmp x1 21074)]) rfl ?_
        by_cases hc_4 : (lg_cmp x1 21074) = 0
        · have h := Eq.mp (if_pos hc_4) h
          refine st_if (t := 46) (b := false) rfl (decide_eq_false (fun z => z hc_4)) rfl ?_
          refine st_go 2 (pc' := 91) (lo' := [(0, .ref 42), (1, .long x1)]) (st' := [.int 24]) rfl ?_
          exact st_retI rfl rfl (hQ _ _ h)
        · have h := Eq.mp (if_neg hc_4) h
          refine st_if (t := 51) (b := true) rfl (decide_eq_true hc_4) rfl ?_
          refine st_go 3 (pc' := 56) (lo' := [(0, .ref 42), (1, .long x1)]) (st' := [.int (lg_cmp x1 5459009)]) rfl ?_
          by_cases hc_5 : (lg_cmp x1 5459009) = 0
          · have h := Eq.mp (if_pos hc_5) h
            refine st_if (t := 59) (b := false) rfl (decide_eq_false (fun z => z hc_5)) rfl ?_
            refine st_go 2 (pc' := 91) (lo' := [(0, .ref 42), (1, .long x1)]) (st' := [.int 32]) rfl ?_
            exact st_retI rfl rfl (hQ _ _ h)
          · have h := Eq.mp (if_neg hc_5) h
            refine st_if (t := 64) (b := true) rfl (decide_eq_true hc_5) rfl ?_
            refine st_go 3 (pc' := 69) (lo' := [(0, .ref 42), (1, .long x1)]) (st' := [.int (lg_cmp x1 5460545)]) rfl ?_
            by_cases hc_6 : (lg_cmp x1 5460545) = 0
            · have h := Eq.mp (if_pos hc_6) h
              refine st_if (t := 72) (b := false) rfl (decide_eq_false (fun z => z hc_6)) rfl ?_
              refine st_go 2 (pc' := 91) (lo' := [(0, .ref 42), (1, .long x1)]) (st' := [.int 40]) rfl ?_
              exact st_retI rfl rfl (hQ _ _ h)
            · have h := Eq.mp (if_neg hc_6) h
              refine st_if (t := 77) (b := true) rfl (decide_eq_true hc_6) rfl ?_
              refine st_go 3 (pc' := 82) (lo' := [(0, .ref 42), (1, .long x1)]) (st' := [.int (lg_cmp x1 5460556)]) rfl ?_
              by_cases hc_7 : (lg_cmp x1 5460556) = 0
              · have h := Eq.mp (if_pos hc_7) h
                refine st_if (t := 85) (b := false) rfl (decide_eq_false (fun z => z hc_7)) rfl ?_
                refine st_go 2 (pc' := 91) (lo' := [(0, .ref 42), (1, .long x1)]) (st' := [.int 56]) rfl ?_
                exact st_retI rfl rfl (hQ _ _ h)
              · have h := Eq.mp (if_neg hc_7) h
                refine st_if (t := 90) (b := true) rfl (decide_eq_true hc_7) rfl ?_
                refine st_go 1 (pc' := 91) (lo' := [(0, .ref 42), (1, .long x1)]) (st' := [.int (-1)]) rfl ?_
                exact st_retI rfl rfl (hQ _ _ h)
set_option maxRecDepth 100000 in
def MO_giveWith (x1 : Int32) (x2 : Int32) (x3 : Int32) (x4 : Int32) (x5 : Int32) (d : vmD) (Q : Int32 → vmD → Prop) : Prop :=
  bnd (sF d 42 32 x4) fun d_1 =>
  bnd (sF d_1 42 33 x5) fun d_2 =>
  MO_give x1 x2 x3 d_2 fun r_4 d_3 =>
  (r_4 = 0 ∨ r_4 = 1) ∧ Q r_4 d_3
set_option maxRecDepth 100000 in
set_option maxHeartbeats 4000000 in
theorem tMO_giveWith {L : Nat} {e : vmD} {Qo : Option Value → vmW → Prop} {Q : Int32 → vmD → Prop} (hQ : ∀ r d, Q r d → Qo (some (.int r)) (wR L d e)) (x1 : Int32) (x2 : Int32) (x3 : Int32) (x4 : Int32) (x5 : Int32) (d : vmD) (h : MO_giveWith x1 x2 x3 x4 x5 d Q) : vmWp 284 0 [(0, .ref 42), (1, .int x1), (2, .int x2), (3, .int x3), (4, .int x4), (5, .int x5)] [] (wR L d e) Qo := by
  unfold MO_giveWith at h
  refine st_go 2 (pc' := 3) (lo' := [(0, .ref 42), (1, .int x1), (2, .int x2), (3, .int x3), (4, .int x4), (5, .int x5)]) (st' := [.int x4, .ref 42]) rfl ?_
  refine st_putIR (o := 42) (f := 32) rfl rfl rfl rfl rfl (fun d_1 hy_d_1 => ?_)
  have h := h d_1 hy_d_1
  refine st_go 2 (pc' := 9) (lo' := [(0, .ref 42), (1, .int x1), (2, .int x2), (3, .int x3), (4, .int x4), (5, .int x5)]) (st' := [.int x5, .ref 42]) rfl ?_
  refine st_putIR (o := 42) (f := 33) rfl rfl rfl rfl rfl (fun d_2 hy_d_2 => ?_)
  have h := h d_2 hy_d_2
  refine st_go 4 (pc' := 16) (lo' := [(0, .ref 42), (1, .int x1), (2, .int x2), (3, .int x3), (4, .int x4), (5, .int x5)]) (st' := [.int x3, .int x2, .int x1, .ref 42]) rfl ?_
  refine st_calli (k' := 283) (as := [.ref 42, .int x1, .int x2, .int x3]) (rest := []) (lo' := [(0, .ref 42), (1, .int x1), (2, .int x2), (3, .int x3)]) (wf := fun d => wR L d e) rfl rfl rfl ?_
  refine tMO_give (fun r_4 d_3 h => ⟨r_4, d_3, rfl, rfl, ?_⟩) x1 x2 x3 d_2 h
  exact st_retZ rfl rfl h.1 (hQ _ _ h.2)
set_option maxRecDepth 100000 in
def MO_encodeOne_131 (x3 : Int32) (s0 : Int32) (s1 : Int32) (d : vmD) (Q : Int32 → vmD → Prop) : Prop :=
  MO_giveOctet s1 (s0 + ((8 : Int32) * x3)) 0 d fun r_16 d_15 =>
  if r_16 = 0 then
  (Q 0 d_15)
  else
  (Q 1 d_15)
set_option maxRecDepth 100000 in
set_option maxHeartbeats 4000000 in
theorem tMO_encodeOne_131 {L : Nat} {e : vmD} {Qo : Option Value → vmW → Prop} {Q : Int32 → vmD → Prop} (hQ : ∀ r d, Q r d → Qo (some (.int r)) (wR L d e)) (x3 : Int32) (s0 : Int32) (s1 : Int32) (d : vmD) (h : MO_encodeOne_131 x3 s0 s1 d Q) : vmWp 295 131 [(3, .int x3)] [.int s0, .int s1, .ref 42] (wR L d e) Qo := by
  unfold MO_encodeOne_131 at h
  refine st_go 5 (pc' := 137) (lo' := [(3, .int x3)]) (st' := [.int 0, .int (s0 + ((8 : Int32) * x3)), .int s1, .ref 42]) rfl ?_
  refine st_calli (k' := 290) (as := [.ref 42, .int s1, .int (s0 + ((8 : Int32) * x3)), .int 0]) (rest := []) (lo' := [(0, .ref 42), (1, .int s1), (2, .int (s0 + ((8 : Int32) * x3))), (3, .int 0)]) (wf := fun d => wR L d e) rfl rfl rfl ?_
  refine tMO_giveOctet (fun r_16 d_15 h => ⟨r_16, d_15, rfl, rfl, ?_⟩) s1 (s0 + ((8 : Int32) * x3)) 0 d h
  by_cases hc_17 : r_16 = 0
  · have h := Eq.mp (if_pos hc_17) h
    refine st_if (t := 147) (b := true) rfl (decide_eq_true hc_17) rfl ?_
    refine st_go 1 (pc' := 148) (lo' := [(3, .int x3)]) (st' := [.int 0]) rfl ?_
    exact st_retZ rfl rfl (Or.inl rfl) (hQ _ _ h)
  · have h := Eq.mp (if_neg hc_17) h
    refine st_if (t := 143) (b := false) rfl (decide_eq_false hc_17) rfl ?_
    refine st_go 2 (pc' := 148) (lo' := [(3, .int x3)]) (st' := [.int 1]) rfl ?_
    exact st_retZ rfl rfl (Or.inr rfl) (hQ _ _ h)
set_option maxRecDepth 100000 in
def MO_encodeOne_111 (s0 : Int32) (s1 : Int32) (s2 : Int32) (d : vmD) (Q : Int32 → vmD → Prop) : Prop :=
  MO_give s2 s1 s0 d fun r_22 d_21 =>
  (r_22 = 0 ∨ r_22 = 1) ∧ Q r_22 d_21
set_option maxRecDepth 100000 in
set_option maxHeartbeats 4000000 in
theorem tMO_encodeOne_111 {L : Nat} {e : vmD} {Qo : Option Value → vmW → Prop} {Q : Int32 → vmD → Prop} (hQ : ∀ r d, Q r d → Qo (some (.int r)) (wR L d e)) (s0 : Int32) (s1 : Int32) (s2 : Int32) (d : vmD) (h : MO_encodeOne_111 s0 s1 s2 d Q) : vmWp 295 111 [] [.int s0, .int s1, .int s2, .ref 42] (wR L d e) Qo := by
  unfold MO_encodeOne_111 at h
  refine st_calli (k' := 283) (as := [.ref 42, .int s2, .int s1, .int s0]) (rest := []) (lo' := [(0, .ref 42), (1, .int s2), (2, .int s1), (3, .int s0)]) (wf := fun d => wR L d e) rfl rfl rfl ?_
  refine tMO_give (fun r_22 d_21 h => ⟨r_22, d_21, rfl, rfl, ?_⟩) s2 s1 s0 d h
  exact st_retZ rfl rfl h.1 (hQ _ _ h.2)
set_option maxRecDepth 100000 in
def MO_encodeOne_69 (s0 : Int32) (s1 : Int32) (s2 : Int32) (d : vmD) (Q : Int32 → vmD → Prop) : Prop :=
  bnd (gA d 51 0) fun y_24 =>
  MO_give s2 s1 (s0 + ((16 : Int32) * y_24)) d fun r_26 d_25 =>
  (r_26 = 0 ∨ r_26 = 1) ∧ Q r_26 d_25
set_option maxRecDepth 100000 in
set_option maxHeartbeats 4000000 in
theorem tMO_encodeOne_69 {L : Nat} {e : vmD} {Qo : Option Value → vmW → Prop} {Q : Int32 → vmD → Prop} (hQ : ∀ r d, Q r d → Qo (some (.int r)) (wR L d e)) (s0 : Int32) (s1 : Int32) (s2 : Int32) (d : vmD) (h : MO_encodeOne_69 s0 s1 s2 d Q) : vmWp 295 69 [(0, .ref 42)] [.int s0, .int s1, .int s2, .ref 42] (wR L d e) Qo := by
  unfold MO_encodeOne_69 at h
  refine st_go 4 (pc' := 76) (lo' := [(0, .ref 42)]) (st' := [.int 0, .ref 51, .int 16, .int s0, .int s1, .int s2, .ref 42]) rfl ?_
  refine st_ialdR (o := 51) rfl rfl (show ixOk 0 8 by decide) rfl (fun y_24 hy_y_24 => ?_)
  have h := h y_24 hy_y_24
  refine st_go 2 (pc' := 79) (lo' := [(0, .ref 42)]) (st' := [.int (s0 + ((16 : Int32) * y_24)), .int s1, .int s2, .ref 42]) rfl ?_
  refine st_calli (k' := 283) (as := [.ref 42, .int s2, .int s1, .int (s0 + ((16 : Int32) * y_24))]) (rest := []) (lo' := [(0, .ref 42), (1, .int s2), (2, .int s1), (3, .int (s0 + ((16 : Int32) * y_24)))]) (wf := fun d => wR L d e) rfl rfl rfl ?_
  refine tMO_give (fun r_26 d_25 h => ⟨r_26, d_25, rfl, rfl, ?_⟩) s2 s1 (s0 + ((16 : Int32) * y_24)) d h
  exact st_retZ rfl rfl h.1 (hQ _ _ h.2)
set_option maxRecDepth 100000 in
def MO_encodeOne_44 (x3 : Int32) (s0 : Int32) (d : vmD) (Q : Int32 → vmD → Prop) : Prop :=
  MO_is 0 2 d fun r_8 d_7 =>
  if r_8 = 0 then
  (MO_is 0 5 d_7 fun r_11 d_10 =>
  if r_11 = 0 then
  (if x3 < 0 then
  (Q 0 d_10)
  else
  (if s0 = 0 then
  (MO_encodeOne_131 x3 4 0 d_10 Q)
  else
  (MO_encodeOne_131 x3 5 0 d_10 Q)))
  else
  (MO_frontOf 0 d_10 fun r_19 d_18 =>
  if s0 = 0 then
  (MO_encodeOne_111 35 0 r_19 d_18 Q)
  else
  (MO_encodeOne_111 43 0 r_19 d_18 Q)))
  else
  (if s0 = 0 then
  (MO_encodeOne_69 3 0 0 d_7 Q)
  else
  (MO_encodeOne_69 11 0 0 d_7 Q))
set_option maxRecDepth 100000 in
set_option maxHeartbeats 4000000 in
theorem tMO_encodeOne_44 {L : Nat} {e : vmD} {Qo : Option Value → vmW → Prop} {Q : Int32 → vmD → Prop} (hQ : ∀ r d, Q r d → Qo (some (.int r)) (wR L d e)) (x3 : Int32) (s0 : Int32) (d : vmD) (h : MO_encodeOne_44 x3 s0 d Q) : vmWp 295 44 [(0, .ref 42), (3, .int x3)] [.int s0] (wR L d e) Qo := by
  unfold MO_encodeOne_44 at h
  refine st_go 4 (pc' := 49) (lo' := [(5, .int s0), (0, .ref 42), (3, .int x3)]) (st' := [.int 2, .int 0, .ref 42]) rfl ?_
  refine st_calli (k' := 285) (as := [.ref 42, .int 0, .int 2]) (rest := []) (lo' := [(0, .ref 42), (1, .int 0), (2, .int 2)]) (wf := fun d => wR L d e) rfl rfl rfl ?_
  refine tMO_is (fun r_8 d_7 h => ⟨r_8, d_7, rfl, rfl, ?_⟩) 0 2 d h
  by_cases hc_9 : r_8 = 0
  · have h := Eq.mp (if_pos hc_9) h
    refine st_if (t := 83) (b := true) rfl (decide_eq_true hc_9) rfl ?_
    refine st_go 3 (pc' := 86) (lo' := [(5, .int s0), (0, .ref 42), (3, .int x3)]) (st' := [.int 5, .int 0, .ref 42]) rfl ?_
    refine st_calli (k' := 285) (as := [.ref 42, .int 0, .int 5]) (rest := []) (lo' := [(0, .ref 42), (1, .int 0), (2, .int 5)]) (wf := fun d => wR L d e) rfl rfl rfl ?_
    refine tMO_is (fun r_11 d_10 h => ⟨r_11, d_10, rfl, rfl, ?_⟩) 0 5 d_7 h
    by_cases hc_12 : r_11 = 0
    · have h := Eq.mp (if_pos hc_12) h
      refine st_if (t := 115) (b := true) rfl (decide_eq_true hc_12) rfl ?_
      refine st_go 1 (pc' := 116) (lo' := [(5, .int s0), (0, .ref 42), (3, .int x3)]) (st' := [.int x3]) rfl ?_
      by_cases hc_13 : x3 < 0
      · have h := Eq.mp (if_pos hc_13) h
        refine st_if (t := 147) (b := true) rfl (decide_eq_true hc_13) rfl ?_
        refine st_go 1 (pc' := 148) (lo' := [(5, .int s0), (0, .ref 42), (3, .int x3)]) (st' := [.int 0]) rfl ?_
        exact st_retZ rfl rfl (Or.inl rfl) (hQ _ _ h)
      · have h := Eq.mp (if_neg hc_13) h
        refine st_if (t := 119) (b := false) rfl (decide_eq_false hc_13) rfl ?_
        refine st_go 3 (pc' := 123) (lo' := [(5, .int s0), (0, .ref 42), (3, .int x3)]) (st' := [.int s0, .int 0, .ref 42]) rfl ?_
        by_cases hc_14 : s0 = 0
        · have h := Eq.mp (if_pos hc_14) h
          refine st_if (t := 130) (b := true) rfl (decide_eq_true hc_14) rfl ?_
          refine st_go 1 (pc' := 131) (lo' := [(5, .int s0), (0, .ref 42), (3, .int x3)]) (st' := [.int 4, .int 0, .ref 42]) rfl ?_
          refine vmWp.sub (lo' := [(3, .int x3)]) ⟨rfl, trivial⟩ ?_
          exact tMO_encodeOne_131 hQ x3 4 0 d_10 h
        · have h := Eq.mp (if_neg hc_14) h
          refine st_if (t := 126) (b := false) rfl (decide_eq_false hc_14) rfl ?_
          refine st_go 2 (pc' := 131) (lo' := [(5, .int s0), (0, .ref 42), (3, .int x3)]) (st' := [.int 5, .int 0, .ref 42]) rfl ?_
          refine vmWp.sub (lo' := [(3, .int x3)]) ⟨rfl, trivial⟩ ?_
          exact tMO_encodeOne_131 hQ x3 5 0 d_10 h
    · have h := Eq.mp (if_neg hc_12) h
      refine st_if (t := 92) (b := false) rfl (decide_eq_false hc_12) rfl ?_
      refine st_go 3 (pc' := 95) (lo' := [(5, .int s0), (0, .ref 42), (3, .int x3)]) (st' := [.int 0, .ref 42, .ref 42]) rfl ?_
      refine st_calli (k' := 288) (as := [.ref 42, .int 0]) (rest := [.ref 42]) (lo' := [(0, .ref 42), (1, .int 0)]) (wf := fun d => wR L d e) rfl rfl rfl ?_
      refine tMO_frontOf (fun r_19 d_18 h => ⟨r_19, d_18, rfl, rfl, ?_⟩) 0 d_10 h
      refine st_go 2 (pc' := 101) (lo' := [(5, .int s0), (0, .ref 42), (3, .int x3)]) (st' := [.int s0, .int 0, .int r_19, .ref 42]) rfl ?_
      by_cases hc_20 : s0 = 0
      · have h := Eq.mp (if_pos hc_20) h
        refine st_if (t := 109) (b := true) rfl (decide_eq_true hc_20) rfl ?_
        refine st_go 1 (pc' := 111) (lo' := [(5, .int s0), (0, .ref 42), (3, .int x3)]) (st' := [.int 35, .int 0, .int r_19, .ref 42]) rfl ?_
        refine vmWp.sub (lo' := []) trivial ?_
        exact tMO_encodeOne_111 hQ 35 0 r_19 d_18 h
      · have h := Eq.mp (if_neg hc_20) h
        refine st_if (t := 104) (b := false) rfl (decide_eq_false hc_20) rfl ?_
        refine st_go 2 (pc' := 111) (lo' := [(5, .int s0), (0, .ref 42), (3, .int x3)]) (st' := [.int 43, .int 0, .int r_19, .ref 42]) rfl ?_
        refine vmWp.sub (lo' := []) trivial ?_
        exact tMO_encodeOne_111 hQ 43 0 r_19 d_18 h
  · have h := Eq.mp (if_neg hc_9) h
    refine st_if (t := 55) (b := false) rfl (decide_eq_false hc_9) rfl ?_
    refine st_go 4 (pc' := 60) (lo' := [(5, .int s0), (0, .ref 42), (3, .int x3)]) (st' := [.int s0, .int 0, .int 0, .ref 42]) rfl ?_
    by_cases hc_23 : s0 = 0
    · have h := Eq.mp (if_pos hc_23) h
      refine st_if (t := 68) (b := true) rfl (decide_eq_true hc_23) rfl ?_
      refine st_go 1 (pc' := 69) (lo' := [(5, .int s0), (0, .ref 42), (3, .int x3)]) (st' := [.int 3, .int 0, .int 0, .ref 42]) rfl ?_
      refine vmWp.sub (lo' := [(0, .ref 42)]) ⟨rfl, trivial⟩ ?_
      exact tMO_encodeOne_69 hQ 3 0 0 d_7 h
    · have h := Eq.mp (if_neg hc_23) h
      refine st_if (t := 63) (b := false) rfl (decide_eq_false hc_23) rfl ?_
      refine st_go 2 (pc' := 69) (lo' := [(5, .int s0), (0, .ref 42), (3, .int x3)]) (st' := [.int 11, .int 0, .int 0, .ref 42]) rfl ?_
      refine vmWp.sub (lo' := [(0, .ref 42)]) ⟨rfl, trivial⟩ ?_
      exact tMO_encodeOne_69 hQ 11 0 0 d_7 h
set_option maxRecDepth 100000 in
def MO_encodeOne_31 (x1 : Int64) (x3 : Int32) (d : vmD) (Q : Int32 → vmD → Prop) : Prop :=
  if (lg_cmp x1 4474179) = 0 then
  (MO_encodeOne_44 x3 1 d Q)
  else
  (MO_encodeOne_44 x3 0 d Q)
set_option maxRecDepth 100000 in
set_option maxHeartbeats 4000000 in
theorem tMO_encodeOne_31 {L : Nat} {e : vmD} {Qo : Option Value → vmW → Prop} {Q : Int32 → vmD → Prop} (hQ : ∀ r d, Q r d → Qo (some (.int r)) (wR L d e)) (x1 : Int64) (x3 : Int32) (d : vmD) (h : MO_encodeOne_31 x1 x3 d Q) : vmWp 295 31 [(0, .ref 42), (1, .long x1), (3, .int x3)] [] (wR L d e) Qo := by
  unfold MO_encodeOne_31 at h
  refine st_go 3 (pc' := 36) (lo' := [(0, .ref 42), (1, .long x1), (3, .int x3)]) (st' := [.int (lg_cmp x1 4474179)]) rfl ?_
  by_cases hc_6 : (lg_cmp x1 4474179) = 0
  · have h := Eq.mp (if_pos hc_6) h
    refine st_if (t := 39) (b := false) rfl (decide_eq_false (fun z => z hc_6)) rfl ?_
    refine st_go 2 (pc' := 44) (lo' := [(0, .ref 42), (1, .long x1), (3, .int x3)]) (st' := [.int 1]) rfl ?_
    refine vmWp.sub (lo' := [(0, .ref 42), (3, .int x3)]) ⟨rfl, rfl, trivial⟩ ?_
    exact tMO_encodeOne_44 hQ x3 1 d h
  · have h := Eq.mp (if_neg hc_6) h
    refine st_if (t := 43) (b := true) rfl (decide_eq_true hc_6) rfl ?_
    refine st_go 1 (pc' := 44) (lo' := [(0, .ref 42), (1, .long x1), (3, .int x3)]) (st' := [.int 0]) rfl ?_
    refine vmWp.sub (lo' := [(0, .ref 42), (3, .int x3)]) ⟨rfl, rfl, trivial⟩ ?_
    exact tMO_encodeOne_44 hQ x3 0 d h
set_option maxRecDepth 100000 in
def MO_encodeOne_470 (s0 : Int32) (d : vmD) (Q : Int32 → vmD → Prop) : Prop :=
  MO_is 0 2 d fun r_72 d_71 =>
  if r_72 = 0 then
  (MO_is 0 3 d_71 fun r_75 d_74 =>
  if r_75 = 0 then
  (MO_is 0 5 d_74 fun r_78 d_77 =>
  if r_78 = 0 then
  (Q 0 d_77)
  else
  (MO_frontOf 0 d_77 fun r_81 d_80 =>
  MO_give r_81 0 (s0 + 32) d_80 fun r_83 d_82 =>
  if r_83 = 0 then
  (Q 0 d_82)
  else
  (Q 1 d_82)))
  else
  (MO_give 0 0 (s0 + 48) d_74 fun r_86 d_85 =>
  (r_86 = 0 ∨ r_86 = 1) ∧ Q r_86 d_85))
  else
  (bnd (gA d_71 51 0) fun y_87 =>
  if y_87 < 3 then
  (bnd (gA d_71 51 0) fun y_89 =>
  MO_give 0 0 (s0 + ((16 : Int32) * y_89)) d_71 fun r_91 d_90 =>
  if r_91 = 0 then
  (Q 0 d_90)
  else
  (Q 1 d_90))
  else
  (Q 0 d_71))
set_option maxRecDepth 100000 in
set_option maxHeartbeats 4000000 in
theorem tMO_encodeOne_470 {L : Nat} {e : vmD} {Qo : Option Value → vmW → Prop} {Q : Int32 → vmD → Prop} (hQ : ∀ r d, Q r d → Qo (some (.int r)) (wR L d e)) (s0 : Int32) (d : vmD) (h : MO_encodeOne_470 s0 d Q) : vmWp 295 470 [(0, .ref 42)] [.int s0] (wR L d e) Qo := by
  unfold MO_encodeOne_470 at h
  refine st_go 4 (pc' := 475) (lo' := [(5, .int s0), (0, .ref 42)]) (st' := [.int 2, .int 0, .ref 42]) rfl ?_
  refine st_calli (k' := 285) (as := [.ref 42, .int 0, .int 2]) (rest := []) (lo' := [(0, .ref 42), (1, .int 0), (2, .int 2)]) (wf := fun d => wR L d e) rfl rfl rfl ?_
  refine tMO_is (fun r_72 d_71 h => ⟨r_72, d_71, rfl, rfl, ?_⟩) 0 2 d h
  by_cases hc_73 : r_72 = 0
  · have h := Eq.mp (if_pos hc_73) h
    refine st_if (t := 518) (b := true) rfl (decide_eq_true hc_73) rfl ?_
    refine st_go 3 (pc' := 521) (lo' := [(5, .int s0), (0, .ref 42)]) (st' := [.int 3, .int 0, .ref 42]) rfl ?_
    refine st_calli (k' := 285) (as := [.ref 42, .int 0, .int 3]) (rest := []) (lo' := [(0, .ref 42), (1, .int 0), (2, .int 3)]) (wf := fun d => wR L d e) rfl rfl rfl ?_
    refine tMO_is (fun r_75 d_74 h => ⟨r_75, d_74, rfl, rfl, ?_⟩) 0 3 d_71 h
    by_cases hc_76 : r_75 = 0
    · have h := Eq.mp (if_pos hc_76) h
      refine st_if (t := 539) (b := true) rfl (decide_eq_true hc_76) rfl ?_
      refine st_go 3 (pc' := 542) (lo' := [(5, .int s0), (0, .ref 42)]) (st' := [.int 5, .int 0, .ref 42]) rfl ?_
      refine st_calli (k' := 285) (as := [.ref 42, .int 0, .int 5]) (rest := []) (lo' := [(0, .ref 42), (1, .int 0), (2, .int 5)]) (wf := fun d => wR L d e) rfl rfl rfl ?_
      refine tMO_is (fun r_78 d_77 h => ⟨r_78, d_77, rfl, rfl, ?_⟩) 0 5 d_74 h
      by_cases hc_79 : r_78 = 0
      · have h := Eq.mp (if_pos hc_79) h
        refine st_if (t := 570) (b := true) rfl (decide_eq_true hc_79) rfl ?_
        refine st_go 1 (pc' := 571) (lo' := [(5, .int s0), (0, .ref 42)]) (st' := [.int 0]) rfl ?_
        exact st_retZ rfl rfl (Or.inl rfl) (hQ _ _ h)
      · have h := Eq.mp (if_neg hc_79) h
        refine st_if (t := 548) (b := false) rfl (decide_eq_false hc_79) rfl ?_
        refine st_go 3 (pc' := 551) (lo' := [(5, .int s0), (0, .ref 42)]) (st' := [.int 0, .ref 42, .ref 42]) rfl ?_
        refine st_calli (k' := 288) (as := [.ref 42, .int 0]) (rest := [.ref 42]) (lo' := [(0, .ref 42), (1, .int 0)]) (wf := fun d => wR L d e) rfl rfl rfl ?_
        refine tMO_frontOf (fun r_81 d_80 h => ⟨r_81, d_80, rfl, rfl, ?_⟩) 0 d_77 h
        refine st_go 4 (pc' := 560) (lo' := [(5, .int s0), (0, .ref 42)]) (st' := [.int (s0 + 32), .int 0, .int r_81, .ref 42]) rfl ?_
        refine st_calli (k' := 283) (as := [.ref 42, .int r_81, .int 0, .int (s0 + 32)]) (rest := []) (lo' := [(0, .ref 42), (1, .int r_81), (2, .int 0), (3, .int (s0 + 32))]) (wf := fun d => wR L d e) rfl rfl rfl ?_
        refine tMO_give (fun r_83 d_82 h => ⟨r_83, d_82, rfl, rfl, ?_⟩) r_81 0 (s0 + 32) d_80 h
        by_cases hc_84 : r_83 = 0
        · have h := Eq.mp (if_pos hc_84) h
          refine st_if (t := 570) (b := true) rfl (decide_eq_true hc_84) rfl ?_
          refine st_go 1 (pc' := 571) (lo' := [(5, .int s0), (0, .ref 42)]) (st' := [.int 0]) rfl ?_
          exact st_retZ rfl rfl (Or.inl rfl) (hQ _ _ h)
        · have h := Eq.mp (if_neg hc_84) h
          refine st_if (t := 566) (b := false) rfl (decide_eq_false hc_84) rfl ?_
          refine st_go 2 (pc' := 571) (lo' := [(5, .int s0), (0, .ref 42)]) (st' := [.int 1]) rfl ?_
          exact st_retZ rfl rfl (Or.inr rfl) (hQ _ _ h)
    · have h := Eq.mp (if_neg hc_76) h
      refine st_if (t := 527) (b := false) rfl (decide_eq_false hc_76) rfl ?_
      refine st_go 6 (pc' := 535) (lo' := [(5, .int s0), (0, .ref 42)]) (st' := [.int (s0 + 48), .int 0, .int 0, .ref 42]) rfl ?_
      refine st_calli (k' := 283) (as := [.ref 42, .int 0, .int 0, .int (s0 + 48)]) (rest := []) (lo' := [(0, .ref 42), (1, .int 0), (2, .int 0), (3, .int (s0 + 48))]) (wf := fun d => wR L d e) rfl rfl rfl ?_
      refine tMO_give (fun r_86 d_85 h => ⟨r_86, d_85, rfl, rfl, ?_⟩) 0 0 (s0 + 48) d_74 h
      exact st_retZ rfl rfl h.1 (hQ _ _ h.2)
  · have h := Eq.mp (if_neg hc_73) h
    refine st_if (t := 481) (b := false) rfl (decide_eq_false hc_73) rfl ?_
    refine st_go 3 (pc' := 486) (lo' := [(5, .int s0), (0, .ref 42)]) (st' := [.int 0, .ref 51]) rfl ?_
    refine st_ialdR (o := 51) rfl rfl (show ixOk 0 8 by decide) rfl (fun y_87 hy_y_87 => ?_)
    have h := h y_87 hy_y_87
    refine st_go 1 (pc' := 488) (lo' := [(5, .int s0), (0, .ref 42)]) (st' := [.int 3, .int y_87]) rfl ?_
    by_cases hc_88 : y_87 < 3
    · have h := Eq.mp (if_pos hc_88) h
      refine st_icmp (t := 491) (b := false) rfl (decide_eq_false (Int32.not_le.mpr hc_88)) rfl ?_
      refine st_go 8 (pc' := 503) (lo' := [(5, .int s0), (0, .ref 42)]) (st' := [.int 0, .ref 51, .int 16, .int s0, .int 0, .int 0, .ref 42]) rfl ?_
      refine st_ialdR (o := 51) rfl rfl (show ixOk 0 8 by decide) rfl (fun y_89 hy_y_89 => ?_)
      have h := h y_89 hy_y_89
      refine st_go 2 (pc' := 506) (lo' := [(5, .int s0), (0, .ref 42)]) (st' := [.int (s0 + ((16 : Int32) * y_89)), .int 0, .int 0, .ref 42]) rfl ?_
      refine st_calli (k' := 283) (as := [.ref 42, .int 0, .int 0, .int (s0 + ((16 : Int32) * y_89))]) (rest := []) (lo' := [(0, .ref 42), (1, .int 0), (2, .int 0), (3, .int (s0 + ((16 : Int32) * y_89)))]) (wf := fun d => wR L d e) rfl rfl rfl ?_
      refine tMO_give (fun r_91 d_90 h => ⟨r_91, d_90, rfl, rfl, ?_⟩) 0 0 (s0 + ((16 : Int32) * y_89)) d_71 h
      by_cases hc_92 : r_91 = 0
      · have h := Eq.mp (if_pos hc_92) h
        refine st_if (t := 516) (b := true) rfl (decide_eq_true hc_92) rfl ?_
        refine st_go 1 (pc' := 517) (lo' := [(5, .int s0), (0, .ref 42)]) (st' := [.int 0]) rfl ?_
        exact st_retZ rfl rfl (Or.inl rfl) (hQ _ _ h)
      · have h := Eq.mp (if_neg hc_92) h
        refine st_if (t := 512) (b := false) rfl (decide_eq_false hc_92) rfl ?_
        refine st_go 2 (pc' := 517) (lo' := [(5, .int s0), (0, .ref 42)]) (st' := [.int 1]) rfl ?_
        exact st_retZ rfl rfl (Or.inr rfl) (hQ _ _ h)
    · have h := Eq.mp (if_neg hc_88) h
      refine st_icmp (t := 516) (b := true) rfl (decide_eq_true (Int32.not_lt.mp hc_88)) rfl ?_
      refine st_go 1 (pc' := 517) (lo' := [(5, .int s0), (0, .ref 42)]) (st' := [.int 0]) rfl ?_
      exact st_retZ rfl rfl (Or.inl rfl) (hQ _ _ h)
set_option maxRecDepth 100000 in
def MO_encodeOne_453 (x1 : Int64) (d : vmD) (Q : Int32 → vmD → Prop) : Prop :=
  if (lg_cmp x1 5263184) = 0 then
  (MO_encodeOne_470 193 d Q)
  else
  (MO_encodeOne_470 197 d Q)
set_option maxRecDepth 100000 in
set_option maxHeartbeats 4000000 in
theorem tMO_encodeOne_453 {L : Nat} {e : vmD} {Qo : Option Value → vmW → Prop} {Q : Int32 → vmD → Prop} (hQ : ∀ r d, Q r d → Qo (some (.int r)) (wR L d e)) (x1 : Int64) (d : vmD) (h : MO_encodeOne_453 x1 d Q) : vmWp 295 453 [(0, .ref 42), (1, .long x1)] [] (wR L d e) Qo := by
  unfold MO_encodeOne_453 at h
  refine st_go 3 (pc' := 458) (lo' := [(0, .ref 42), (1, .long x1)]) (st' := [.int (lg_cmp x1 5263184)]) rfl ?_
  by_cases hc_70 : (lg_cmp x1 5263184) = 0
  · have h := Eq.mp (if_pos hc_70) h
    refine st_if (t := 461) (b := false) rfl (decide_eq_false (fun z => z hc_70)) rfl ?_
    refine st_go 2 (pc' := 470) (lo' := [(0, .ref 42), (1, .long x1)]) (st' := [.int 193]) rfl ?_
    refine vmWp.sub (lo' := [(0, .ref 42)]) ⟨rfl, trivial⟩ ?_
    exact tMO_encodeOne_470 hQ 193 d h
  · have h := Eq.mp (if_neg hc_70) h
    refine st_if (t := 467) (b := true) rfl (decide_eq_true hc_70) rfl ?_
    refine st_go 1 (pc' := 470) (lo' := [(0, .ref 42), (1, .long x1)]) (st' := [.int 197]) rfl ?_
    refine vmWp.sub (lo' := [(0, .ref 42)]) ⟨rfl, trivial⟩ ?_
    exact tMO_encodeOne_470 hQ 197 d h
set_option maxRecDepth 100000 in
def MO_encodeOne_609 (s0 : Int32) (d : vmD) (Q : Int32 → vmD → Prop) : Prop :=
  bnd (sF d 42 34 s0) fun d_97 =>
  bnd (sF d_97 42 35 0) fun d_98 =>
  if (gF d_98 42 34) = 2 then
  (MO_give 0 0 199 d_98 fun r_101 d_100 =>
  (r_101 = 0 ∨ r_101 = 1) ∧ Q r_101 d_100)
  else
  (MO_give 0 237 70 d_98 fun r_103 d_102 =>
  (r_103 = 0 ∨ r_103 = 1) ∧ Q r_103 d_102)
set_option maxRecDepth 100000 in
set_option maxHeartbeats 4000000 in
theorem tMO_encodeOne_609 {L : Nat} {e : vmD} {Qo : Option Value → vmW → Prop} {Q : Int32 → vmD → Prop} (hQ : ∀ r d, Q r d → Qo (some (.int r)) (wR L d e)) (s0 : Int32) (d : vmD) (h : MO_encodeOne_609 s0 d Q) : vmWp 295 609 [(0, .ref 42)] [.int s0, .ref 42] (wR L d e) Qo := by
  unfold MO_encodeOne_609 at h
  refine st_putIR (o := 42) (f := 34) rfl rfl rfl rfl rfl (fun d_97 hy_d_97 => ?_)
  have h := h d_97 hy_d_97
  refine st_go 2 (pc' := 614) (lo' := [(0, .ref 42)]) (st' := [.int 0, .ref 42]) rfl ?_
  refine st_putIR (o := 42) (f := 35) rfl rfl rfl rfl rfl (fun d_98 hy_d_98 => ?_)
  have h := h d_98 hy_d_98
  refine st_go 3 (pc' := 622) (lo' := [(0, .ref 42)]) (st' := [.int 2, .int (gF d_98 42 34)]) rfl ?_
  by_cases hc_99 : (gF d_98 42 34) = 2
  · have h := Eq.mp (if_pos hc_99) h
    refine st_icmp (t := 625) (b := false) rfl (decide_eq_false (fun z => z hc_99)) rfl ?_
    refine st_go 4 (pc' := 631) (lo' := [(0, .ref 42)]) (st' := [.int 199, .int 0, .int 0, .ref 42]) rfl ?_
    refine st_calli (k' := 283) (as := [.ref 42, .int 0, .int 0, .int 199]) (rest := []) (lo' := [(0, .ref 42), (1, .int 0), (2, .int 0), (3, .int 199)]) (wf := fun d => wR L d e) rfl rfl rfl ?_
    refine tMO_give (fun r_101 d_100 h => ⟨r_101, d_100, rfl, rfl, ?_⟩) 0 0 199 d_98 h
    refine st_go 1 (pc' := 647) (lo' := [(0, .ref 42)]) (st' := [.int r_101]) rfl ?_
    exact st_retZ rfl rfl h.1 (hQ _ _ h.2)
  · have h := Eq.mp (if_neg hc_99) h
    refine st_icmp (t := 637) (b := true) rfl (decide_eq_true hc_99) rfl ?_
    refine st_go 4 (pc' := 644) (lo' := [(0, .ref 42)]) (st' := [.int 70, .int 237, .int 0, .ref 42]) rfl ?_
    refine st_calli (k' := 283) (as := [.ref 42, .int 0, .int 237, .int 70]) (rest := []) (lo' := [(0, .ref 42), (1, .int 0), (2, .int 237), (3, .int 70)]) (wf := fun d => wR L d e) rfl rfl rfl ?_
    refine tMO_give (fun r_103 d_102 h => ⟨r_103, d_102, rfl, rfl, ?_⟩) 0 237 70 d_98 h
    exact st_retZ rfl rfl h.1 (hQ _ _ h.2)
set_option maxRecDepth 100000 in
def MO_encodeOne_588 (x1 : Int64) (x4 : Int32) (d : vmD) (Q : Int32 → vmD → Prop) : Prop :=
  if x4 = 0 then
  (Q 0 d)
  else
  (if (lg_cmp x1 5395284) = 0 then
  (MO_encodeOne_609 2 d Q)
  else
  (MO_encodeOne_609 3 d Q))
set_option maxRecDepth 100000 in
set_option maxHeartbeats 4000000 in
theorem tMO_encodeOne_588 {L : Nat} {e : vmD} {Qo : Option Value → vmW → Prop} {Q : Int32 → vmD → Prop} (hQ : ∀ r d, Q r d → Qo (some (.int r)) (wR L d e)) (x1 : Int64) (x4 : Int32) (d : vmD) (h : MO_encodeOne_588 x1 x4 d Q) : vmWp 295 588 [(0, .ref 42), (1, .long x1), (4, .int x4)] [] (wR L d e) Qo := by
  unfold MO_encodeOne_588 at h
  refine st_go 1 (pc' := 590) (lo' := [(0, .ref 42), (1, .long x1), (4, .int x4)]) (st' := [.int x4]) rfl ?_
  by_cases hc_95 : x4 = 0
  · have h := Eq.mp (if_pos hc_95) h
    refine st_if (t := 593) (b := false) rfl (decide_eq_false (fun z => z hc_95)) rfl ?_
    refine st_go 1 (pc' := 594) (lo' := [(0, .ref 42), (1, .long x1), (4, .int x4)]) (st' := [.int 0]) rfl ?_
    exact st_retZ rfl rfl (Or.inl rfl) (hQ _ _ h)
  · have h := Eq.mp (if_neg hc_95) h
    refine st_if (t := 595) (b := true) rfl (decide_eq_true hc_95) rfl ?_
    refine st_go 4 (pc' := 601) (lo' := [(0, .ref 42), (1, .long x1), (4, .int x4)]) (st' := [.int (lg_cmp x1 5395284), .ref 42]) rfl ?_
    by_cases hc_96 : (lg_cmp x1 5395284) = 0
    · have h := Eq.mp (if_pos hc_96) h
      refine st_if (t := 604) (b := false) rfl (decide_eq_false (fun z => z hc_96)) rfl ?_
      refine st_go 2 (pc' := 609) (lo' := [(0, .ref 42), (1, .long x1), (4, .int x4)]) (st' := [.int 2, .ref 42]) rfl ?_
      refine vmWp.sub (lo' := [(0, .ref 42)]) ⟨rfl, trivial⟩ ?_
      exact tMO_encodeOne_609 hQ 2 d h
    · have h := Eq.mp (if_neg hc_96) h
      refine st_if (t := 608) (b := true) rfl (decide_eq_true hc_96) rfl ?_
      refine st_go 1 (pc' := 609) (lo' := [(0, .ref 42), (1, .long x1), (4, .int x4)]) (st' := [.int 3, .ref 42]) rfl ?_
      refine vmWp.sub (lo' := [(0, .ref 42)]) ⟨rfl, trivial⟩ ?_
      exact tMO_encodeOne_609 hQ 3 d h
set_option maxRecDepth 100000 in
def MO_encodeOne (x1 : Int64) (d : vmD) (Q : Int32 → vmD → Prop) : Prop :=
  MO_octetOf 0 d fun r_2 d_1 =>
  MO_is 0 16 d_1 fun r_4 d_3 =>
  if (lg_cmp x1 4804163) = 0 then
  (MO_encodeOne_31 x1 r_2 d_3 Q)
  else
  (if (lg_cmp x1 4474179) = 0 then
  (MO_encodeOne_31 x1 r_2 d_3 Q)
  else
  (MO_alone x1 d_3 fun r_29 d_28 =>
  if r_29 < 0 then
  (MO_shiftOf x1 d_28 fun r_32 d_31 =>
  if r_32 < 0 then
  (if (lg_cmp x1 1145720410) = 0 then
  (if r_4 = 0 then
  (Q 0 d_31)
  else
  (MO_giveWith 0 0 16 3 0 d_31 fun r_37 d_36 =>
  if r_37 = 0 then
  (Q 0 d_36)
  else
  (Q 1 d_36)))
  else
  (if (lg_cmp x1 19026) = 0 then
  (if r_4 = 0 then
  (Q 0 d_31)
  else
  (MO_giveWith 0 0 24 3 0 d_31 fun r_42 d_41 =>
  if r_42 = 0 then
  (Q 0 d_41)
  else
  (Q 1 d_41)))
  else
  (if (lg_cmp x1 19024) = 0 then
  (MO_is 0 9 d_31 fun r_46 d_45 =>
  if r_46 = 0 then
  (MO_is 0 14 d_45 fun r_49 d_48 =>
  if r_49 = 0 then
  (if r_4 = 0 then
  (Q 0 d_48)
  else
  (MO_giveWith 0 0 195 2 0 d_48 fun r_53 d_52 =>
  if r_53 = 0 then
  (Q 0 d_52)
  else
  (Q 1 d_52)))
  else
  (bnd (gA d_48 54 0) fun y_55 =>
  if y_55 = 0 then
  (Q 0 d_48)
  else
  (MO_frontOf 0 d_48 fun r_58 d_57 =>
  MO_give r_58 0 233 d_57 fun r_60 d_59 =>
  if r_60 = 0 then
  (Q 0 d_59)
  else
  (Q 1 d_59))))
  else
  (MO_give 0 0 233 d_45 fun r_63 d_62 =>
  (r_63 = 0 ∨ r_63 = 1) ∧ Q r_63 d_62))
  else
  (if (lg_cmp x1 1128352844) = 0 then
  (if r_4 = 0 then
  (Q 0 d_31)
  else
  (MO_giveWith 0 0 205 2 0 d_31 fun r_67 d_66 =>
  if r_67 = 0 then
  (Q 0 d_66)
  else
  (Q 1 d_66)))
  else
  (if (lg_cmp x1 5263184) = 0 then
  (MO_encodeOne_453 x1 d_31 Q)
  else
  (if (lg_cmp x1 1347769160) = 0 then
  (MO_encodeOne_453 x1 d_31 Q)
  else
  (if (lg_cmp x1 5395284) = 0 then
  (MO_encodeOne_588 x1 r_4 d_31 Q)
  else
  (if (lg_cmp x1 18765) = 0 then
  (MO_encodeOne_588 x1 r_4 d_31 Q)
  else
  (Q 0 d_31)))))))))
  else
  (if r_2 < 0 then
  (Q 0 d_31)
  else
  (MO_shiftOf x1 d_31 fun r_107 d_106 =>
  MO_giveOctet 203 (r_107 + r_2) 0 d_106 fun r_109 d_108 =>
  if r_109 = 0 then
  (Q 0 d_108)
  else
  (Q 1 d_108))))
  else
  (if r_4 = 0 then
  (if r_2 < 0 then
  (Q 0 d_28)
  else
  (MO_alone x1 d_28 fun r_114 d_113 =>
  MO_giveOctet 0 (((128 : Int32) + r_114) + r_2) 0 d_113 fun r_116 d_115 =>
  if r_116 = 0 then
  (Q 0 d_115)
  else
  (Q 1 d_115)))
  else
  (MO_alone x1 d_28 fun r_119 d_118 =>
  MO_giveWith 0 0 ((198 : Int32) + r_119) 1 0 d_118 fun r_121 d_120 =>
  (r_121 = 0 ∨ r_121 = 1) ∧ Q r_121 d_120))))
set_option maxRecDepth 100000 in
set_option maxHeartbeats 4000000 in
theorem tMO_encodeOne {L : Nat} {e : vmD} {Qo : Option Value → vmW → Prop} {Q : Int32 → vmD → Prop} (hQ : ∀ r d, Q r d → Qo (some (.int r)) (wR L d e)) (x1 : Int64) (d : vmD) (h : MO_encodeOne x1 d Q) : vmWp 295 0 [(0, .ref 42), (1, .long x1)] [] (wR L d e) Qo := by
  unfold MO_encodeOne at h
  refine st_go 2 (pc' := 2) (lo' := [(0, .ref 42), (1, .long x1)]) (st' := [.int 0, .ref 42]) rfl ?_
  refine st_calli (k' := 289) (as := [.ref 42, .int 0]) (rest := []) (lo' := [(0, .ref 42), (1, .int 0)]) (wf := fun d => wR L d e) rfl rfl rfl ?_
  refine tMO_octetOf (fun r_2 d_1 h => ⟨r_2, d_1, rfl, rfl, ?_⟩) 0 d h
  refine st_go 4 (pc' := 10) (lo' := [(3, .int r_2), (0, .ref 42), (1, .long x1)]) (st' := [.int 16, .int 0, .ref 42]) rfl ?_
  refine st_calli (k' := 285) (as := [.ref 42, .int 0, .int 16]) (rest := []) (lo' := [(0, .ref 42), (1, .int 0), (2, .int 16)]) (wf := fun d => wR L d e) rfl rfl rfl ?_
  refine tMO_is (fun r_4 d_3 h => ⟨r_4, d_3, rfl, rfl, ?_⟩) 0 16 d_1 h
  refine st_go 4 (pc' := 20) (lo' := [(4, .int r_4), (3, .int r_2), (0, .ref 42), (1, .long x1)]) (st' := [.int (lg_cmp x1 4804163)]) rfl ?_
  by_cases hc_5 : (lg_cmp x1 4804163) = 0
  · have h := Eq.mp (if_pos hc_5) h
    refine st_if (t := 31) (b := true) rfl (decide_eq_true hc_5) rfl ?_
    refine vmWp.sub (lo' := [(0, .ref 42), (1, .long x1), (3, .int r_2)]) ⟨rfl, rfl, rfl, trivial⟩ ?_
    exact tMO_encodeOne_31 hQ x1 r_2 d_3 h
  · have h := Eq.mp (if_neg hc_5) h
    refine st_if (t := 23) (b := false) rfl (decide_eq_false hc_5) rfl ?_
    refine st_go 3 (pc' := 28) (lo' := [(4, .int r_4), (3, .int r_2), (0, .ref 42), (1, .long x1)]) (st' := [.int (lg_cmp x1 4474179)]) rfl ?_
    by_cases hc_27 : (lg_cmp x1 4474179) = 0
    · have h := Eq.mp (if_pos hc_27) h
      refine st_if (t := 31) (b := false) rfl (decide_eq_false (fun z => z hc_27)) rfl ?_
      refine vmWp.sub (lo' := [(0, .ref 42), (1, .long x1), (3, .int r_2)]) ⟨rfl, rfl, rfl, trivial⟩ ?_
      exact tMO_encodeOne_31 hQ x1 r_2 d_3 h
    · have h := Eq.mp (if_neg hc_27) h
      refine st_if (t := 149) (b := true) rfl (decide_eq_true hc_27) rfl ?_
      refine st_go 2 (pc' := 151) (lo' := [(4, .int r_4), (3, .int r_2), (0, .ref 42), (1, .long x1)]) (st' := [.long x1, .ref 42]) rfl ?_
      refine st_calli (k' := 294) (as := [.ref 42, .long x1]) (rest := []) (lo' := [(0, .ref 42), (1, .long x1)]) (wf := fun d => wR L d e) rfl rfl rfl ?_
      refine tMO_alone (fun r_29 d_28 h => ⟨r_29, d_28, rfl, rfl, ?_⟩) x1 d_3 h
      by_cases hc_30 : r_29 < 0
      · have h := Eq.mp (if_pos hc_30) h
        refine st_if (t := 210) (b := true) rfl (decide_eq_true hc_30) rfl ?_
        refine st_go 2 (pc' := 212) (lo' := [(4, .int r_4), (3, .int r_2), (0, .ref 42), (1, .long x1)]) (st' := [.long x1, .ref 42]) rfl ?_
        refine st_calli (k' := 293) (as := [.ref 42, .long x1]) (rest := []) (lo' := [(0, .ref 42), (1, .long x1)]) (wf := fun d => wR L d e) rfl rfl rfl ?_
        refine tMO_shiftOf (fun r_32 d_31 h => ⟨r_32, d_31, rfl, rfl, ?_⟩) x1 d_28 h
        by_cases hc_33 : r_32 < 0
        · have h := Eq.mp (if_pos hc_33) h
          refine st_if (t := 246) (b := true) rfl (decide_eq_true hc_33) rfl ?_
          refine st_go 3 (pc' := 251) (lo' := [(4, .int r_4), (3, .int r_2), (0, .ref 42), (1, .long x1)]) (st' := [.int (lg_cmp x1 1145720410)]) rfl ?_
          by_cases hc_34 : (lg_cmp x1 1145720410) = 0
          · have h := Eq.mp (if_pos hc_34) h
            refine st_if (t := 254) (b := false) rfl (decide_eq_false (fun z => z hc_34)) rfl ?_
            refine st_go 1 (pc' := 256) (lo' := [(4, .int r_4), (3, .int r_2), (0, .ref 42), (1, .long x1)]) (st' := [.int r_4]) rfl ?_
            by_cases hc_35 : r_4 = 0
            · have h := Eq.mp (if_pos hc_35) h
              refine st_if (t := 276) (b := true) rfl (decide_eq_true hc_35) rfl ?_
              refine st_go 1 (pc' := 277) (lo' := [(4, .int r_4), (3, .int r_2), (0, .ref 42), (1, .long x1)]) (st' := [.int 0]) rfl ?_
              exact st_retZ rfl rfl (Or.inl rfl) (hQ _ _ h)
            · have h := Eq.mp (if_neg hc_35) h
              refine st_if (t := 259) (b := false) rfl (decide_eq_false hc_35) rfl ?_
              refine st_go 6 (pc' := 266) (lo' := [(4, .int r_4), (3, .int r_2), (0, .ref 42), (1, .long x1)]) (st' := [.int 0, .int 3, .int 16, .int 0, .int 0, .ref 42]) rfl ?_
              refine st_calli (k' := 284) (as := [.ref 42, .int 0, .int 0, .int 16, .int 3, .int 0]) (rest := []) (lo' := [(0, .ref 42), (1, .int 0), (2, .int 0), (3, .int 16), (4, .int 3), (5, .int 0)]) (wf := fun d => wR L d e) rfl rfl rfl ?_
              refine tMO_giveWith (fun r_37 d_36 h => ⟨r_37, d_36, rfl, rfl, ?_⟩) 0 0 16 3 0 d_31 h
              by_cases hc_38 : r_37 = 0
              · have h := Eq.mp (if_pos hc_38) h
                refine st_if (t := 276) (b := true) rfl (decide_eq_true hc_38) rfl ?_
                refine st_go 1 (pc' := 277) (lo' := [(4, .int r_4), (3, .int r_2), (0, .ref 42), (1, .long x1)]) (st' := [.int 0]) rfl ?_
                exact st_retZ rfl rfl (Or.inl rfl) (hQ _ _ h)
              · have h := Eq.mp (if_neg hc_38) h
                refine st_if (t := 272) (b := false) rfl (decide_eq_false hc_38) rfl ?_
                refine st_go 2 (pc' := 277) (lo' := [(4, .int r_4), (3, .int r_2), (0, .ref 42), (1, .long x1)]) (st' := [.int 1]) rfl ?_
                exact st_retZ rfl rfl (Or.inr rfl) (hQ _ _ h)
          · have h := Eq.mp (if_neg hc_34) h
            refine st_if (t := 278) (b := true) rfl (decide_eq_true hc_34) rfl ?_
            refine st_go 3 (pc' := 283) (lo' := [(4, .int r_4), (3, .int r_2), (0, .ref 42), (1, .long x1)]) (st' := [.int (lg_cmp x1 19026)]) rfl ?_
            by_cases hc_39 : (lg_cmp x1 19026) = 0
            · have h := Eq.mp (if_pos hc_39) h
              refine st_if (t := 286) (b := false) rfl (decide_eq_false (fun z => z hc_39)) rfl ?_
              refine st_go 1 (pc' := 288) (lo' := [(4, .int r_4), (3, .int r_2), (0, .ref 42), (1, .long x1)]) (st' := [.int r_4]) rfl ?_
              by_cases hc_40 : r_4 = 0
              · have h := Eq.mp (if_pos hc_40) h
                refine st_if (t := 308) (b := true) rfl (decide_eq_true hc_40) rfl ?_
                refine st_go 1 (pc' := 309) (lo' := [(4, .int r_4), (3, .int r_2), (0, .ref 42), (1, .long x1)]) (st' := [.int 0]) rfl ?_
                exact st_retZ rfl rfl (Or.inl rfl) (hQ _ _ h)
              · have h := Eq.mp (if_neg hc_40) h
                refine st_if (t := 291) (b := false) rfl (decide_eq_false hc_40) rfl ?_
                refine st_go 6 (pc' := 298) (lo' := [(4, .int r_4), (3, .int r_2), (0, .ref 42), (1, .long x1)]) (st' := [.int 0, .int 3, .int 24, .int 0, .int 0, .ref 42]) rfl ?_
                refine st_calli (k' := 284) (as := [.ref 42, .int 0, .int 0, .int 24, .int 3, .int 0]) (rest := []) (lo' := [(0, .ref 42), (1, .int 0), (2, .int 0), (3, .int 24), (4, .int 3), (5, .int 0)]) (wf := fun d => wR L d e) rfl rfl rfl ?_
                refine tMO_giveWith (fun r_42 d_41 h => ⟨r_42, d_41, rfl, rfl, ?_⟩) 0 0 24 3 0 d_31 h
                by_cases hc_43 : r_42 = 0
                · have h := Eq.mp (if_pos hc_43) h
                  refine st_if (t := 308) (b := true) rfl (decide_eq_true hc_43) rfl ?_
                  refine st_go 1 (pc' := 309) (lo' := [(4, .int r_4), (3, .int r_2), (0, .ref 42), (1, .long x1)]) (st' := [.int 0]) rfl ?_
                  exact st_retZ rfl rfl (Or.inl rfl) (hQ _ _ h)
                · have h := Eq.mp (if_neg hc_43) h
                  refine st_if (t := 304) (b := false) rfl (decide_eq_false hc_43) rfl ?_
                  refine st_go 2 (pc' := 309) (lo' := [(4, .int r_4), (3, .int r_2), (0, .ref 42), (1, .long x1)]) (st' := [.int 1]) rfl ?_
                  exact st_retZ rfl rfl (Or.inr rfl) (hQ _ _ h)
            · have h := Eq.mp (if_neg hc_39) h
              refine st_if (t := 310) (b := true) rfl (decide_eq_true hc_39) rfl ?_
              refine st_go 3 (pc' := 315) (lo' := [(4, .int r_4), (3, .int r_2), (0, .ref 42), (1, .long x1)]) (st' := [.int (lg_cmp x1 19024)]) rfl ?_
              by_cases hc_44 : (lg_cmp x1 19024) = 0
              · have h := Eq.mp (if_pos hc_44) h
                refine st_if (t := 318) (b := false) rfl (decide_eq_false (fun z => z hc_44)) rfl ?_
                refine st_go 3 (pc' := 322) (lo' := [(4, .int r_4), (3, .int r_2), (0, .ref 42), (1, .long x1)]) (st' := [.int 9, .int 0, .ref 42]) rfl ?_
                refine st_calli (k' := 285) (as := [.ref 42, .int 0, .int 9]) (rest := []) (lo' := [(0, .ref 42), (1, .int 0), (2, .int 9)]) (wf := fun d => wR L d e) rfl rfl rfl ?_
                refine tMO_is (fun r_46 d_45 h => ⟨r_46, d_45, rfl, rfl, ?_⟩) 0 9 d_31 h
                by_cases hc_47 : r_46 = 0
                · have h := Eq.mp (if_pos hc_47) h
                  refine st_if (t := 338) (b := true) rfl (decide_eq_true hc_47) rfl ?_
                  refine st_go 3 (pc' := 342) (lo' := [(4, .int r_4), (3, .int r_2), (0, .ref 42), (1, .long x1)]) (st' := [.int 14, .int 0, .ref 42]) rfl ?_
                  refine st_calli (k' := 285) (as := [.ref 42, .int 0, .int 14]) (rest := []) (lo' := [(0, .ref 42), (1, .int 0), (2, .int 14)]) (wf := fun d => wR L d e) rfl rfl rfl ?_
                  refine tMO_is (fun r_49 d_48 h => ⟨r_49, d_48, rfl, rfl, ?_⟩) 0 14 d_45 h
                  by_cases hc_50 : r_49 = 0
                  · have h := Eq.mp (if_pos hc_50) h
                    refine st_if (t := 379) (b := true) rfl (decide_eq_true hc_50) rfl ?_
                    refine st_go 1 (pc' := 381) (lo' := [(4, .int r_4), (3, .int r_2), (0, .ref 42), (1, .long x1)]) (st' := [.int r_4]) rfl ?_
                    by_cases hc_51 : r_4 = 0
                    · have h := Eq.mp (if_pos hc_51) h
                      refine st_if (t := 402) (b := true) rfl (decide_eq_true hc_51) rfl ?_
                      refine st_go 1 (pc' := 403) (lo' := [(4, .int r_4), (3, .int r_2), (0, .ref 42), (1, .long x1)]) (st' := [.int 0]) rfl ?_
                      exact st_retZ rfl rfl (Or.inl rfl) (hQ _ _ h)
                    · have h := Eq.mp (if_neg hc_51) h
                      refine st_if (t := 384) (b := false) rfl (decide_eq_false hc_51) rfl ?_
                      refine st_go 6 (pc' := 392) (lo' := [(4, .int r_4), (3, .int r_2), (0, .ref 42), (1, .long x1)]) (st' := [.int 0, .int 2, .int 195, .int 0, .int 0, .ref 42]) rfl ?_
                      refine st_calli (k' := 284) (as := [.ref 42, .int 0, .int 0, .int 195, .int 2, .int 0]) (rest := []) (lo' := [(0, .ref 42), (1, .int 0), (2, .int 0), (3, .int 195), (4, .int 2), (5, .int 0)]) (wf := fun d => wR L d e) rfl rfl rfl ?_
                      refine tMO_giveWith (fun r_53 d_52 h => ⟨r_53, d_52, rfl, rfl, ?_⟩) 0 0 195 2 0 d_48 h
                      by_cases hc_54 : r_53 = 0
                      · have h := Eq.mp (if_pos hc_54) h
                        refine st_if (t := 402) (b := true) rfl (decide_eq_true hc_54) rfl ?_
                        refine st_go 1 (pc' := 403) (lo' := [(4, .int r_4), (3, .int r_2), (0, .ref 42), (1, .long x1)]) (st' := [.int 0]) rfl ?_
                        exact st_retZ rfl rfl (Or.inl rfl) (hQ _ _ h)
                      · have h := Eq.mp (if_neg hc_54) h
                        refine st_if (t := 398) (b := false) rfl (decide_eq_false hc_54) rfl ?_
                        refine st_go 2 (pc' := 403) (lo' := [(4, .int r_4), (3, .int r_2), (0, .ref 42), (1, .long x1)]) (st' := [.int 1]) rfl ?_
                        exact st_retZ rfl rfl (Or.inr rfl) (hQ _ _ h)
                  · have h := Eq.mp (if_neg hc_50) h
                    refine st_if (t := 348) (b := false) rfl (decide_eq_false hc_50) rfl ?_
                    refine st_go 3 (pc' := 353) (lo' := [(4, .int r_4), (3, .int r_2), (0, .ref 42), (1, .long x1)]) (st' := [.int 0, .ref 54]) rfl ?_
                    refine st_zaldR (o := 54) rfl rfl (show ixOk 0 8 by decide) rfl (fun y_55 hy_y_55 => ?_)
                    have h := h y_55 hy_y_55
                    by_cases hc_56 : y_55 = 0
                    · have h := Eq.mp (if_pos hc_56) h
                      refine st_if (t := 377) (b := true) rfl (decide_eq_true hc_56) rfl ?_
                      refine st_go 1 (pc' := 378) (lo' := [(4, .int r_4), (3, .int r_2), (0, .ref 42), (1, .long x1)]) (st' := [.int 0]) rfl ?_
                      exact st_retZ rfl rfl (Or.inl rfl) (hQ _ _ h)
                    · have h := Eq.mp (if_neg hc_56) h
                      refine st_if (t := 357) (b := false) rfl (decide_eq_false hc_56) rfl ?_
                      refine st_go 3 (pc' := 360) (lo' := [(4, .int r_4), (3, .int r_2), (0, .ref 42), (1, .long x1)]) (st' := [.int 0, .ref 42, .ref 42]) rfl ?_
                      refine st_calli (k' := 288) (as := [.ref 42, .int 0]) (rest := [.ref 42]) (lo' := [(0, .ref 42), (1, .int 0)]) (wf := fun d => wR L d e) rfl rfl rfl ?_
                      refine tMO_frontOf (fun r_58 d_57 h => ⟨r_58, d_57, rfl, rfl, ?_⟩) 0 d_48 h
                      refine st_go 2 (pc' := 367) (lo' := [(4, .int r_4), (3, .int r_2), (0, .ref 42), (1, .long x1)]) (st' := [.int 233, .int 0, .int r_58, .ref 42]) rfl ?_
                      refine st_calli (k' := 283) (as := [.ref 42, .int r_58, .int 0, .int 233]) (rest := []) (lo' := [(0, .ref 42), (1, .int r_58), (2, .int 0), (3, .int 233)]) (wf := fun d => wR L d e) rfl rfl rfl ?_
                      refine tMO_give (fun r_60 d_59 h => ⟨r_60, d_59, rfl, rfl, ?_⟩) r_58 0 233 d_57 h
                      by_cases hc_61 : r_60 = 0
                      · have h := Eq.mp (if_pos hc_61) h
                        refine st_if (t := 377) (b := true) rfl (decide_eq_true hc_61) rfl ?_
                        refine st_go 1 (pc' := 378) (lo' := [(4, .int r_4), (3, .int r_2), (0, .ref 42), (1, .long x1)]) (st' := [.int 0]) rfl ?_
                        exact st_retZ rfl rfl (Or.inl rfl) (hQ _ _ h)
                      · have h := Eq.mp (if_neg hc_61) h
                        refine st_if (t := 373) (b := false) rfl (decide_eq_false hc_61) rfl ?_
                        refine st_go 2 (pc' := 378) (lo' := [(4, .int r_4), (3, .int r_2), (0, .ref 42), (1, .long x1)]) (st' := [.int 1]) rfl ?_
                        exact st_retZ rfl rfl (Or.inr rfl) (hQ _ _ h)
                · have h := Eq.mp (if_neg hc_47) h
                  refine st_if (t := 328) (b := false) rfl (decide_eq_false hc_47) rfl ?_
                  refine st_go 4 (pc' := 334) (lo' := [(4, .int r_4), (3, .int r_2), (0, .ref 42), (1, .long x1)]) (st' := [.int 233, .int 0, .int 0, .ref 42]) rfl ?_
                  refine st_calli (k' := 283) (as := [.ref 42, .int 0, .int 0, .int 233]) (rest := []) (lo' := [(0, .ref 42), (1, .int 0), (2, .int 0), (3, .int 233)]) (wf := fun d => wR L d e) rfl rfl rfl ?_
                  refine tMO_give (fun r_63 d_62 h => ⟨r_63, d_62, rfl, rfl, ?_⟩) 0 0 233 d_45 h
                  exact st_retZ rfl rfl h.1 (hQ _ _ h.2)
              · have h := Eq.mp (if_neg hc_44) h
                refine st_if (t := 404) (b := true) rfl (decide_eq_true hc_44) rfl ?_
                refine st_go 3 (pc' := 409) (lo' := [(4, .int r_4), (3, .int r_2), (0, .ref 42), (1, .long x1)]) (st' := [.int (lg_cmp x1 1128352844)]) rfl ?_
                by_cases hc_64 : (lg_cmp x1 1128352844) = 0
                · have h := Eq.mp (if_pos hc_64) h
                  refine st_if (t := 412) (b := false) rfl (decide_eq_false (fun z => z hc_64)) rfl ?_
                  refine st_go 1 (pc' := 414) (lo' := [(4, .int r_4), (3, .int r_2), (0, .ref 42), (1, .long x1)]) (st' := [.int r_4]) rfl ?_
                  by_cases hc_65 : r_4 = 0
                  · have h := Eq.mp (if_pos hc_65) h
                    refine st_if (t := 435) (b := true) rfl (decide_eq_true hc_65) rfl ?_
                    refine st_go 1 (pc' := 436) (lo' := [(4, .int r_4), (3, .int r_2), (0, .ref 42), (1, .long x1)]) (st' := [.int 0]) rfl ?_
                    exact st_retZ rfl rfl (Or.inl rfl) (hQ _ _ h)
                  · have h := Eq.mp (if_neg hc_65) h
                    refine st_if (t := 417) (b := false) rfl (decide_eq_false hc_65) rfl ?_
                    refine st_go 6 (pc' := 425) (lo' := [(4, .int r_4), (3, .int r_2), (0, .ref 42), (1, .long x1)]) (st' := [.int 0, .int 2, .int 205, .int 0, .int 0, .ref 42]) rfl ?_
                    refine st_calli (k' := 284) (as := [.ref 42, .int 0, .int 0, .int 205, .int 2, .int 0]) (rest := []) (lo' := [(0, .ref 42), (1, .int 0), (2, .int 0), (3, .int 205), (4, .int 2), (5, .int 0)]) (wf := fun d => wR L d e) rfl rfl rfl ?_
                    refine tMO_giveWith (fun r_67 d_66 h => ⟨r_67, d_66, rfl, rfl, ?_⟩) 0 0 205 2 0 d_31 h
                    by_cases hc_68 : r_67 = 0
                    · have h := Eq.mp (if_pos hc_68) h
                      refine st_if (t := 435) (b := true) rfl (decide_eq_true hc_68) rfl ?_
                      refine st_go 1 (pc' := 436) (lo' := [(4, .int r_4), (3, .int r_2), (0, .ref 42), (1, .long x1)]) (st' := [.int 0]) rfl ?_
                      exact st_retZ rfl rfl (Or.inl rfl) (hQ _ _ h)
                    · have h := Eq.mp (if_neg hc_68) h
                      refine st_if (t := 431) (b := false) rfl (decide_eq_false hc_68) rfl ?_
                      refine st_go 2 (pc' := 436) (lo' := [(4, .int r_4), (3, .int r_2), (0, .ref 42), (1, .long x1)]) (st' := [.int 1]) rfl ?_
                      exact st_retZ rfl rfl (Or.inr rfl) (hQ _ _ h)
                · have h := Eq.mp (if_neg hc_64) h
                  refine st_if (t := 437) (b := true) rfl (decide_eq_true hc_64) rfl ?_
                  refine st_go 3 (pc' := 442) (lo' := [(4, .int r_4), (3, .int r_2), (0, .ref 42), (1, .long x1)]) (st' := [.int (lg_cmp x1 5263184)]) rfl ?_
                  by_cases hc_69 : (lg_cmp x1 5263184) = 0
                  · have h := Eq.mp (if_pos hc_69) h
                    refine st_if (t := 453) (b := true) rfl (decide_eq_true hc_69) rfl ?_
                    refine vmWp.sub (lo' := [(0, .ref 42), (1, .long x1)]) ⟨rfl, rfl, trivial⟩ ?_
                    exact tMO_encodeOne_453 hQ x1 d_31 h
                  · have h := Eq.mp (if_neg hc_69) h
                    refine st_if (t := 445) (b := false) rfl (decide_eq_false hc_69) rfl ?_
                    refine st_go 3 (pc' := 450) (lo' := [(4, .int r_4), (3, .int r_2), (0, .ref 42), (1, .long x1)]) (st' := [.int (lg_cmp x1 1347769160)]) rfl ?_
                    by_cases hc_93 : (lg_cmp x1 1347769160) = 0
                    · have h := Eq.mp (if_pos hc_93) h
                      refine st_if (t := 453) (b := false) rfl (decide_eq_false (fun z => z hc_93)) rfl ?_
                      refine vmWp.sub (lo' := [(0, .ref 42), (1, .long x1)]) ⟨rfl, rfl, trivial⟩ ?_
                      exact tMO_encodeOne_453 hQ x1 d_31 h
                    · have h := Eq.mp (if_neg hc_93) h
                      refine st_if (t := 572) (b := true) rfl (decide_eq_true hc_93) rfl ?_
                      refine st_go 3 (pc' := 577) (lo' := [(4, .int r_4), (3, .int r_2), (0, .ref 42), (1, .long x1)]) (st' := [.int (lg_cmp x1 5395284)]) rfl ?_
                      by_cases hc_94 : (lg_cmp x1 5395284) = 0
                      · have h := Eq.mp (if_pos hc_94) h
                        refine st_if (t := 588) (b := true) rfl (decide_eq_true hc_94) rfl ?_
                        refine vmWp.sub (lo' := [(0, .ref 42), (1, .long x1), (4, .int r_4)]) ⟨rfl, rfl, rfl, trivial⟩ ?_
                        exact tMO_encodeOne_588 hQ x1 r_4 d_31 h
                      · have h := Eq.mp (if_neg hc_94) h
                        refine st_if (t := 580) (b := false) rfl (decide_eq_false hc_94) rfl ?_
                        refine st_go 3 (pc' := 585) (lo' := [(4, .int r_4), (3, .int r_2), (0, .ref 42), (1, .long x1)]) (st' := [.int (lg_cmp x1 18765)]) rfl ?_
                        by_cases hc_104 : (lg_cmp x1 18765) = 0
                        · have h := Eq.mp (if_pos hc_104) h
                          refine st_if (t := 588) (b := false) rfl (decide_eq_false (fun z => z hc_104)) rfl ?_
                          refine vmWp.sub (lo' := [(0, .ref 42), (1, .long x1), (4, .int r_4)]) ⟨rfl, rfl, rfl, trivial⟩ ?_
                          exact tMO_encodeOne_588 hQ x1 r_4 d_31 h
                        · have h := Eq.mp (if_neg hc_104) h
                          refine st_if (t := 648) (b := true) rfl (decide_eq_true hc_104) rfl ?_
                          refine st_go 1 (pc' := 649) (lo' := [(4, .int r_4), (3, .int r_2), (0, .ref 42), (1, .long x1)]) (st' := [.int 0]) rfl ?_
                          exact st_retZ rfl rfl (Or.inl rfl) (hQ _ _ h)
        · have h := Eq.mp (if_neg hc_33) h
          refine st_if (t := 218) (b := false) rfl (decide_eq_false hc_33) rfl ?_
          refine st_go 1 (pc' := 219) (lo' := [(4, .int r_4), (3, .int r_2), (0, .ref 42), (1, .long x1)]) (st' := [.int r_2]) rfl ?_
          by_cases hc_105 : r_2 < 0
          · have h := Eq.mp (if_pos hc_105) h
            refine st_if (t := 244) (b := true) rfl (decide_eq_true hc_105) rfl ?_
            refine st_go 1 (pc' := 245) (lo' := [(4, .int r_4), (3, .int r_2), (0, .ref 42), (1, .long x1)]) (st' := [.int 0]) rfl ?_
            exact st_retZ rfl rfl (Or.inl rfl) (hQ _ _ h)
          · have h := Eq.mp (if_neg hc_105) h
            refine st_if (t := 222) (b := false) rfl (decide_eq_false hc_105) rfl ?_
            refine st_go 4 (pc' := 228) (lo' := [(4, .int r_4), (3, .int r_2), (0, .ref 42), (1, .long x1)]) (st' := [.long x1, .ref 42, .int 203, .ref 42]) rfl ?_
            refine st_calli (k' := 293) (as := [.ref 42, .long x1]) (rest := [.int 203, .ref 42]) (lo' := [(0, .ref 42), (1, .long x1)]) (wf := fun d => wR L d e) rfl rfl rfl ?_
            refine tMO_shiftOf (fun r_107 d_106 h => ⟨r_107, d_106, rfl, rfl, ?_⟩) x1 d_31 h
            refine st_go 3 (pc' := 234) (lo' := [(4, .int r_4), (3, .int r_2), (0, .ref 42), (1, .long x1)]) (st' := [.int 0, .int (r_107 + r_2), .int 203, .ref 42]) rfl ?_
            refine st_calli (k' := 290) (as := [.ref 42, .int 203, .int (r_107 + r_2), .int 0]) (rest := []) (lo' := [(0, .ref 42), (1, .int 203), (2, .int (r_107 + r_2)), (3, .int 0)]) (wf := fun d => wR L d e) rfl rfl rfl ?_
            refine tMO_giveOctet (fun r_109 d_108 h => ⟨r_109, d_108, rfl, rfl, ?_⟩) 203 (r_107 + r_2) 0 d_106 h
            by_cases hc_110 : r_109 = 0
            · have h := Eq.mp (if_pos hc_110) h
              refine st_if (t := 244) (b := true) rfl (decide_eq_true hc_110) rfl ?_
              refine st_go 1 (pc' := 245) (lo' := [(4, .int r_4), (3, .int r_2), (0, .ref 42), (1, .long x1)]) (st' := [.int 0]) rfl ?_
              exact st_retZ rfl rfl (Or.inl rfl) (hQ _ _ h)
            · have h := Eq.mp (if_neg hc_110) h
              refine st_if (t := 240) (b := false) rfl (decide_eq_false hc_110) rfl ?_
              refine st_go 2 (pc' := 245) (lo' := [(4, .int r_4), (3, .int r_2), (0, .ref 42), (1, .long x1)]) (st' := [.int 1]) rfl ?_
              exact st_retZ rfl rfl (Or.inr rfl) (hQ _ _ h)
      · have h := Eq.mp (if_neg hc_30) h
        refine st_if (t := 157) (b := false) rfl (decide_eq_false hc_30) rfl ?_
        refine st_go 1 (pc' := 159) (lo' := [(4, .int r_4), (3, .int r_2), (0, .ref 42), (1, .long x1)]) (st' := [.int r_4]) rfl ?_
        by_cases hc_111 : r_4 = 0
        · have h := Eq.mp (if_pos hc_111) h
          refine st_if (t := 180) (b := true) rfl (decide_eq_true hc_111) rfl ?_
          refine st_go 1 (pc' := 181) (lo' := [(4, .int r_4), (3, .int r_2), (0, .ref 42), (1, .long x1)]) (st' := [.int r_2]) rfl ?_
          by_cases hc_112 : r_2 < 0
          · have h := Eq.mp (if_pos hc_112) h
            refine st_if (t := 208) (b := true) rfl (decide_eq_true hc_112) rfl ?_
            refine st_go 1 (pc' := 209) (lo' := [(4, .int r_4), (3, .int r_2), (0, .ref 42), (1, .long x1)]) (st' := [.int 0]) rfl ?_
            exact st_retZ rfl rfl (Or.inl rfl) (hQ _ _ h)
          · have h := Eq.mp (if_neg hc_112) h
            refine st_if (t := 184) (b := false) rfl (decide_eq_false hc_112) rfl ?_
            refine st_go 5 (pc' := 191) (lo' := [(4, .int r_4), (3, .int r_2), (0, .ref 42), (1, .long x1)]) (st' := [.long x1, .ref 42, .int 128, .int 0, .ref 42]) rfl ?_
            refine st_calli (k' := 294) (as := [.ref 42, .long x1]) (rest := [.int 128, .int 0, .ref 42]) (lo' := [(0, .ref 42), (1, .long x1)]) (wf := fun d => wR L d e) rfl rfl rfl ?_
            refine tMO_alone (fun r_114 d_113 h => ⟨r_114, d_113, rfl, rfl, ?_⟩) x1 d_28 h
            refine st_go 4 (pc' := 198) (lo' := [(4, .int r_4), (3, .int r_2), (0, .ref 42), (1, .long x1)]) (st' := [.int 0, .int (((128 : Int32) + r_114) + r_2), .int 0, .ref 42]) rfl ?_
            refine st_calli (k' := 290) (as := [.ref 42, .int 0, .int (((128 : Int32) + r_114) + r_2), .int 0]) (rest := []) (lo' := [(0, .ref 42), (1, .int 0), (2, .int (((128 : Int32) + r_114) + r_2)), (3, .int 0)]) (wf := fun d => wR L d e) rfl rfl rfl ?_
            refine tMO_giveOctet (fun r_116 d_115 h => ⟨r_116, d_115, rfl, rfl, ?_⟩) 0 (((128 : Int32) + r_114) + r_2) 0 d_113 h
            by_cases hc_117 : r_116 = 0
            · have h := Eq.mp (if_pos hc_117) h
              refine st_if (t := 208) (b := true) rfl (decide_eq_true hc_117) rfl ?_
              refine st_go 1 (pc' := 209) (lo' := [(4, .int r_4), (3, .int r_2), (0, .ref 42), (1, .long x1)]) (st' := [.int 0]) rfl ?_
              exact st_retZ rfl rfl (Or.inl rfl) (hQ _ _ h)
            · have h := Eq.mp (if_neg hc_117) h
              refine st_if (t := 204) (b := false) rfl (decide_eq_false hc_117) rfl ?_
              refine st_go 2 (pc' := 209) (lo' := [(4, .int r_4), (3, .int r_2), (0, .ref 42), (1, .long x1)]) (st' := [.int 1]) rfl ?_
              exact st_retZ rfl rfl (Or.inr rfl) (hQ _ _ h)
        · have h := Eq.mp (if_neg hc_111) h
          refine st_if (t := 162) (b := false) rfl (decide_eq_false hc_111) rfl ?_
          refine st_go 6 (pc' := 170) (lo' := [(4, .int r_4), (3, .int r_2), (0, .ref 42), (1, .long x1)]) (st' := [.long x1, .ref 42, .int 198, .int 0, .int 0, .ref 42]) rfl ?_
          refine st_calli (k' := 294) (as := [.ref 42, .long x1]) (rest := [.int 198, .int 0, .int 0, .ref 42]) (lo' := [(0, .ref 42), (1, .long x1)]) (wf := fun d => wR L d e) rfl rfl rfl ?_
          refine tMO_alone (fun r_119 d_118 h => ⟨r_119, d_118, rfl, rfl, ?_⟩) x1 d_28 h
          refine st_go 3 (pc' := 176) (lo' := [(4, .int r_4), (3, .int r_2), (0, .ref 42), (1, .long x1)]) (st' := [.int 0, .int 1, .int ((198 : Int32) + r_119), .int 0, .int 0, .ref 42]) rfl ?_
          refine st_calli (k' := 284) (as := [.ref 42, .int 0, .int 0, .int ((198 : Int32) + r_119), .int 1, .int 0]) (rest := []) (lo' := [(0, .ref 42), (1, .int 0), (2, .int 0), (3, .int ((198 : Int32) + r_119)), (4, .int 1), (5, .int 0)]) (wf := fun d => wR L d e) rfl rfl rfl ?_
          refine tMO_giveWith (fun r_121 d_120 h => ⟨r_121, d_120, rfl, rfl, ?_⟩) 0 0 ((198 : Int32) + r_119) 1 0 d_118 h
          exact st_retZ rfl rfl h.1 (hQ _ _ h.2)
set_option maxRecDepth 100000 in
def MO_isA (x1 : Int32) (d : vmD) (Q : Int32 → vmD → Prop) : Prop :=
  ixOk x1 8 ∧
  bnd (gA d 50 x1.toNatClampNeg) fun y_2 =>
  if y_2 = 1 then
  (ixOk x1 8 ∧
  bnd (gA d 51 x1.toNatClampNeg) fun y_5 =>
  if y_5 = 7 then
  (Q 1 d)
  else
  (Q 0 d))
  else
  (Q 0 d)
set_option maxRecDepth 100000 in
set_option maxHeartbeats 4000000 in
theorem tMO_isA {L : Nat} {e : vmD} {Qo : Option Value → vmW → Prop} {Q : Int32 → vmD → Prop} (hQ : ∀ r d, Q r d → Qo (some (.int r)) (wR L d e)) (x1 : Int32) (d : vmD) (h : MO_isA x1 d Q) : vmWp 286 0 [(0, .ref 42), (1, .int x1)] [] (wR L d e) Qo := by
  unfold MO_isA at h
  refine st_go 3 (pc' := 5) (lo' := [(0, .ref 42), (1, .int x1)]) (st' := [.int x1, .ref 50]) rfl ?_
  obtain ⟨hj_1, h⟩ := h
  refine st_ialdR (o := 50) rfl rfl hj_1 rfl (fun y_2 hy_y_2 => ?_)
  have h := h y_2 hy_y_2
  refine st_go 1 (pc' := 7) (lo' := [(0, .ref 42), (1, .int x1)]) (st' := [.int 1, .int y_2]) rfl ?_
  by_cases hc_3 : y_2 = 1
  · have h := Eq.mp (if_pos hc_3) h
    refine st_icmp (t := 10) (b := false) rfl (decide_eq_false (fun z => z hc_3)) rfl ?_
    refine st_go 3 (pc' := 15) (lo' := [(0, .ref 42), (1, .int x1)]) (st' := [.int x1, .ref 51]) rfl ?_
    obtain ⟨hj_4, h⟩ := h
    refine st_ialdR (o := 51) rfl rfl hj_4 rfl (fun y_5 hy_y_5 => ?_)
    have h := h y_5 hy_y_5
    refine st_go 1 (pc' := 18) (lo' := [(0, .ref 42), (1, .int x1)]) (st' := [.int 7, .int y_5]) rfl ?_
    by_cases hc_6 : y_5 = 7
    · have h := Eq.mp (if_pos hc_6) h
      refine st_icmp (t := 21) (b := false) rfl (decide_eq_false (fun z => z hc_6)) rfl ?_
      refine st_go 2 (pc' := 26) (lo' := [(0, .ref 42), (1, .int x1)]) (st' := [.int 1]) rfl ?_
      exact st_retZ rfl rfl (Or.inr rfl) (hQ _ _ h)
    · have h := Eq.mp (if_neg hc_6) h
      refine st_icmp (t := 25) (b := true) rfl (decide_eq_true hc_6) rfl ?_
      refine st_go 1 (pc' := 26) (lo' := [(0, .ref 42), (1, .int x1)]) (st' := [.int 0]) rfl ?_
      exact st_retZ rfl rfl (Or.inl rfl) (hQ _ _ h)
  · have h := Eq.mp (if_neg hc_3) h
    refine st_icmp (t := 25) (b := true) rfl (decide_eq_true hc_3) rfl ?_
    refine st_go 1 (pc' := 26) (lo' := [(0, .ref 42), (1, .int x1)]) (st' := [.int 0]) rfl ?_
    exact st_retZ rfl rfl (Or.inl rfl) (hQ _ _ h)
set_option maxRecDepth 100000 in
def MO_isHL (x1 : Int32) (d : vmD) (Q : Int32 → vmD → Prop) : Prop :=
  ixOk x1 8 ∧
  bnd (gA d 50 x1.toNatClampNeg) fun y_2 =>
  if y_2 = 2 then
  (ixOk x1 8 ∧
  bnd (gA d 51 x1.toNatClampNeg) fun y_5 =>
  if y_5 = 2 then
  (Q 1 d)
  else
  (Q 0 d))
  else
  (Q 0 d)
set_option maxRecDepth 100000 in
set_option maxHeartbeats 4000000 in
theorem tMO_isHL {L : Nat} {e : vmD} {Qo : Option Value → vmW → Prop} {Q : Int32 → vmD → Prop} (hQ : ∀ r d, Q r d → Qo (some (.int r)) (wR L d e)) (x1 : Int32) (d : vmD) (h : MO_isHL x1 d Q) : vmWp 287 0 [(0, .ref 42), (1, .int x1)] [] (wR L d e) Qo := by
  unfold MO_isHL at h
  refine st_go 3 (pc' := 5) (lo' := [(0, .ref 42), (1, .int x1)]) (st' := [.int x1, .ref 50]) rfl ?_
  obtain ⟨hj_1, h⟩ := h
  refine st_ialdR (o := 50) rfl rfl hj_1 rfl (fun y_2 hy_y_2 => ?_)
  have h := h y_2 hy_y_2
  refine st_go 1 (pc' := 7) (lo' := [(0, .ref 42), (1, .int x1)]) (st' := [.int 2, .int y_2]) rfl ?_
  by_cases hc_3 : y_2 = 2
  · have h := Eq.mp (if_pos hc_3) h
    refine st_icmp (t := 10) (b := false) rfl (decide_eq_false (fun z => z hc_3)) rfl ?_
    refine st_go 3 (pc' := 15) (lo' := [(0, .ref 42), (1, .int x1)]) (st' := [.int x1, .ref 51]) rfl ?_
    obtain ⟨hj_4, h⟩ := h
    refine st_ialdR (o := 51) rfl rfl hj_4 rfl (fun y_5 hy_y_5 => ?_)
    have h := h y_5 hy_y_5
    refine st_go 1 (pc' := 17) (lo' := [(0, .ref 42), (1, .int x1)]) (st' := [.int 2, .int y_5]) rfl ?_
    by_cases hc_6 : y_5 = 2
    · have h := Eq.mp (if_pos hc_6) h
      refine st_icmp (t := 20) (b := false) rfl (decide_eq_false (fun z => z hc_6)) rfl ?_
      refine st_go 2 (pc' := 25) (lo' := [(0, .ref 42), (1, .int x1)]) (st' := [.int 1]) rfl ?_
      exact st_retZ rfl rfl (Or.inr rfl) (hQ _ _ h)
    · have h := Eq.mp (if_neg hc_6) h
      refine st_icmp (t := 24) (b := true) rfl (decide_eq_true hc_6) rfl ?_
      refine st_go 1 (pc' := 25) (lo' := [(0, .ref 42), (1, .int x1)]) (st' := [.int 0]) rfl ?_
      exact st_retZ rfl rfl (Or.inl rfl) (hQ _ _ h)
  · have h := Eq.mp (if_neg hc_3) h
    refine st_icmp (t := 24) (b := true) rfl (decide_eq_true hc_3) rfl ?_
    refine st_go 1 (pc' := 25) (lo' := [(0, .ref 42), (1, .int x1)]) (st' := [.int 0]) rfl ?_
    exact st_retZ rfl rfl (Or.inl rfl) (hQ _ _ h)
set_option maxRecDepth 100000 in
def MO_encodeLoad_681 (s0 : Int32) (s1 : Int32) (s2 : Int32) (d : vmD) (Q : Int32 → vmD → Prop) : Prop :=
  MO_giveOctet s2 s1 s0 d fun r_38 d_37 =>
  (r_38 = 0 ∨ r_38 = 1) ∧ Q r_38 d_37
set_option maxRecDepth 100000 in
set_option maxHeartbeats 4000000 in
theorem tMO_encodeLoad_681 {L : Nat} {e : vmD} {Qo : Option Value → vmW → Prop} {Q : Int32 → vmD → Prop} (hQ : ∀ r d, Q r d → Qo (some (.int r)) (wR L d e)) (s0 : Int32) (s1 : Int32) (s2 : Int32) (d : vmD) (h : MO_encodeLoad_681 s0 s1 s2 d Q) : vmWp 298 681 [] [.int s0, .int s1, .int s2, .ref 42] (wR L d e) Qo := by
  unfold MO_encodeLoad_681 at h
  refine st_calli (k' := 290) (as := [.ref 42, .int s2, .int s1, .int s0]) (rest := []) (lo' := [(0, .ref 42), (1, .int s2), (2, .int s1), (3, .int s0)]) (wf := fun d => wR L d e) rfl rfl rfl ?_
  refine tMO_giveOctet (fun r_38 d_37 h => ⟨r_38, d_37, rfl, rfl, ?_⟩) s2 s1 s0 d h
  exact st_retZ rfl rfl h.1 (hQ _ _ h.2)
set_option maxRecDepth 100000 in
def MO_encodeLoad_659 (x1 : Int32) (x2 : Int32) (d : vmD) (Q : Int32 → vmD → Prop) : Prop :=
  if x1 = 6 then
  (MO_encodeLoad_681 0 (((64 : Int32) + ((8 : Int32) * x1)) + x2) 0 d Q)
  else
  (MO_encodeLoad_681 1 (((64 : Int32) + ((8 : Int32) * x1)) + x2) 0 d Q)
set_option maxRecDepth 100000 in
set_option maxHeartbeats 4000000 in
theorem tMO_encodeLoad_659 {L : Nat} {e : vmD} {Qo : Option Value → vmW → Prop} {Q : Int32 → vmD → Prop} (hQ : ∀ r d, Q r d → Qo (some (.int r)) (wR L d e)) (x1 : Int32) (x2 : Int32) (d : vmD) (h : MO_encodeLoad_659 x1 x2 d Q) : vmWp 298 659 [(0, .ref 42), (1, .int x1), (2, .int x2)] [] (wR L d e) Qo := by
  unfold MO_encodeLoad_659 at h
  refine st_go 11 (pc' := 673) (lo' := [(0, .ref 42), (1, .int x1), (2, .int x2)]) (st' := [.int 6, .int x1, .int (((64 : Int32) + ((8 : Int32) * x1)) + x2), .int 0, .ref 42]) rfl ?_
  by_cases hc_36 : x1 = 6
  · have h := Eq.mp (if_pos hc_36) h
    refine st_icmp (t := 676) (b := false) rfl (decide_eq_false (fun z => z hc_36)) rfl ?_
    refine st_go 2 (pc' := 681) (lo' := [(0, .ref 42), (1, .int x1), (2, .int x2)]) (st' := [.int 0, .int (((64 : Int32) + ((8 : Int32) * x1)) + x2), .int 0, .ref 42]) rfl ?_
    refine vmWp.sub (lo' := []) trivial ?_
    exact tMO_encodeLoad_681 hQ 0 (((64 : Int32) + ((8 : Int32) * x1)) + x2) 0 d h
  · have h := Eq.mp (if_neg hc_36) h
    refine st_icmp (t := 680) (b := true) rfl (decide_eq_true hc_36) rfl ?_
    refine st_go 1 (pc' := 681) (lo' := [(0, .ref 42), (1, .int x1), (2, .int x2)]) (st' := [.int 1, .int (((64 : Int32) + ((8 : Int32) * x1)) + x2), .int 0, .ref 42]) rfl ?_
    refine vmWp.sub (lo' := []) trivial ?_
    exact tMO_encodeLoad_681 hQ 1 (((64 : Int32) + ((8 : Int32) * x1)) + x2) 0 d h
set_option maxRecDepth 100000 in
def MO_encodeLoad_601 (x1 : Int32) (x2 : Int32) (d : vmD) (Q : Int32 → vmD → Prop) : Prop :=
  if x1 < 0 then
  (Q 0 d)
  else
  (MO_is 1 16 d fun r_31 d_30 =>
  if r_31 = 0 then
  (if x2 < 0 then
  (Q 0 d_30)
  else
  (if x1 = 6 then
  (if x2 = 6 then
  (Q 0 d_30)
  else
  (MO_encodeLoad_659 x1 x2 d_30 Q))
  else
  (MO_encodeLoad_659 x1 x2 d_30 Q)))
  else
  (bnd (sF d_30 42 32 1) fun d_39 =>
  bnd (sF d_39 42 33 1) fun d_40 =>
  MO_giveOctet 0 ((6 : Int32) + ((8 : Int32) * x1)) 0 d_40 fun r_42 d_41 =>
  (r_42 = 0 ∨ r_42 = 1) ∧ Q r_42 d_41))
set_option maxRecDepth 100000 in
set_option maxHeartbeats 4000000 in
theorem tMO_encodeLoad_601 {L : Nat} {e : vmD} {Qo : Option Value → vmW → Prop} {Q : Int32 → vmD → Prop} (hQ : ∀ r d, Q r d → Qo (some (.int r)) (wR L d e)) (x1 : Int32) (x2 : Int32) (d : vmD) (h : MO_encodeLoad_601 x1 x2 d Q) : vmWp 298 601 [(0, .ref 42), (1, .int x1), (2, .int x2)] [] (wR L d e) Qo := by
  unfold MO_encodeLoad_601 at h
  refine st_go 1 (pc' := 602) (lo' := [(0, .ref 42), (1, .int x1), (2, .int x2)]) (st' := [.int x1]) rfl ?_
  by_cases hc_29 : x1 < 0
  · have h := Eq.mp (if_pos hc_29) h
    refine st_if (t := 605) (b := false) rfl (decide_eq_false (Int32.not_le.mpr hc_29)) rfl ?_
    refine st_go 1 (pc' := 606) (lo' := [(0, .ref 42), (1, .int x1), (2, .int x2)]) (st' := [.int 0]) rfl ?_
    exact st_retZ rfl rfl (Or.inl rfl) (hQ _ _ h)
  · have h := Eq.mp (if_neg hc_29) h
    refine st_if (t := 607) (b := true) rfl (decide_eq_true (Int32.not_lt.mp hc_29)) rfl ?_
    refine st_go 3 (pc' := 611) (lo' := [(0, .ref 42), (1, .int x1), (2, .int x2)]) (st' := [.int 16, .int 1, .ref 42]) rfl ?_
    refine st_calli (k' := 285) (as := [.ref 42, .int 1, .int 16]) (rest := []) (lo' := [(0, .ref 42), (1, .int 1), (2, .int 16)]) (wf := fun d => wR L d e) rfl rfl rfl ?_
    refine tMO_is (fun r_31 d_30 h => ⟨r_31, d_30, rfl, rfl, ?_⟩) 1 16 d h
    by_cases hc_32 : r_31 = 0
    · have h := Eq.mp (if_pos hc_32) h
      refine st_if (t := 641) (b := true) rfl (decide_eq_true hc_32) rfl ?_
      refine st_go 1 (pc' := 642) (lo' := [(0, .ref 42), (1, .int x1), (2, .int x2)]) (st' := [.int x2]) rfl ?_
      by_cases hc_33 : x2 < 0
      · have h := Eq.mp (if_pos hc_33) h
        refine st_if (t := 657) (b := true) rfl (decide_eq_true hc_33) rfl ?_
        refine st_go 1 (pc' := 658) (lo' := [(0, .ref 42), (1, .int x1), (2, .int x2)]) (st' := [.int 0]) rfl ?_
        exact st_retZ rfl rfl (Or.inl rfl) (hQ _ _ h)
      · have h := Eq.mp (if_neg hc_33) h
        refine st_if (t := 645) (b := false) rfl (decide_eq_false hc_33) rfl ?_
        refine st_go 2 (pc' := 648) (lo' := [(0, .ref 42), (1, .int x1), (2, .int x2)]) (st' := [.int 6, .int x1]) rfl ?_
        by_cases hc_34 : x1 = 6
        · have h := Eq.mp (if_pos hc_34) h
          refine st_icmp (t := 651) (b := false) rfl (decide_eq_false (fun z => z hc_34)) rfl ?_
          refine st_go 2 (pc' := 654) (lo' := [(0, .ref 42), (1, .int x1), (2, .int x2)]) (st' := [.int 6, .int x2]) rfl ?_
          by_cases hc_35 : x2 = 6
          · have h := Eq.mp (if_pos hc_35) h
            refine st_icmp (t := 657) (b := false) rfl (decide_eq_false (fun z => z hc_35)) rfl ?_
            refine st_go 1 (pc' := 658) (lo' := [(0, .ref 42), (1, .int x1), (2, .int x2)]) (st' := [.int 0]) rfl ?_
            exact st_retZ rfl rfl (Or.inl rfl) (hQ _ _ h)
          · have h := Eq.mp (if_neg hc_35) h
            refine st_icmp (t := 659) (b := true) rfl (decide_eq_true hc_35) rfl ?_
            refine vmWp.sub (lo' := [(0, .ref 42), (1, .int x1), (2, .int x2)]) ⟨rfl, rfl, rfl, trivial⟩ ?_
            exact tMO_encodeLoad_659 hQ x1 x2 d_30 h
        · have h := Eq.mp (if_neg hc_34) h
          refine st_icmp (t := 659) (b := true) rfl (decide_eq_true hc_34) rfl ?_
          refine vmWp.sub (lo' := [(0, .ref 42), (1, .int x1), (2, .int x2)]) ⟨rfl, rfl, rfl, trivial⟩ ?_
          exact tMO_encodeLoad_659 hQ x1 x2 d_30 h
    · have h := Eq.mp (if_neg hc_32) h
      refine st_if (t := 617) (b := false) rfl (decide_eq_false hc_32) rfl ?_
      refine st_go 2 (pc' := 619) (lo' := [(0, .ref 42), (1, .int x1), (2, .int x2)]) (st' := [.int 1, .ref 42]) rfl ?_
      refine st_putIR (o := 42) (f := 32) rfl rfl rfl rfl rfl (fun d_39 hy_d_39 => ?_)
      have h := h d_39 hy_d_39
      refine st_go 2 (pc' := 624) (lo' := [(0, .ref 42), (1, .int x1), (2, .int x2)]) (st' := [.int 1, .ref 42]) rfl ?_
      refine st_putIR (o := 42) (f := 33) rfl rfl rfl rfl rfl (fun d_40 hy_d_40 => ?_)
      have h := h d_40 hy_d_40
      refine st_go 8 (pc' := 637) (lo' := [(0, .ref 42), (1, .int x1), (2, .int x2)]) (st' := [.int 0, .int ((6 : Int32) + ((8 : Int32) * x1)), .int 0, .ref 42]) rfl ?_
      refine st_calli (k' := 290) (as := [.ref 42, .int 0, .int ((6 : Int32) + ((8 : Int32) * x1)), .int 0]) (rest := []) (lo' := [(0, .ref 42), (1, .int 0), (2, .int ((6 : Int32) + ((8 : Int32) * x1))), (3, .int 0)]) (wf := fun d => wR L d e) rfl rfl rfl ?_
      refine tMO_giveOctet (fun r_42 d_41 h => ⟨r_42, d_41, rfl, rfl, ?_⟩) 0 ((6 : Int32) + ((8 : Int32) * x1)) 0 d_40 h
      exact st_retZ rfl rfl h.1 (hQ _ _ h.2)
set_option maxRecDepth 100000 in
def MO_encodeLoad (d : vmD) (Q : Int32 → vmD → Prop) : Prop :=
  MO_octetOf 0 d fun r_2 d_1 =>
  MO_octetOf 1 d_1 fun r_4 d_3 =>
  MO_is 0 2 d_3 fun r_6 d_5 =>
  if r_6 = 0 then
  (MO_is 0 5 d_5 fun r_9 d_8 =>
  if r_9 = 0 then
  (MO_is 0 15 d_8 fun r_12 d_11 =>
  if r_12 = 0 then
  (MO_is 0 10 d_11 fun r_15 d_14 =>
  if r_15 = 0 then
  (MO_is 0 11 d_14 fun r_18 d_17 =>
  if r_18 = 0 then
  (MO_is 0 6 d_17 fun r_21 d_20 =>
  if r_21 = 0 then
  (MO_is 0 7 d_20 fun r_24 d_23 =>
  if r_24 = 0 then
  (MO_isA 0 d_23 fun r_27 d_26 =>
  if r_27 = 0 then
  (MO_encodeLoad_601 r_2 r_4 d_26 Q)
  else
  (MO_is 1 15 d_26 fun r_44 d_43 =>
  if r_44 = 0 then
  (MO_is 1 10 d_43 fun r_47 d_46 =>
  if r_47 = 0 then
  (MO_is 1 11 d_46 fun r_50 d_49 =>
  if r_50 = 0 then
  (MO_is 1 6 d_49 fun r_53 d_52 =>
  if r_53 = 0 then
  (MO_is 1 7 d_52 fun r_56 d_55 =>
  if r_56 = 0 then
  (MO_encodeLoad_601 r_2 r_4 d_55 Q)
  else
  (MO_give 0 237 95 d_55 fun r_59 d_58 =>
  (r_59 = 0 ∨ r_59 = 1) ∧ Q r_59 d_58))
  else
  (MO_give 0 237 87 d_52 fun r_61 d_60 =>
  (r_61 = 0 ∨ r_61 = 1) ∧ Q r_61 d_60))
  else
  (MO_give 0 0 26 d_49 fun r_63 d_62 =>
  (r_63 = 0 ∨ r_63 = 1) ∧ Q r_63 d_62))
  else
  (MO_give 0 0 10 d_46 fun r_65 d_64 =>
  (r_65 = 0 ∨ r_65 = 1) ∧ Q r_65 d_64))
  else
  (MO_giveWith 0 0 58 2 1 d_43 fun r_67 d_66 =>
  (r_67 = 0 ∨ r_67 = 1) ∧ Q r_67 d_66)))
  else
  (MO_isA 1 d_23 fun r_69 d_68 =>
  if r_69 = 0 then
  (Q 0 d_68)
  else
  (MO_give 0 237 79 d_68 fun r_72 d_71 =>
  if r_72 = 0 then
  (Q 0 d_71)
  else
  (Q 1 d_71))))
  else
  (MO_isA 1 d_20 fun r_75 d_74 =>
  if r_75 = 0 then
  (Q 0 d_74)
  else
  (MO_give 0 237 71 d_74 fun r_78 d_77 =>
  if r_78 = 0 then
  (Q 0 d_77)
  else
  (Q 1 d_77))))
  else
  (MO_isA 1 d_17 fun r_81 d_80 =>
  if r_81 = 0 then
  (Q 0 d_80)
  else
  (MO_give 0 0 18 d_80 fun r_84 d_83 =>
  if r_84 = 0 then
  (Q 0 d_83)
  else
  (Q 1 d_83))))
  else
  (MO_isA 1 d_14 fun r_87 d_86 =>
  if r_87 = 0 then
  (Q 0 d_86)
  else
  (MO_give 0 0 2 d_86 fun r_90 d_89 =>
  if r_90 = 0 then
  (Q 0 d_89)
  else
  (Q 1 d_89))))
  else
  (MO_isA 1 d_11 fun r_93 d_92 =>
  if r_93 = 0 then
  (MO_is 1 5 d_92 fun r_96 d_95 =>
  if r_96 = 0 then
  (MO_is 1 2 d_95 fun r_99 d_98 =>
  if r_99 = 0 then
  (Q 0 d_98)
  else
  (bnd (gA d_98 51 1) fun y_101 =>
  if y_101 = 2 then
  (MO_giveWith 0 0 34 2 0 d_98 fun r_104 d_103 =>
  (r_104 = 0 ∨ r_104 = 1) ∧ Q r_104 d_103)
  else
  (bnd (gA d_98 51 1) fun y_105 =>
  MO_giveWith 0 237 ((67 : Int32) + ((16 : Int32) * y_105)) 2 0 d_98 fun r_107 d_106 =>
  (r_107 = 0 ∨ r_107 = 1) ∧ Q r_107 d_106)))
  else
  (MO_frontOf 1 d_95 fun r_109 d_108 =>
  MO_giveWith r_109 0 34 2 0 d_108 fun r_111 d_110 =>
  (r_111 = 0 ∨ r_111 = 1) ∧ Q r_111 d_110))
  else
  (MO_giveWith 0 0 50 2 0 d_92 fun r_113 d_112 =>
  (r_113 = 0 ∨ r_113 = 1) ∧ Q r_113 d_112)))
  else
  (MO_is 1 16 d_8 fun r_115 d_114 =>
  if r_115 = 0 then
  (MO_is 1 15 d_114 fun r_118 d_117 =>
  if r_118 = 0 then
  (Q 0 d_117)
  else
  (MO_frontOf 0 d_117 fun r_121 d_120 =>
  MO_giveWith r_121 0 42 2 1 d_120 fun r_123 d_122 =>
  if r_123 = 0 then
  (Q 0 d_122)
  else
  (Q 1 d_122)))
  else
  (MO_frontOf 0 d_114 fun r_126 d_125 =>
  MO_giveWith r_126 0 33 2 1 d_125 fun r_128 d_127 =>
  (r_128 = 0 ∨ r_128 = 1) ∧ Q r_128 d_127)))
  else
  (MO_is 1 16 d_5 fun r_130 d_129 =>
  if r_130 = 0 then
  (MO_is 1 15 d_129 fun r_133 d_132 =>
  if r_133 = 0 then
  (bnd (gA d_132 51 0) fun y_135 =>
  if y_135 = 3 then
  (MO_isHL 1 d_132 fun r_138 d_137 =>
  if r_138 = 0 then
  (MO_is 1 5 d_137 fun r_141 d_140 =>
  if r_141 = 0 then
  (Q 0 d_140)
  else
  (MO_frontOf 1 d_140 fun r_144 d_143 =>
  MO_give r_144 0 249 d_143 fun r_146 d_145 =>
  if r_146 = 0 then
  (Q 0 d_145)
  else
  (Q 1 d_145)))
  else
  (MO_give 0 0 249 d_137 fun r_149 d_148 =>
  (r_149 = 0 ∨ r_149 = 1) ∧ Q r_149 d_148))
  else
  (Q 0 d_132))
  else
  (bnd (gA d_132 51 0) fun y_150 =>
  if y_150 = 2 then
  (MO_giveWith 0 0 42 2 1 d_132 fun r_153 d_152 =>
  (r_153 = 0 ∨ r_153 = 1) ∧ Q r_153 d_152)
  else
  (bnd (gA d_132 51 0) fun y_154 =>
  MO_giveWith 0 237 ((75 : Int32) + ((16 : Int32) * y_154)) 2 1 d_132 fun r_156 d_155 =>
  (r_156 = 0 ∨ r_156 = 1) ∧ Q r_156 d_155)))
  else
  (bnd (gA d_129 51 0) fun y_157 =>
  MO_giveWith 0 0 ((1 : Int32) + ((16 : Int32) * y_157)) 2 1 d_129 fun r_159 d_158 =>
  (r_159 = 0 ∨ r_159 = 1) ∧ Q r_159 d_158))
set_option maxRecDepth 100000 in
set_option maxHeartbeats 4000000 in
theorem tMO_encodeLoad {L : Nat} {e : vmD} {Qo : Option Value → vmW → Prop} {Q : Int32 → vmD → Prop} (hQ : ∀ r d, Q r d → Qo (some (.int r)) (wR L d e)) (d : vmD) (h : MO_encodeLoad d Q) : vmWp 298 0 [(0, .ref 42)] [] (wR L d e) Qo := by
  unfold MO_encodeLoad at h
  refine st_go 2 (pc' := 2) (lo' := [(0, .ref 42)]) (st' := [.int 0, .ref 42]) rfl ?_
  refine st_calli (k' := 289) (as := [.ref 42, .int 0]) (rest := []) (lo' := [(0, .ref 42), (1, .int 0)]) (wf := fun d => wR L d e) rfl rfl rfl ?_
  refine tMO_octetOf (fun r_2 d_1 h => ⟨r_2, d_1, rfl, rfl, ?_⟩) 0 d h
  refine st_go 3 (pc' := 8) (lo' := [(1, .int r_2), (0, .ref 42)]) (st' := [.int 1, .ref 42]) rfl ?_
  refine st_calli (k' := 289) (as := [.ref 42, .int 1]) (rest := []) (lo' := [(0, .ref 42), (1, .int 1)]) (wf := fun d => wR L d e) rfl rfl rfl ?_
  refine tMO_octetOf (fun r_4 d_3 h => ⟨r_4, d_3, rfl, rfl, ?_⟩) 1 d_1 h
  refine st_go 4 (pc' := 15) (lo' := [(2, .int r_4), (1, .int r_2), (0, .ref 42)]) (st' := [.int 2, .int 0, .ref 42]) rfl ?_
  refine st_calli (k' := 285) (as := [.ref 42, .int 0, .int 2]) (rest := []) (lo' := [(0, .ref 42), (1, .int 0), (2, .int 2)]) (wf := fun d => wR L d e) rfl rfl rfl ?_
  refine tMO_is (fun r_6 d_5 h => ⟨r_6, d_5, rfl, rfl, ?_⟩) 0 2 d_3 h
  by_cases hc_7 : r_6 = 0
  · have h := Eq.mp (if_pos hc_7) h
    refine st_if (t := 170) (b := true) rfl (decide_eq_true hc_7) rfl ?_
    refine st_go 3 (pc' := 173) (lo' := [(2, .int r_4), (1, .int r_2), (0, .ref 42)]) (st' := [.int 5, .int 0, .ref 42]) rfl ?_
    refine st_calli (k' := 285) (as := [.ref 42, .int 0, .int 5]) (rest := []) (lo' := [(0, .ref 42), (1, .int 0), (2, .int 5)]) (wf := fun d => wR L d e) rfl rfl rfl ?_
    refine tMO_is (fun r_9 d_8 h => ⟨r_9, d_8, rfl, rfl, ?_⟩) 0 5 d_5 h
    by_cases hc_10 : r_9 = 0
    · have h := Eq.mp (if_pos hc_10) h
      refine st_if (t := 239) (b := true) rfl (decide_eq_true hc_10) rfl ?_
      refine st_go 3 (pc' := 243) (lo' := [(2, .int r_4), (1, .int r_2), (0, .ref 42)]) (st' := [.int 15, .int 0, .ref 42]) rfl ?_
      refine st_calli (k' := 285) (as := [.ref 42, .int 0, .int 15]) (rest := []) (lo' := [(0, .ref 42), (1, .int 0), (2, .int 15)]) (wf := fun d => wR L d e) rfl rfl rfl ?_
      refine tMO_is (fun r_12 d_11 h => ⟨r_12, d_11, rfl, rfl, ?_⟩) 0 15 d_8 h
      by_cases hc_13 : r_12 = 0
      · have h := Eq.mp (if_pos hc_13) h
        refine st_if (t := 349) (b := true) rfl (decide_eq_true hc_13) rfl ?_
        refine st_go 3 (pc' := 353) (lo' := [(2, .int r_4), (1, .int r_2), (0, .ref 42)]) (st' := [.int 10, .int 0, .ref 42]) rfl ?_
        refine st_calli (k' := 285) (as := [.ref 42, .int 0, .int 10]) (rest := []) (lo' := [(0, .ref 42), (1, .int 0), (2, .int 10)]) (wf := fun d => wR L d e) rfl rfl rfl ?_
        refine tMO_is (fun r_15 d_14 h => ⟨r_15, d_14, rfl, rfl, ?_⟩) 0 10 d_11 h
        by_cases hc_16 : r_15 = 0
        · have h := Eq.mp (if_pos hc_16) h
          refine st_if (t := 383) (b := true) rfl (decide_eq_true hc_16) rfl ?_
          refine st_go 3 (pc' := 387) (lo' := [(2, .int r_4), (1, .int r_2), (0, .ref 42)]) (st' := [.int 11, .int 0, .ref 42]) rfl ?_
          refine st_calli (k' := 285) (as := [.ref 42, .int 0, .int 11]) (rest := []) (lo' := [(0, .ref 42), (1, .int 0), (2, .int 11)]) (wf := fun d => wR L d e) rfl rfl rfl ?_
          refine tMO_is (fun r_18 d_17 h => ⟨r_18, d_17, rfl, rfl, ?_⟩) 0 11 d_14 h
          by_cases hc_19 : r_18 = 0
          · have h := Eq.mp (if_pos hc_19) h
            refine st_if (t := 418) (b := true) rfl (decide_eq_true hc_19) rfl ?_
            refine st_go 3 (pc' := 422) (lo' := [(2, .int r_4), (1, .int r_2), (0, .ref 42)]) (st' := [.int 6, .int 0, .ref 42]) rfl ?_
            refine st_calli (k' := 285) (as := [.ref 42, .int 0, .int 6]) (rest := []) (lo' := [(0, .ref 42), (1, .int 0), (2, .int 6)]) (wf := fun d => wR L d e) rfl rfl rfl ?_
            refine tMO_is (fun r_21 d_20 h => ⟨r_21, d_20, rfl, rfl, ?_⟩) 0 6 d_17 h
            by_cases hc_22 : r_21 = 0
            · have h := Eq.mp (if_pos hc_22) h
              refine st_if (t := 455) (b := true) rfl (decide_eq_true hc_22) rfl ?_
              refine st_go 3 (pc' := 459) (lo' := [(2, .int r_4), (1, .int r_2), (0, .ref 42)]) (st' := [.int 7, .int 0, .ref 42]) rfl ?_
              refine st_calli (k' := 285) (as := [.ref 42, .int 0, .int 7]) (rest := []) (lo' := [(0, .ref 42), (1, .int 0), (2, .int 7)]) (wf := fun d => wR L d e) rfl rfl rfl ?_
              refine tMO_is (fun r_24 d_23 h => ⟨r_24, d_23, rfl, rfl, ?_⟩) 0 7 d_20 h
              by_cases hc_25 : r_24 = 0
              · have h := Eq.mp (if_pos hc_25) h
                refine st_if (t := 492) (b := true) rfl (decide_eq_true hc_25) rfl ?_
                refine st_go 2 (pc' := 494) (lo' := [(2, .int r_4), (1, .int r_2), (0, .ref 42)]) (st' := [.int 0, .ref 42]) rfl ?_
                refine st_calli (k' := 286) (as := [.ref 42, .int 0]) (rest := []) (lo' := [(0, .ref 42), (1, .int 0)]) (wf := fun d => wR L d e) rfl rfl rfl ?_
                refine tMO_isA (fun r_27 d_26 h => ⟨r_27, d_26, rfl, rfl, ?_⟩) 0 d_23 h
                by_cases hc_28 : r_27 = 0
                · have h := Eq.mp (if_pos hc_28) h
                  refine st_if (t := 601) (b := true) rfl (decide_eq_true hc_28) rfl ?_
                  refine vmWp.sub (lo' := [(0, .ref 42), (1, .int r_2), (2, .int r_4)]) ⟨rfl, rfl, rfl, trivial⟩ ?_
                  exact tMO_encodeLoad_601 hQ r_2 r_4 d_26 h
                · have h := Eq.mp (if_neg hc_28) h
                  refine st_if (t := 500) (b := false) rfl (decide_eq_false hc_28) rfl ?_
                  refine st_go 3 (pc' := 504) (lo' := [(2, .int r_4), (1, .int r_2), (0, .ref 42)]) (st' := [.int 15, .int 1, .ref 42]) rfl ?_
                  refine st_calli (k' := 285) (as := [.ref 42, .int 1, .int 15]) (rest := []) (lo' := [(0, .ref 42), (1, .int 1), (2, .int 15)]) (wf := fun d => wR L d e) rfl rfl rfl ?_
                  refine tMO_is (fun r_44 d_43 h => ⟨r_44, d_43, rfl, rfl, ?_⟩) 1 15 d_26 h
                  by_cases hc_45 : r_44 = 0
                  · have h := Eq.mp (if_pos hc_45) h
                    refine st_if (t := 521) (b := true) rfl (decide_eq_true hc_45) rfl ?_
                    refine st_go 3 (pc' := 525) (lo' := [(2, .int r_4), (1, .int r_2), (0, .ref 42)]) (st' := [.int 10, .int 1, .ref 42]) rfl ?_
                    refine st_calli (k' := 285) (as := [.ref 42, .int 1, .int 10]) (rest := []) (lo' := [(0, .ref 42), (1, .int 1), (2, .int 10)]) (wf := fun d => wR L d e) rfl rfl rfl ?_
                    refine tMO_is (fun r_47 d_46 h => ⟨r_47, d_46, rfl, rfl, ?_⟩) 1 10 d_43 h
                    by_cases hc_48 : r_47 = 0
                    · have h := Eq.mp (if_pos hc_48) h
                      refine st_if (t := 540) (b := true) rfl (decide_eq_true hc_48) rfl ?_
                      refine st_go 3 (pc' := 544) (lo' := [(2, .int r_4), (1, .int r_2), (0, .ref 42)]) (st' := [.int 11, .int 1, .ref 42]) rfl ?_
                      refine st_calli (k' := 285) (as := [.ref 42, .int 1, .int 11]) (rest := []) (lo' := [(0, .ref 42), (1, .int 1), (2, .int 11)]) (wf := fun d => wR L d e) rfl rfl rfl ?_
                      refine tMO_is (fun r_50 d_49 h => ⟨r_50, d_49, rfl, rfl, ?_⟩) 1 11 d_46 h
                      by_cases hc_51 : r_50 = 0
                      · have h := Eq.mp (if_pos hc_51) h
                        refine st_if (t := 559) (b := true) rfl (decide_eq_true hc_51) rfl ?_
                        refine st_go 3 (pc' := 563) (lo' := [(2, .int r_4), (1, .int r_2), (0, .ref 42)]) (st' := [.int 6, .int 1, .ref 42]) rfl ?_
                        refine st_calli (k' := 285) (as := [.ref 42, .int 1, .int 6]) (rest := []) (lo' := [(0, .ref 42), (1, .int 1), (2, .int 6)]) (wf := fun d => wR L d e) rfl rfl rfl ?_
                        refine tMO_is (fun r_53 d_52 h => ⟨r_53, d_52, rfl, rfl, ?_⟩) 1 6 d_49 h
                        by_cases hc_54 : r_53 = 0
                        · have h := Eq.mp (if_pos hc_54) h
                          refine st_if (t := 580) (b := true) rfl (decide_eq_true hc_54) rfl ?_
                          refine st_go 3 (pc' := 584) (lo' := [(2, .int r_4), (1, .int r_2), (0, .ref 42)]) (st' := [.int 7, .int 1, .ref 42]) rfl ?_
                          refine st_calli (k' := 285) (as := [.ref 42, .int 1, .int 7]) (rest := []) (lo' := [(0, .ref 42), (1, .int 1), (2, .int 7)]) (wf := fun d => wR L d e) rfl rfl rfl ?_
                          refine tMO_is (fun r_56 d_55 h => ⟨r_56, d_55, rfl, rfl, ?_⟩) 1 7 d_52 h
                          by_cases hc_57 : r_56 = 0
                          · have h := Eq.mp (if_pos hc_57) h
                            refine st_if (t := 601) (b := true) rfl (decide_eq_true hc_57) rfl ?_
                            refine vmWp.sub (lo' := [(0, .ref 42), (1, .int r_2), (2, .int r_4)]) ⟨rfl, rfl, rfl, trivial⟩ ?_
                            exact tMO_encodeLoad_601 hQ r_2 r_4 d_55 h
                          · have h := Eq.mp (if_neg hc_57) h
                            refine st_if (t := 590) (b := false) rfl (decide_eq_false hc_57) rfl ?_
                            refine st_go 4 (pc' := 597) (lo' := [(2, .int r_4), (1, .int r_2), (0, .ref 42)]) (st' := [.int 95, .int 237, .int 0, .ref 42]) rfl ?_
                            refine st_calli (k' := 283) (as := [.ref 42, .int 0, .int 237, .int 95]) (rest := []) (lo' := [(0, .ref 42), (1, .int 0), (2, .int 237), (3, .int 95)]) (wf := fun d => wR L d e) rfl rfl rfl ?_
                            refine tMO_give (fun r_59 d_58 h => ⟨r_59, d_58, rfl, rfl, ?_⟩) 0 237 95 d_55 h
                            exact st_retZ rfl rfl h.1 (hQ _ _ h.2)
                        · have h := Eq.mp (if_neg hc_54) h
                          refine st_if (t := 569) (b := false) rfl (decide_eq_false hc_54) rfl ?_
                          refine st_go 4 (pc' := 576) (lo' := [(2, .int r_4), (1, .int r_2), (0, .ref 42)]) (st' := [.int 87, .int 237, .int 0, .ref 42]) rfl ?_
                          refine st_calli (k' := 283) (as := [.ref 42, .int 0, .int 237, .int 87]) (rest := []) (lo' := [(0, .ref 42), (1, .int 0), (2, .int 237), (3, .int 87)]) (wf := fun d => wR L d e) rfl rfl rfl ?_
                          refine tMO_give (fun r_61 d_60 h => ⟨r_61, d_60, rfl, rfl, ?_⟩) 0 237 87 d_52 h
                          exact st_retZ rfl rfl h.1 (hQ _ _ h.2)
                      · have h := Eq.mp (if_neg hc_51) h
                        refine st_if (t := 550) (b := false) rfl (decide_eq_false hc_51) rfl ?_
                        refine st_go 4 (pc' := 555) (lo' := [(2, .int r_4), (1, .int r_2), (0, .ref 42)]) (st' := [.int 26, .int 0, .int 0, .ref 42]) rfl ?_
                        refine st_calli (k' := 283) (as := [.ref 42, .int 0, .int 0, .int 26]) (rest := []) (lo' := [(0, .ref 42), (1, .int 0), (2, .int 0), (3, .int 26)]) (wf := fun d => wR L d e) rfl rfl rfl ?_
                        refine tMO_give (fun r_63 d_62 h => ⟨r_63, d_62, rfl, rfl, ?_⟩) 0 0 26 d_49 h
                        exact st_retZ rfl rfl h.1 (hQ _ _ h.2)
                    · have h := Eq.mp (if_neg hc_48) h
                      refine st_if (t := 531) (b := false) rfl (decide_eq_false hc_48) rfl ?_
                      refine st_go 4 (pc' := 536) (lo' := [(2, .int r_4), (1, .int r_2), (0, .ref 42)]) (st' := [.int 10, .int 0, .int 0, .ref 42]) rfl ?_
                      refine st_calli (k' := 283) (as := [.ref 42, .int 0, .int 0, .int 10]) (rest := []) (lo' := [(0, .ref 42), (1, .int 0), (2, .int 0), (3, .int 10)]) (wf := fun d => wR L d e) rfl rfl rfl ?_
                      refine tMO_give (fun r_65 d_64 h => ⟨r_65, d_64, rfl, rfl, ?_⟩) 0 0 10 d_46 h
                      exact st_retZ rfl rfl h.1 (hQ _ _ h.2)
                  · have h := Eq.mp (if_neg hc_45) h
                    refine st_if (t := 510) (b := false) rfl (decide_eq_false hc_45) rfl ?_
                    refine st_go 6 (pc' := 517) (lo' := [(2, .int r_4), (1, .int r_2), (0, .ref 42)]) (st' := [.int 1, .int 2, .int 58, .int 0, .int 0, .ref 42]) rfl ?_
                    refine st_calli (k' := 284) (as := [.ref 42, .int 0, .int 0, .int 58, .int 2, .int 1]) (rest := []) (lo' := [(0, .ref 42), (1, .int 0), (2, .int 0), (3, .int 58), (4, .int 2), (5, .int 1)]) (wf := fun d => wR L d e) rfl rfl rfl ?_
                    refine tMO_giveWith (fun r_67 d_66 h => ⟨r_67, d_66, rfl, rfl, ?_⟩) 0 0 58 2 1 d_43 h
                    exact st_retZ rfl rfl h.1 (hQ _ _ h.2)
              · have h := Eq.mp (if_neg hc_25) h
                refine st_if (t := 465) (b := false) rfl (decide_eq_false hc_25) rfl ?_
                refine st_go 2 (pc' := 467) (lo' := [(2, .int r_4), (1, .int r_2), (0, .ref 42)]) (st' := [.int 1, .ref 42]) rfl ?_
                refine st_calli (k' := 286) (as := [.ref 42, .int 1]) (rest := []) (lo' := [(0, .ref 42), (1, .int 1)]) (wf := fun d => wR L d e) rfl rfl rfl ?_
                refine tMO_isA (fun r_69 d_68 h => ⟨r_69, d_68, rfl, rfl, ?_⟩) 1 d_23 h
                by_cases hc_70 : r_69 = 0
                · have h := Eq.mp (if_pos hc_70) h
                  refine st_if (t := 490) (b := true) rfl (decide_eq_true hc_70) rfl ?_
                  refine st_go 1 (pc' := 491) (lo' := [(2, .int r_4), (1, .int r_2), (0, .ref 42)]) (st' := [.int 0]) rfl ?_
                  exact st_retZ rfl rfl (Or.inl rfl) (hQ _ _ h)
                · have h := Eq.mp (if_neg hc_70) h
                  refine st_if (t := 473) (b := false) rfl (decide_eq_false hc_70) rfl ?_
                  refine st_go 4 (pc' := 480) (lo' := [(2, .int r_4), (1, .int r_2), (0, .ref 42)]) (st' := [.int 79, .int 237, .int 0, .ref 42]) rfl ?_
                  refine st_calli (k' := 283) (as := [.ref 42, .int 0, .int 237, .int 79]) (rest := []) (lo' := [(0, .ref 42), (1, .int 0), (2, .int 237), (3, .int 79)]) (wf := fun d => wR L d e) rfl rfl rfl ?_
                  refine tMO_give (fun r_72 d_71 h => ⟨r_72, d_71, rfl, rfl, ?_⟩) 0 237 79 d_68 h
                  by_cases hc_73 : r_72 = 0
                  · have h := Eq.mp (if_pos hc_73) h
                    refine st_if (t := 490) (b := true) rfl (decide_eq_true hc_73) rfl ?_
                    refine st_go 1 (pc' := 491) (lo' := [(2, .int r_4), (1, .int r_2), (0, .ref 42)]) (st' := [.int 0]) rfl ?_
                    exact st_retZ rfl rfl (Or.inl rfl) (hQ _ _ h)
                  · have h := Eq.mp (if_neg hc_73) h
                    refine st_if (t := 486) (b := false) rfl (decide_eq_false hc_73) rfl ?_
                    refine st_go 2 (pc' := 491) (lo' := [(2, .int r_4), (1, .int r_2), (0, .ref 42)]) (st' := [.int 1]) rfl ?_
                    exact st_retZ rfl rfl (Or.inr rfl) (hQ _ _ h)
            · have h := Eq.mp (if_neg hc_22) h
              refine st_if (t := 428) (b := false) rfl (decide_eq_false hc_22) rfl ?_
              refine st_go 2 (pc' := 430) (lo' := [(2, .int r_4), (1, .int r_2), (0, .ref 42)]) (st' := [.int 1, .ref 42]) rfl ?_
              refine st_calli (k' := 286) (as := [.ref 42, .int 1]) (rest := []) (lo' := [(0, .ref 42), (1, .int 1)]) (wf := fun d => wR L d e) rfl rfl rfl ?_
              refine tMO_isA (fun r_75 d_74 h => ⟨r_75, d_74, rfl, rfl, ?_⟩) 1 d_20 h
              by_cases hc_76 : r_75 = 0
              · have h := Eq.mp (if_pos hc_76) h
                refine st_if (t := 453) (b := true) rfl (decide_eq_true hc_76) rfl ?_
                refine st_go 1 (pc' := 454) (lo' := [(2, .int r_4), (1, .int r_2), (0, .ref 42)]) (st' := [.int 0]) rfl ?_
                exact st_retZ rfl rfl (Or.inl rfl) (hQ _ _ h)
              · have h := Eq.mp (if_neg hc_76) h
                refine st_if (t := 436) (b := false) rfl (decide_eq_false hc_76) rfl ?_
                refine st_go 4 (pc' := 443) (lo' := [(2, .int r_4), (1, .int r_2), (0, .ref 42)]) (st' := [.int 71, .int 237, .int 0, .ref 42]) rfl ?_
                refine st_calli (k' := 283) (as := [.ref 42, .int 0, .int 237, .int 71]) (rest := []) (lo' := [(0, .ref 42), (1, .int 0), (2, .int 237), (3, .int 71)]) (wf := fun d => wR L d e) rfl rfl rfl ?_
                refine tMO_give (fun r_78 d_77 h => ⟨r_78, d_77, rfl, rfl, ?_⟩) 0 237 71 d_74 h
                by_cases hc_79 : r_78 = 0
                · have h := Eq.mp (if_pos hc_79) h
                  refine st_if (t := 453) (b := true) rfl (decide_eq_true hc_79) rfl ?_
                  refine st_go 1 (pc' := 454) (lo' := [(2, .int r_4), (1, .int r_2), (0, .ref 42)]) (st' := [.int 0]) rfl ?_
                  exact st_retZ rfl rfl (Or.inl rfl) (hQ _ _ h)
                · have h := Eq.mp (if_neg hc_79) h
                  refine st_if (t := 449) (b := false) rfl (decide_eq_false hc_79) rfl ?_
                  refine st_go 2 (pc' := 454) (lo' := [(2, .int r_4), (1, .int r_2), (0, .ref 42)]) (st' := [.int 1]) rfl ?_
                  exact st_retZ rfl rfl (Or.inr rfl) (hQ _ _ h)
          · have h := Eq.mp (if_neg hc_19) h
            refine st_if (t := 393) (b := false) rfl (decide_eq_false hc_19) rfl ?_
            refine st_go 2 (pc' := 395) (lo' := [(2, .int r_4), (1, .int r_2), (0, .ref 42)]) (st' := [.int 1, .ref 42]) rfl ?_
            refine st_calli (k' := 286) (as := [.ref 42, .int 1]) (rest := []) (lo' := [(0, .ref 42), (1, .int 1)]) (wf := fun d => wR L d e) rfl rfl rfl ?_
            refine tMO_isA (fun r_81 d_80 h => ⟨r_81, d_80, rfl, rfl, ?_⟩) 1 d_17 h
            by_cases hc_82 : r_81 = 0
            · have h := Eq.mp (if_pos hc_82) h
              refine st_if (t := 416) (b := true) rfl (decide_eq_true hc_82) rfl ?_
              refine st_go 1 (pc' := 417) (lo' := [(2, .int r_4), (1, .int r_2), (0, .ref 42)]) (st' := [.int 0]) rfl ?_
              exact st_retZ rfl rfl (Or.inl rfl) (hQ _ _ h)
            · have h := Eq.mp (if_neg hc_82) h
              refine st_if (t := 401) (b := false) rfl (decide_eq_false hc_82) rfl ?_
              refine st_go 4 (pc' := 406) (lo' := [(2, .int r_4), (1, .int r_2), (0, .ref 42)]) (st' := [.int 18, .int 0, .int 0, .ref 42]) rfl ?_
              refine st_calli (k' := 283) (as := [.ref 42, .int 0, .int 0, .int 18]) (rest := []) (lo' := [(0, .ref 42), (1, .int 0), (2, .int 0), (3, .int 18)]) (wf := fun d => wR L d e) rfl rfl rfl ?_
              refine tMO_give (fun r_84 d_83 h => ⟨r_84, d_83, rfl, rfl, ?_⟩) 0 0 18 d_80 h
              by_cases hc_85 : r_84 = 0
              · have h := Eq.mp (if_pos hc_85) h
                refine st_if (t := 416) (b := true) rfl (decide_eq_true hc_85) rfl ?_
                refine st_go 1 (pc' := 417) (lo' := [(2, .int r_4), (1, .int r_2), (0, .ref 42)]) (st' := [.int 0]) rfl ?_
                exact st_retZ rfl rfl (Or.inl rfl) (hQ _ _ h)
              · have h := Eq.mp (if_neg hc_85) h
                refine st_if (t := 412) (b := false) rfl (decide_eq_false hc_85) rfl ?_
                refine st_go 2 (pc' := 417) (lo' := [(2, .int r_4), (1, .int r_2), (0, .ref 42)]) (st' := [.int 1]) rfl ?_
                exact st_retZ rfl rfl (Or.inr rfl) (hQ _ _ h)
        · have h := Eq.mp (if_neg hc_16) h
          refine st_if (t := 359) (b := false) rfl (decide_eq_false hc_16) rfl ?_
          refine st_go 2 (pc' := 361) (lo' := [(2, .int r_4), (1, .int r_2), (0, .ref 42)]) (st' := [.int 1, .ref 42]) rfl ?_
          refine st_calli (k' := 286) (as := [.ref 42, .int 1]) (rest := []) (lo' := [(0, .ref 42), (1, .int 1)]) (wf := fun d => wR L d e) rfl rfl rfl ?_
          refine tMO_isA (fun r_87 d_86 h => ⟨r_87, d_86, rfl, rfl, ?_⟩) 1 d_14 h
          by_cases hc_88 : r_87 = 0
          · have h := Eq.mp (if_pos hc_88) h
            refine st_if (t := 381) (b := true) rfl (decide_eq_true hc_88) rfl ?_
            refine st_go 1 (pc' := 382) (lo' := [(2, .int r_4), (1, .int r_2), (0, .ref 42)]) (st' := [.int 0]) rfl ?_
            exact st_retZ rfl rfl (Or.inl rfl) (hQ _ _ h)
          · have h := Eq.mp (if_neg hc_88) h
            refine st_if (t := 367) (b := false) rfl (decide_eq_false hc_88) rfl ?_
            refine st_go 4 (pc' := 371) (lo' := [(2, .int r_4), (1, .int r_2), (0, .ref 42)]) (st' := [.int 2, .int 0, .int 0, .ref 42]) rfl ?_
            refine st_calli (k' := 283) (as := [.ref 42, .int 0, .int 0, .int 2]) (rest := []) (lo' := [(0, .ref 42), (1, .int 0), (2, .int 0), (3, .int 2)]) (wf := fun d => wR L d e) rfl rfl rfl ?_
            refine tMO_give (fun r_90 d_89 h => ⟨r_90, d_89, rfl, rfl, ?_⟩) 0 0 2 d_86 h
            by_cases hc_91 : r_90 = 0
            · have h := Eq.mp (if_pos hc_91) h
              refine st_if (t := 381) (b := true) rfl (decide_eq_true hc_91) rfl ?_
              refine st_go 1 (pc' := 382) (lo' := [(2, .int r_4), (1, .int r_2), (0, .ref 42)]) (st' := [.int 0]) rfl ?_
              exact st_retZ rfl rfl (Or.inl rfl) (hQ _ _ h)
            · have h := Eq.mp (if_neg hc_91) h
              refine st_if (t := 377) (b := false) rfl (decide_eq_false hc_91) rfl ?_
              refine st_go 2 (pc' := 382) (lo' := [(2, .int r_4), (1, .int r_2), (0, .ref 42)]) (st' := [.int 1]) rfl ?_
              exact st_retZ rfl rfl (Or.inr rfl) (hQ _ _ h)
      · have h := Eq.mp (if_neg hc_13) h
        refine st_if (t := 249) (b := false) rfl (decide_eq_false hc_13) rfl ?_
        refine st_go 2 (pc' := 251) (lo' := [(2, .int r_4), (1, .int r_2), (0, .ref 42)]) (st' := [.int 1, .ref 42]) rfl ?_
        refine st_calli (k' := 286) (as := [.ref 42, .int 1]) (rest := []) (lo' := [(0, .ref 42), (1, .int 1)]) (wf := fun d => wR L d e) rfl rfl rfl ?_
        refine tMO_isA (fun r_93 d_92 h => ⟨r_93, d_92, rfl, rfl, ?_⟩) 1 d_11 h
        by_cases hc_94 : r_93 = 0
        · have h := Eq.mp (if_pos hc_94) h
          refine st_if (t := 268) (b := true) rfl (decide_eq_true hc_94) rfl ?_
          refine st_go 3 (pc' := 271) (lo' := [(2, .int r_4), (1, .int r_2), (0, .ref 42)]) (st' := [.int 5, .int 1, .ref 42]) rfl ?_
          refine st_calli (k' := 285) (as := [.ref 42, .int 1, .int 5]) (rest := []) (lo' := [(0, .ref 42), (1, .int 1), (2, .int 5)]) (wf := fun d => wR L d e) rfl rfl rfl ?_
          refine tMO_is (fun r_96 d_95 h => ⟨r_96, d_95, rfl, rfl, ?_⟩) 1 5 d_92 h
          by_cases hc_97 : r_96 = 0
          · have h := Eq.mp (if_pos hc_97) h
            refine st_if (t := 292) (b := true) rfl (decide_eq_true hc_97) rfl ?_
            refine st_go 3 (pc' := 295) (lo' := [(2, .int r_4), (1, .int r_2), (0, .ref 42)]) (st' := [.int 2, .int 1, .ref 42]) rfl ?_
            refine st_calli (k' := 285) (as := [.ref 42, .int 1, .int 2]) (rest := []) (lo' := [(0, .ref 42), (1, .int 1), (2, .int 2)]) (wf := fun d => wR L d e) rfl rfl rfl ?_
            refine tMO_is (fun r_99 d_98 h => ⟨r_99, d_98, rfl, rfl, ?_⟩) 1 2 d_95 h
            by_cases hc_100 : r_99 = 0
            · have h := Eq.mp (if_pos hc_100) h
              refine st_if (t := 301) (b := false) rfl (decide_eq_false (fun z => z hc_100)) rfl ?_
              refine st_go 1 (pc' := 302) (lo' := [(2, .int r_4), (1, .int r_2), (0, .ref 42)]) (st' := [.int 0]) rfl ?_
              exact st_retZ rfl rfl (Or.inl rfl) (hQ _ _ h)
            · have h := Eq.mp (if_neg hc_100) h
              refine st_if (t := 303) (b := true) rfl (decide_eq_true hc_100) rfl ?_
              refine st_go 3 (pc' := 308) (lo' := [(2, .int r_4), (1, .int r_2), (0, .ref 42)]) (st' := [.int 1, .ref 51]) rfl ?_
              refine st_ialdR (o := 51) rfl rfl (show ixOk 1 8 by decide) rfl (fun y_101 hy_y_101 => ?_)
              have h := h y_101 hy_y_101
              refine st_go 1 (pc' := 310) (lo' := [(2, .int r_4), (1, .int r_2), (0, .ref 42)]) (st' := [.int 2, .int y_101]) rfl ?_
              by_cases hc_102 : y_101 = 2
              · have h := Eq.mp (if_pos hc_102) h
                refine st_icmp (t := 313) (b := false) rfl (decide_eq_false (fun z => z hc_102)) rfl ?_
                refine st_go 6 (pc' := 320) (lo' := [(2, .int r_4), (1, .int r_2), (0, .ref 42)]) (st' := [.int 0, .int 2, .int 34, .int 0, .int 0, .ref 42]) rfl ?_
                refine st_calli (k' := 284) (as := [.ref 42, .int 0, .int 0, .int 34, .int 2, .int 0]) (rest := []) (lo' := [(0, .ref 42), (1, .int 0), (2, .int 0), (3, .int 34), (4, .int 2), (5, .int 0)]) (wf := fun d => wR L d e) rfl rfl rfl ?_
                refine tMO_giveWith (fun r_104 d_103 h => ⟨r_104, d_103, rfl, rfl, ?_⟩) 0 0 34 2 0 d_98 h
                refine st_go 1 (pc' := 348) (lo' := [(2, .int r_4), (1, .int r_2), (0, .ref 42)]) (st' := [.int r_104]) rfl ?_
                exact st_retZ rfl rfl h.1 (hQ _ _ h.2)
              · have h := Eq.mp (if_neg hc_102) h
                refine st_icmp (t := 326) (b := true) rfl (decide_eq_true hc_102) rfl ?_
                refine st_go 8 (pc' := 340) (lo' := [(2, .int r_4), (1, .int r_2), (0, .ref 42)]) (st' := [.int 1, .ref 51, .int 16, .int 67, .int 237, .int 0, .ref 42]) rfl ?_
                refine st_ialdR (o := 51) rfl rfl (show ixOk 1 8 by decide) rfl (fun y_105 hy_y_105 => ?_)
                have h := h y_105 hy_y_105
                refine st_go 4 (pc' := 345) (lo' := [(2, .int r_4), (1, .int r_2), (0, .ref 42)]) (st' := [.int 0, .int 2, .int ((67 : Int32) + ((16 : Int32) * y_105)), .int 237, .int 0, .ref 42]) rfl ?_
                refine st_calli (k' := 284) (as := [.ref 42, .int 0, .int 237, .int ((67 : Int32) + ((16 : Int32) * y_105)), .int 2, .int 0]) (rest := []) (lo' := [(0, .ref 42), (1, .int 0), (2, .int 237), (3, .int ((67 : Int32) + ((16 : Int32) * y_105))), (4, .int 2), (5, .int 0)]) (wf := fun d => wR L d e) rfl rfl rfl ?_
                refine tMO_giveWith (fun r_107 d_106 h => ⟨r_107, d_106, rfl, rfl, ?_⟩) 0 237 ((67 : Int32) + ((16 : Int32) * y_105)) 2 0 d_98 h
                exact st_retZ rfl rfl h.1 (hQ _ _ h.2)
          · have h := Eq.mp (if_neg hc_97) h
            refine st_if (t := 277) (b := false) rfl (decide_eq_false hc_97) rfl ?_
            refine st_go 3 (pc' := 280) (lo' := [(2, .int r_4), (1, .int r_2), (0, .ref 42)]) (st' := [.int 1, .ref 42, .ref 42]) rfl ?_
            refine st_calli (k' := 288) (as := [.ref 42, .int 1]) (rest := [.ref 42]) (lo' := [(0, .ref 42), (1, .int 1)]) (wf := fun d => wR L d e) rfl rfl rfl ?_
            refine tMO_frontOf (fun r_109 d_108 h => ⟨r_109, d_108, rfl, rfl, ?_⟩) 1 d_95 h
            refine st_go 4 (pc' := 288) (lo' := [(2, .int r_4), (1, .int r_2), (0, .ref 42)]) (st' := [.int 0, .int 2, .int 34, .int 0, .int r_109, .ref 42]) rfl ?_
            refine st_calli (k' := 284) (as := [.ref 42, .int r_109, .int 0, .int 34, .int 2, .int 0]) (rest := []) (lo' := [(0, .ref 42), (1, .int r_109), (2, .int 0), (3, .int 34), (4, .int 2), (5, .int 0)]) (wf := fun d => wR L d e) rfl rfl rfl ?_
            refine tMO_giveWith (fun r_111 d_110 h => ⟨r_111, d_110, rfl, rfl, ?_⟩) r_109 0 34 2 0 d_108 h
            exact st_retZ rfl rfl h.1 (hQ _ _ h.2)
        · have h := Eq.mp (if_neg hc_94) h
          refine st_if (t := 257) (b := false) rfl (decide_eq_false hc_94) rfl ?_
          refine st_go 6 (pc' := 264) (lo' := [(2, .int r_4), (1, .int r_2), (0, .ref 42)]) (st' := [.int 0, .int 2, .int 50, .int 0, .int 0, .ref 42]) rfl ?_
          refine st_calli (k' := 284) (as := [.ref 42, .int 0, .int 0, .int 50, .int 2, .int 0]) (rest := []) (lo' := [(0, .ref 42), (1, .int 0), (2, .int 0), (3, .int 50), (4, .int 2), (5, .int 0)]) (wf := fun d => wR L d e) rfl rfl rfl ?_
          refine tMO_giveWith (fun r_113 d_112 h => ⟨r_113, d_112, rfl, rfl, ?_⟩) 0 0 50 2 0 d_92 h
          exact st_retZ rfl rfl h.1 (hQ _ _ h.2)
    · have h := Eq.mp (if_neg hc_10) h
      refine st_if (t := 179) (b := false) rfl (decide_eq_false hc_10) rfl ?_
      refine st_go 3 (pc' := 183) (lo' := [(2, .int r_4), (1, .int r_2), (0, .ref 42)]) (st' := [.int 16, .int 1, .ref 42]) rfl ?_
      refine st_calli (k' := 285) (as := [.ref 42, .int 1, .int 16]) (rest := []) (lo' := [(0, .ref 42), (1, .int 1), (2, .int 16)]) (wf := fun d => wR L d e) rfl rfl rfl ?_
      refine tMO_is (fun r_115 d_114 h => ⟨r_115, d_114, rfl, rfl, ?_⟩) 1 16 d_8 h
      by_cases hc_116 : r_115 = 0
      · have h := Eq.mp (if_pos hc_116) h
        refine st_if (t := 206) (b := true) rfl (decide_eq_true hc_116) rfl ?_
        refine st_go 3 (pc' := 210) (lo' := [(2, .int r_4), (1, .int r_2), (0, .ref 42)]) (st' := [.int 15, .int 1, .ref 42]) rfl ?_
        refine st_calli (k' := 285) (as := [.ref 42, .int 1, .int 15]) (rest := []) (lo' := [(0, .ref 42), (1, .int 1), (2, .int 15)]) (wf := fun d => wR L d e) rfl rfl rfl ?_
        refine tMO_is (fun r_118 d_117 h => ⟨r_118, d_117, rfl, rfl, ?_⟩) 1 15 d_114 h
        by_cases hc_119 : r_118 = 0
        · have h := Eq.mp (if_pos hc_119) h
          refine st_if (t := 237) (b := true) rfl (decide_eq_true hc_119) rfl ?_
          refine st_go 1 (pc' := 238) (lo' := [(2, .int r_4), (1, .int r_2), (0, .ref 42)]) (st' := [.int 0]) rfl ?_
          exact st_retZ rfl rfl (Or.inl rfl) (hQ _ _ h)
        · have h := Eq.mp (if_neg hc_119) h
          refine st_if (t := 216) (b := false) rfl (decide_eq_false hc_119) rfl ?_
          refine st_go 3 (pc' := 219) (lo' := [(2, .int r_4), (1, .int r_2), (0, .ref 42)]) (st' := [.int 0, .ref 42, .ref 42]) rfl ?_
          refine st_calli (k' := 288) (as := [.ref 42, .int 0]) (rest := [.ref 42]) (lo' := [(0, .ref 42), (1, .int 0)]) (wf := fun d => wR L d e) rfl rfl rfl ?_
          refine tMO_frontOf (fun r_121 d_120 h => ⟨r_121, d_120, rfl, rfl, ?_⟩) 0 d_117 h
          refine st_go 4 (pc' := 227) (lo' := [(2, .int r_4), (1, .int r_2), (0, .ref 42)]) (st' := [.int 1, .int 2, .int 42, .int 0, .int r_121, .ref 42]) rfl ?_
          refine st_calli (k' := 284) (as := [.ref 42, .int r_121, .int 0, .int 42, .int 2, .int 1]) (rest := []) (lo' := [(0, .ref 42), (1, .int r_121), (2, .int 0), (3, .int 42), (4, .int 2), (5, .int 1)]) (wf := fun d => wR L d e) rfl rfl rfl ?_
          refine tMO_giveWith (fun r_123 d_122 h => ⟨r_123, d_122, rfl, rfl, ?_⟩) r_121 0 42 2 1 d_120 h
          by_cases hc_124 : r_123 = 0
          · have h := Eq.mp (if_pos hc_124) h
            refine st_if (t := 237) (b := true) rfl (decide_eq_true hc_124) rfl ?_
            refine st_go 1 (pc' := 238) (lo' := [(2, .int r_4), (1, .int r_2), (0, .ref 42)]) (st' := [.int 0]) rfl ?_
            exact st_retZ rfl rfl (Or.inl rfl) (hQ _ _ h)
          · have h := Eq.mp (if_neg hc_124) h
            refine st_if (t := 233) (b := false) rfl (decide_eq_false hc_124) rfl ?_
            refine st_go 2 (pc' := 238) (lo' := [(2, .int r_4), (1, .int r_2), (0, .ref 42)]) (st' := [.int 1]) rfl ?_
            exact st_retZ rfl rfl (Or.inr rfl) (hQ _ _ h)
      · have h := Eq.mp (if_neg hc_116) h
        refine st_if (t := 189) (b := false) rfl (decide_eq_false hc_116) rfl ?_
        refine st_go 3 (pc' := 192) (lo' := [(2, .int r_4), (1, .int r_2), (0, .ref 42)]) (st' := [.int 0, .ref 42, .ref 42]) rfl ?_
        refine st_calli (k' := 288) (as := [.ref 42, .int 0]) (rest := [.ref 42]) (lo' := [(0, .ref 42), (1, .int 0)]) (wf := fun d => wR L d e) rfl rfl rfl ?_
        refine tMO_frontOf (fun r_126 d_125 h => ⟨r_126, d_125, rfl, rfl, ?_⟩) 0 d_114 h
        refine st_go 4 (pc' := 200) (lo' := [(2, .int r_4), (1, .int r_2), (0, .ref 42)]) (st' := [.int 1, .int 2, .int 33, .int 0, .int r_126, .ref 42]) rfl ?_
        refine st_calli (k' := 284) (as := [.ref 42, .int r_126, .int 0, .int 33, .int 2, .int 1]) (rest := []) (lo' := [(0, .ref 42), (1, .int r_126), (2, .int 0), (3, .int 33), (4, .int 2), (5, .int 1)]) (wf := fun d => wR L d e) rfl rfl rfl ?_
        refine tMO_giveWith (fun r_128 d_127 h => ⟨r_128, d_127, rfl, rfl, ?_⟩) r_126 0 33 2 1 d_125 h
        refine st_go 1 (pc' := 238) (lo' := [(2, .int r_4), (1, .int r_2), (0, .ref 42)]) (st' := [.int r_128]) rfl ?_
        exact st_retZ rfl rfl h.1 (hQ _ _ h.2)
  · have h := Eq.mp (if_neg hc_7) h
    refine st_if (t := 21) (b := false) rfl (decide_eq_false hc_7) rfl ?_
    refine st_go 3 (pc' := 25) (lo' := [(2, .int r_4), (1, .int r_2), (0, .ref 42)]) (st' := [.int 16, .int 1, .ref 42]) rfl ?_
    refine st_calli (k' := 285) (as := [.ref 42, .int 1, .int 16]) (rest := []) (lo' := [(0, .ref 42), (1, .int 1), (2, .int 16)]) (wf := fun d => wR L d e) rfl rfl rfl ?_
    refine tMO_is (fun r_130 d_129 h => ⟨r_130, d_129, rfl, rfl, ?_⟩) 1 16 d_5 h
    by_cases hc_131 : r_130 = 0
    · have h := Eq.mp (if_pos hc_131) h
      refine st_if (t := 51) (b := true) rfl (decide_eq_true hc_131) rfl ?_
      refine st_go 3 (pc' := 55) (lo' := [(2, .int r_4), (1, .int r_2), (0, .ref 42)]) (st' := [.int 15, .int 1, .ref 42]) rfl ?_
      refine st_calli (k' := 285) (as := [.ref 42, .int 1, .int 15]) (rest := []) (lo' := [(0, .ref 42), (1, .int 1), (2, .int 15)]) (wf := fun d => wR L d e) rfl rfl rfl ?_
      refine tMO_is (fun r_133 d_132 h => ⟨r_133, d_132, rfl, rfl, ?_⟩) 1 15 d_129 h
      by_cases hc_134 : r_133 = 0
      · have h := Eq.mp (if_pos hc_134) h
        refine st_if (t := 107) (b := true) rfl (decide_eq_true hc_134) rfl ?_
        refine st_go 3 (pc' := 112) (lo' := [(2, .int r_4), (1, .int r_2), (0, .ref 42)]) (st' := [.int 0, .ref 51]) rfl ?_
        refine st_ialdR (o := 51) rfl rfl (show ixOk 0 8 by decide) rfl (fun y_135 hy_y_135 => ?_)
        have h := h y_135 hy_y_135
        refine st_go 1 (pc' := 114) (lo' := [(2, .int r_4), (1, .int r_2), (0, .ref 42)]) (st' := [.int 3, .int y_135]) rfl ?_
        by_cases hc_136 : y_135 = 3
        · have h := Eq.mp (if_pos hc_136) h
          refine st_icmp (t := 119) (b := true) rfl (decide_eq_true hc_136) rfl ?_
          refine st_go 2 (pc' := 121) (lo' := [(2, .int r_4), (1, .int r_2), (0, .ref 42)]) (st' := [.int 1, .ref 42]) rfl ?_
          refine st_calli (k' := 287) (as := [.ref 42, .int 1]) (rest := []) (lo' := [(0, .ref 42), (1, .int 1)]) (wf := fun d => wR L d e) rfl rfl rfl ?_
          refine tMO_isHL (fun r_138 d_137 h => ⟨r_138, d_137, rfl, rfl, ?_⟩) 1 d_132 h
          by_cases hc_139 : r_138 = 0
          · have h := Eq.mp (if_pos hc_139) h
            refine st_if (t := 139) (b := true) rfl (decide_eq_true hc_139) rfl ?_
            refine st_go 3 (pc' := 142) (lo' := [(2, .int r_4), (1, .int r_2), (0, .ref 42)]) (st' := [.int 5, .int 1, .ref 42]) rfl ?_
            refine st_calli (k' := 285) (as := [.ref 42, .int 1, .int 5]) (rest := []) (lo' := [(0, .ref 42), (1, .int 1), (2, .int 5)]) (wf := fun d => wR L d e) rfl rfl rfl ?_
            refine tMO_is (fun r_141 d_140 h => ⟨r_141, d_140, rfl, rfl, ?_⟩) 1 5 d_137 h
            by_cases hc_142 : r_141 = 0
            · have h := Eq.mp (if_pos hc_142) h
              refine st_if (t := 168) (b := true) rfl (decide_eq_true hc_142) rfl ?_
              refine st_go 1 (pc' := 169) (lo' := [(2, .int r_4), (1, .int r_2), (0, .ref 42)]) (st' := [.int 0]) rfl ?_
              exact st_retZ rfl rfl (Or.inl rfl) (hQ _ _ h)
            · have h := Eq.mp (if_neg hc_142) h
              refine st_if (t := 148) (b := false) rfl (decide_eq_false hc_142) rfl ?_
              refine st_go 3 (pc' := 151) (lo' := [(2, .int r_4), (1, .int r_2), (0, .ref 42)]) (st' := [.int 1, .ref 42, .ref 42]) rfl ?_
              refine st_calli (k' := 288) (as := [.ref 42, .int 1]) (rest := [.ref 42]) (lo' := [(0, .ref 42), (1, .int 1)]) (wf := fun d => wR L d e) rfl rfl rfl ?_
              refine tMO_frontOf (fun r_144 d_143 h => ⟨r_144, d_143, rfl, rfl, ?_⟩) 1 d_140 h
              refine st_go 2 (pc' := 158) (lo' := [(2, .int r_4), (1, .int r_2), (0, .ref 42)]) (st' := [.int 249, .int 0, .int r_144, .ref 42]) rfl ?_
              refine st_calli (k' := 283) (as := [.ref 42, .int r_144, .int 0, .int 249]) (rest := []) (lo' := [(0, .ref 42), (1, .int r_144), (2, .int 0), (3, .int 249)]) (wf := fun d => wR L d e) rfl rfl rfl ?_
              refine tMO_give (fun r_146 d_145 h => ⟨r_146, d_145, rfl, rfl, ?_⟩) r_144 0 249 d_143 h
              by_cases hc_147 : r_146 = 0
              · have h := Eq.mp (if_pos hc_147) h
                refine st_if (t := 168) (b := true) rfl (decide_eq_true hc_147) rfl ?_
                refine st_go 1 (pc' := 169) (lo' := [(2, .int r_4), (1, .int r_2), (0, .ref 42)]) (st' := [.int 0]) rfl ?_
                exact st_retZ rfl rfl (Or.inl rfl) (hQ _ _ h)
              · have h := Eq.mp (if_neg hc_147) h
                refine st_if (t := 164) (b := false) rfl (decide_eq_false hc_147) rfl ?_
                refine st_go 2 (pc' := 169) (lo' := [(2, .int r_4), (1, .int r_2), (0, .ref 42)]) (st' := [.int 1]) rfl ?_
                exact st_retZ rfl rfl (Or.inr rfl) (hQ _ _ h)
          · have h := Eq.mp (if_neg hc_139) h
            refine st_if (t := 127) (b := false) rfl (decide_eq_false hc_139) rfl ?_
            refine st_go 4 (pc' := 133) (lo' := [(2, .int r_4), (1, .int r_2), (0, .ref 42)]) (st' := [.int 249, .int 0, .int 0, .ref 42]) rfl ?_
            refine st_calli (k' := 283) (as := [.ref 42, .int 0, .int 0, .int 249]) (rest := []) (lo' := [(0, .ref 42), (1, .int 0), (2, .int 0), (3, .int 249)]) (wf := fun d => wR L d e) rfl rfl rfl ?_
            refine tMO_give (fun r_149 d_148 h => ⟨r_149, d_148, rfl, rfl, ?_⟩) 0 0 249 d_137 h
            refine st_go 1 (pc' := 169) (lo' := [(2, .int r_4), (1, .int r_2), (0, .ref 42)]) (st' := [.int r_149]) rfl ?_
            exact st_retZ rfl rfl h.1 (hQ _ _ h.2)
        · have h := Eq.mp (if_neg hc_136) h
          refine st_icmp (t := 117) (b := false) rfl (decide_eq_false hc_136) rfl ?_
          refine st_go 1 (pc' := 118) (lo' := [(2, .int r_4), (1, .int r_2), (0, .ref 42)]) (st' := [.int 0]) rfl ?_
          exact st_retZ rfl rfl (Or.inl rfl) (hQ _ _ h)
      · have h := Eq.mp (if_neg hc_134) h
        refine st_if (t := 61) (b := false) rfl (decide_eq_false hc_134) rfl ?_
        refine st_go 3 (pc' := 66) (lo' := [(2, .int r_4), (1, .int r_2), (0, .ref 42)]) (st' := [.int 0, .ref 51]) rfl ?_
        refine st_ialdR (o := 51) rfl rfl (show ixOk 0 8 by decide) rfl (fun y_150 hy_y_150 => ?_)
        have h := h y_150 hy_y_150
        refine st_go 1 (pc' := 68) (lo' := [(2, .int r_4), (1, .int r_2), (0, .ref 42)]) (st' := [.int 2, .int y_150]) rfl ?_
        by_cases hc_151 : y_150 = 2
        · have h := Eq.mp (if_pos hc_151) h
          refine st_icmp (t := 71) (b := false) rfl (decide_eq_false (fun z => z hc_151)) rfl ?_
          refine st_go 6 (pc' := 78) (lo' := [(2, .int r_4), (1, .int r_2), (0, .ref 42)]) (st' := [.int 1, .int 2, .int 42, .int 0, .int 0, .ref 42]) rfl ?_
          refine st_calli (k' := 284) (as := [.ref 42, .int 0, .int 0, .int 42, .int 2, .int 1]) (rest := []) (lo' := [(0, .ref 42), (1, .int 0), (2, .int 0), (3, .int 42), (4, .int 2), (5, .int 1)]) (wf := fun d => wR L d e) rfl rfl rfl ?_
          refine tMO_giveWith (fun r_153 d_152 h => ⟨r_153, d_152, rfl, rfl, ?_⟩) 0 0 42 2 1 d_132 h
          refine st_go 1 (pc' := 106) (lo' := [(2, .int r_4), (1, .int r_2), (0, .ref 42)]) (st' := [.int r_153]) rfl ?_
          exact st_retZ rfl rfl h.1 (hQ _ _ h.2)
        · have h := Eq.mp (if_neg hc_151) h
          refine st_icmp (t := 84) (b := true) rfl (decide_eq_true hc_151) rfl ?_
          refine st_go 8 (pc' := 98) (lo' := [(2, .int r_4), (1, .int r_2), (0, .ref 42)]) (st' := [.int 0, .ref 51, .int 16, .int 75, .int 237, .int 0, .ref 42]) rfl ?_
          refine st_ialdR (o := 51) rfl rfl (show ixOk 0 8 by decide) rfl (fun y_154 hy_y_154 => ?_)
          have h := h y_154 hy_y_154
          refine st_go 4 (pc' := 103) (lo' := [(2, .int r_4), (1, .int r_2), (0, .ref 42)]) (st' := [.int 1, .int 2, .int ((75 : Int32) + ((16 : Int32) * y_154)), .int 237, .int 0, .ref 42]) rfl ?_
          refine st_calli (k' := 284) (as := [.ref 42, .int 0, .int 237, .int ((75 : Int32) + ((16 : Int32) * y_154)), .int 2, .int 1]) (rest := []) (lo' := [(0, .ref 42), (1, .int 0), (2, .int 237), (3, .int ((75 : Int32) + ((16 : Int32) * y_154))), (4, .int 2), (5, .int 1)]) (wf := fun d => wR L d e) rfl rfl rfl ?_
          refine tMO_giveWith (fun r_156 d_155 h => ⟨r_156, d_155, rfl, rfl, ?_⟩) 0 237 ((75 : Int32) + ((16 : Int32) * y_154)) 2 1 d_132 h
          exact st_retZ rfl rfl h.1 (hQ _ _ h.2)
    · have h := Eq.mp (if_neg hc_131) h
      refine st_if (t := 31) (b := false) rfl (decide_eq_false hc_131) rfl ?_
      refine st_go 8 (pc' := 42) (lo' := [(2, .int r_4), (1, .int r_2), (0, .ref 42)]) (st' := [.int 0, .ref 51, .int 16, .int 1, .int 0, .int 0, .ref 42]) rfl ?_
      refine st_ialdR (o := 51) rfl rfl (show ixOk 0 8 by decide) rfl (fun y_157 hy_y_157 => ?_)
      have h := h y_157 hy_y_157
      refine st_go 4 (pc' := 47) (lo' := [(2, .int r_4), (1, .int r_2), (0, .ref 42)]) (st' := [.int 1, .int 2, .int ((1 : Int32) + ((16 : Int32) * y_157)), .int 0, .int 0, .ref 42]) rfl ?_
      refine st_calli (k' := 284) (as := [.ref 42, .int 0, .int 0, .int ((1 : Int32) + ((16 : Int32) * y_157)), .int 2, .int 1]) (rest := []) (lo' := [(0, .ref 42), (1, .int 0), (2, .int 0), (3, .int ((1 : Int32) + ((16 : Int32) * y_157))), (4, .int 2), (5, .int 1)]) (wf := fun d => wR L d e) rfl rfl rfl ?_
      refine tMO_giveWith (fun r_159 d_158 h => ⟨r_159, d_158, rfl, rfl, ?_⟩) 0 0 ((1 : Int32) + ((16 : Int32) * y_157)) 2 1 d_129 h
      exact st_retZ rfl rfl h.1 (hQ _ _ h.2)
set_option maxRecDepth 100000 in
def MO_encodeSum_168 (x3 : Int32) (d : vmD) (Q : Int32 → vmD → Prop) : Prop :=
  MO_is 0 5 d fun r_9 d_8 =>
  if r_9 = 0 then
  (Q 0 d_8)
  else
  (if (0 : Int32) < x3 then
  (Q 0 d_8)
  else
  (MO_is 1 5 d_8 fun r_13 d_12 =>
  if r_13 = 0 then
  (MO_is 1 2 d_12 fun r_16 d_15 =>
  if r_16 = 0 then
  (Q 0 d_15)
  else
  (bnd (gA d_15 51 1) fun y_18 =>
  if y_18 = 2 then
  (Q 0 d_15)
  else
  (MO_frontOf 0 d_15 fun r_21 d_20 =>
  bnd (gA d_20 51 1) fun y_22 =>
  MO_give r_21 0 ((9 : Int32) + ((16 : Int32) * y_22)) d_20 fun r_24 d_23 =>
  if r_24 = 0 then
  (Q 0 d_23)
  else
  (Q 1 d_23))))
  else
  (bnd (gA d_12 51 0) fun y_26 =>
  bnd (gA d_12 51 1) fun y_27 =>
  if y_26 = y_27 then
  (MO_frontOf 0 d_12 fun r_30 d_29 =>
  MO_give r_30 0 41 d_29 fun r_32 d_31 =>
  if r_32 = 0 then
  (Q 0 d_31)
  else
  (Q 1 d_31))
  else
  (Q 0 d_12))))
set_option maxRecDepth 100000 in
set_option maxHeartbeats 4000000 in
theorem tMO_encodeSum_168 {L : Nat} {e : vmD} {Qo : Option Value → vmW → Prop} {Q : Int32 → vmD → Prop} (hQ : ∀ r d, Q r d → Qo (some (.int r)) (wR L d e)) (x3 : Int32) (d : vmD) (h : MO_encodeSum_168 x3 d Q) : vmWp 297 168 [(0, .ref 42), (3, .int x3)] [] (wR L d e) Qo := by
  unfold MO_encodeSum_168 at h
  refine st_go 3 (pc' := 171) (lo' := [(0, .ref 42), (3, .int x3)]) (st' := [.int 5, .int 0, .ref 42]) rfl ?_
  refine st_calli (k' := 285) (as := [.ref 42, .int 0, .int 5]) (rest := []) (lo' := [(0, .ref 42), (1, .int 0), (2, .int 5)]) (wf := fun d => wR L d e) rfl rfl rfl ?_
  refine tMO_is (fun r_9 d_8 h => ⟨r_9, d_8, rfl, rfl, ?_⟩) 0 5 d h
  by_cases hc_10 : r_9 = 0
  · have h := Eq.mp (if_pos hc_10) h
    refine st_if (t := 181) (b := true) rfl (decide_eq_true hc_10) rfl ?_
    refine st_go 1 (pc' := 182) (lo' := [(0, .ref 42), (3, .int x3)]) (st' := [.int 0]) rfl ?_
    exact st_retZ rfl rfl (Or.inl rfl) (hQ _ _ h)
  · have h := Eq.mp (if_neg hc_10) h
    refine st_if (t := 177) (b := false) rfl (decide_eq_false hc_10) rfl ?_
    refine st_go 1 (pc' := 178) (lo' := [(0, .ref 42), (3, .int x3)]) (st' := [.int x3]) rfl ?_
    by_cases hc_11 : (0 : Int32) < x3
    · have h := Eq.mp (if_pos hc_11) h
      refine st_if (t := 181) (b := false) rfl (decide_eq_false (Int32.not_le.mpr hc_11)) rfl ?_
      refine st_go 1 (pc' := 182) (lo' := [(0, .ref 42), (3, .int x3)]) (st' := [.int 0]) rfl ?_
      exact st_retZ rfl rfl (Or.inl rfl) (hQ _ _ h)
    · have h := Eq.mp (if_neg hc_11) h
      refine st_if (t := 183) (b := true) rfl (decide_eq_true (Int32.not_lt.mp hc_11)) rfl ?_
      refine st_go 3 (pc' := 186) (lo' := [(0, .ref 42), (3, .int x3)]) (st' := [.int 5, .int 1, .ref 42]) rfl ?_
      refine st_calli (k' := 285) (as := [.ref 42, .int 1, .int 5]) (rest := []) (lo' := [(0, .ref 42), (1, .int 1), (2, .int 5)]) (wf := fun d => wR L d e) rfl rfl rfl ?_
      refine tMO_is (fun r_13 d_12 h => ⟨r_13, d_12, rfl, rfl, ?_⟩) 1 5 d_8 h
      by_cases hc_14 : r_13 = 0
      · have h := Eq.mp (if_pos hc_14) h
        refine st_if (t := 228) (b := true) rfl (decide_eq_true hc_14) rfl ?_
        refine st_go 3 (pc' := 231) (lo' := [(0, .ref 42), (3, .int x3)]) (st' := [.int 2, .int 1, .ref 42]) rfl ?_
        refine st_calli (k' := 285) (as := [.ref 42, .int 1, .int 2]) (rest := []) (lo' := [(0, .ref 42), (1, .int 1), (2, .int 2)]) (wf := fun d => wR L d e) rfl rfl rfl ?_
        refine tMO_is (fun r_16 d_15 h => ⟨r_16, d_15, rfl, rfl, ?_⟩) 1 2 d_12 h
        by_cases hc_17 : r_16 = 0
        · have h := Eq.mp (if_pos hc_17) h
          refine st_if (t := 276) (b := true) rfl (decide_eq_true hc_17) rfl ?_
          refine st_go 1 (pc' := 277) (lo' := [(0, .ref 42), (3, .int x3)]) (st' := [.int 0]) rfl ?_
          exact st_retZ rfl rfl (Or.inl rfl) (hQ _ _ h)
        · have h := Eq.mp (if_neg hc_17) h
          refine st_if (t := 237) (b := false) rfl (decide_eq_false hc_17) rfl ?_
          refine st_go 3 (pc' := 242) (lo' := [(0, .ref 42), (3, .int x3)]) (st' := [.int 1, .ref 51]) rfl ?_
          refine st_ialdR (o := 51) rfl rfl (show ixOk 1 8 by decide) rfl (fun y_18 hy_y_18 => ?_)
          have h := h y_18 hy_y_18
          refine st_go 1 (pc' := 244) (lo' := [(0, .ref 42), (3, .int x3)]) (st' := [.int 2, .int y_18]) rfl ?_
          by_cases hc_19 : y_18 = 2
          · have h := Eq.mp (if_pos hc_19) h
            refine st_icmp (t := 276) (b := true) rfl (decide_eq_true hc_19) rfl ?_
            refine st_go 1 (pc' := 277) (lo' := [(0, .ref 42), (3, .int x3)]) (st' := [.int 0]) rfl ?_
            exact st_retZ rfl rfl (Or.inl rfl) (hQ _ _ h)
          · have h := Eq.mp (if_neg hc_19) h
            refine st_icmp (t := 247) (b := false) rfl (decide_eq_false hc_19) rfl ?_
            refine st_go 3 (pc' := 250) (lo' := [(0, .ref 42), (3, .int x3)]) (st' := [.int 0, .ref 42, .ref 42]) rfl ?_
            refine st_calli (k' := 288) (as := [.ref 42, .int 0]) (rest := [.ref 42]) (lo' := [(0, .ref 42), (1, .int 0)]) (wf := fun d => wR L d e) rfl rfl rfl ?_
            refine tMO_frontOf (fun r_21 d_20 h => ⟨r_21, d_20, rfl, rfl, ?_⟩) 0 d_15 h
            refine st_go 6 (pc' := 263) (lo' := [(0, .ref 42), (3, .int x3)]) (st' := [.int 1, .ref 51, .int 16, .int 9, .int 0, .int r_21, .ref 42]) rfl ?_
            refine st_ialdR (o := 51) rfl rfl (show ixOk 1 8 by decide) rfl (fun y_22 hy_y_22 => ?_)
            have h := h y_22 hy_y_22
            refine st_go 2 (pc' := 266) (lo' := [(0, .ref 42), (3, .int x3)]) (st' := [.int ((9 : Int32) + ((16 : Int32) * y_22)), .int 0, .int r_21, .ref 42]) rfl ?_
            refine st_calli (k' := 283) (as := [.ref 42, .int r_21, .int 0, .int ((9 : Int32) + ((16 : Int32) * y_22))]) (rest := []) (lo' := [(0, .ref 42), (1, .int r_21), (2, .int 0), (3, .int ((9 : Int32) + ((16 : Int32) * y_22)))]) (wf := fun d => wR L d e) rfl rfl rfl ?_
            refine tMO_give (fun r_24 d_23 h => ⟨r_24, d_23, rfl, rfl, ?_⟩) r_21 0 ((9 : Int32) + ((16 : Int32) * y_22)) d_20 h
            by_cases hc_25 : r_24 = 0
            · have h := Eq.mp (if_pos hc_25) h
              refine st_if (t := 276) (b := true) rfl (decide_eq_true hc_25) rfl ?_
              refine st_go 1 (pc' := 277) (lo' := [(0, .ref 42), (3, .int x3)]) (st' := [.int 0]) rfl ?_
              exact st_retZ rfl rfl (Or.inl rfl) (hQ _ _ h)
            · have h := Eq.mp (if_neg hc_25) h
              refine st_if (t := 272) (b := false) rfl (decide_eq_false hc_25) rfl ?_
              refine st_go 2 (pc' := 277) (lo' := [(0, .ref 42), (3, .int x3)]) (st' := [.int 1]) rfl ?_
              exact st_retZ rfl rfl (Or.inr rfl) (hQ _ _ h)
      · have h := Eq.mp (if_neg hc_14) h
        refine st_if (t := 192) (b := false) rfl (decide_eq_false hc_14) rfl ?_
        refine st_go 3 (pc' := 197) (lo' := [(0, .ref 42), (3, .int x3)]) (st' := [.int 0, .ref 51]) rfl ?_
        refine st_ialdR (o := 51) rfl rfl (show ixOk 0 8 by decide) rfl (fun y_26 hy_y_26 => ?_)
        have h := h y_26 hy_y_26
        refine st_go 3 (pc' := 203) (lo' := [(0, .ref 42), (3, .int x3)]) (st' := [.int 1, .ref 51, .int y_26]) rfl ?_
        refine st_ialdR (o := 51) rfl rfl (show ixOk 1 8 by decide) rfl (fun y_27 hy_y_27 => ?_)
        have h := h y_27 hy_y_27
        by_cases hc_28 : y_26 = y_27
        · have h := Eq.mp (if_pos hc_28) h
          refine st_icmp (t := 207) (b := false) rfl (decide_eq_false (fun z => z hc_28)) rfl ?_
          refine st_go 3 (pc' := 210) (lo' := [(0, .ref 42), (3, .int x3)]) (st' := [.int 0, .ref 42, .ref 42]) rfl ?_
          refine st_calli (k' := 288) (as := [.ref 42, .int 0]) (rest := [.ref 42]) (lo' := [(0, .ref 42), (1, .int 0)]) (wf := fun d => wR L d e) rfl rfl rfl ?_
          refine tMO_frontOf (fun r_30 d_29 h => ⟨r_30, d_29, rfl, rfl, ?_⟩) 0 d_12 h
          refine st_go 2 (pc' := 216) (lo' := [(0, .ref 42), (3, .int x3)]) (st' := [.int 41, .int 0, .int r_30, .ref 42]) rfl ?_
          refine st_calli (k' := 283) (as := [.ref 42, .int r_30, .int 0, .int 41]) (rest := []) (lo' := [(0, .ref 42), (1, .int r_30), (2, .int 0), (3, .int 41)]) (wf := fun d => wR L d e) rfl rfl rfl ?_
          refine tMO_give (fun r_32 d_31 h => ⟨r_32, d_31, rfl, rfl, ?_⟩) r_30 0 41 d_29 h
          by_cases hc_33 : r_32 = 0
          · have h := Eq.mp (if_pos hc_33) h
            refine st_if (t := 226) (b := true) rfl (decide_eq_true hc_33) rfl ?_
            refine st_go 1 (pc' := 227) (lo' := [(0, .ref 42), (3, .int x3)]) (st' := [.int 0]) rfl ?_
            exact st_retZ rfl rfl (Or.inl rfl) (hQ _ _ h)
          · have h := Eq.mp (if_neg hc_33) h
            refine st_if (t := 222) (b := false) rfl (decide_eq_false hc_33) rfl ?_
            refine st_go 2 (pc' := 227) (lo' := [(0, .ref 42), (3, .int x3)]) (st' := [.int 1]) rfl ?_
            exact st_retZ rfl rfl (Or.inr rfl) (hQ _ _ h)
        · have h := Eq.mp (if_neg hc_28) h
          refine st_icmp (t := 226) (b := true) rfl (decide_eq_true hc_28) rfl ?_
          refine st_go 1 (pc' := 227) (lo' := [(0, .ref 42), (3, .int x3)]) (st' := [.int 0]) rfl ?_
          exact st_retZ rfl rfl (Or.inl rfl) (hQ _ _ h)
set_option maxRecDepth 100000 in
def MO_encodeSum_154 (s0 : Int32) (s1 : Int32) (s2 : Int32) (d : vmD) (Q : Int32 → vmD → Prop) : Prop :=
  bnd (gA d 51 1) fun y_42 =>
  MO_give s2 s1 (s0 + ((16 : Int32) * y_42)) d fun r_44 d_43 =>
  (r_44 = 0 ∨ r_44 = 1) ∧ Q r_44 d_43
set_option maxRecDepth 100000 in
set_option maxHeartbeats 4000000 in
theorem tMO_encodeSum_154 {L : Nat} {e : vmD} {Qo : Option Value → vmW → Prop} {Q : Int32 → vmD → Prop} (hQ : ∀ r d, Q r d → Qo (some (.int r)) (wR L d e)) (s0 : Int32) (s1 : Int32) (s2 : Int32) (d : vmD) (h : MO_encodeSum_154 s0 s1 s2 d Q) : vmWp 297 154 [(0, .ref 42)] [.int s0, .int s1, .int s2, .ref 42] (wR L d e) Qo := by
  unfold MO_encodeSum_154 at h
  refine st_go 4 (pc' := 161) (lo' := [(0, .ref 42)]) (st' := [.int 1, .ref 51, .int 16, .int s0, .int s1, .int s2, .ref 42]) rfl ?_
  refine st_ialdR (o := 51) rfl rfl (show ixOk 1 8 by decide) rfl (fun y_42 hy_y_42 => ?_)
  have h := h y_42 hy_y_42
  refine st_go 2 (pc' := 164) (lo' := [(0, .ref 42)]) (st' := [.int (s0 + ((16 : Int32) * y_42)), .int s1, .int s2, .ref 42]) rfl ?_
  refine st_calli (k' := 283) (as := [.ref 42, .int s2, .int s1, .int (s0 + ((16 : Int32) * y_42))]) (rest := []) (lo' := [(0, .ref 42), (1, .int s2), (2, .int s1), (3, .int (s0 + ((16 : Int32) * y_42)))]) (wf := fun d => wR L d e) rfl rfl rfl ?_
  refine tMO_give (fun r_44 d_43 h => ⟨r_44, d_43, rfl, rfl, ?_⟩) s2 s1 (s0 + ((16 : Int32) * y_42)) d h
  exact st_retZ rfl rfl h.1 (hQ _ _ h.2)
set_option maxRecDepth 100000 in
def MO_encodeSum_27 (s0 : Int32) (d : vmD) (Q : Int32 → vmD → Prop) : Prop :=
  MO_isA 0 d fun r_3 d_2 =>
  if r_3 = 0 then
  (MO_isHL 0 d_2 fun r_6 d_5 =>
  if r_6 = 0 then
  (MO_encodeSum_168 s0 d_5 Q)
  else
  (MO_is 1 2 d_5 fun r_35 d_34 =>
  if r_35 = 0 then
  (MO_encodeSum_168 s0 d_34 Q)
  else
  (if s0 = 0 then
  (bnd (gA d_34 51 1) fun y_38 =>
  MO_give 0 0 ((9 : Int32) + ((16 : Int32) * y_38)) d_34 fun r_40 d_39 =>
  (r_40 = 0 ∨ r_40 = 1) ∧ Q r_40 d_39)
  else
  (if s0 = 8 then
  (MO_encodeSum_154 74 237 0 d_34 Q)
  else
  (MO_encodeSum_154 66 237 0 d_34 Q)))))
  else
  (MO_is 1 16 d_2 fun r_46 d_45 =>
  if r_46 = 0 then
  (MO_octetOf 1 d_45 fun r_49 d_48 =>
  if r_49 < 0 then
  (Q 0 d_48)
  else
  (MO_octetOf 1 d_48 fun r_52 d_51 =>
  MO_giveOctet 0 (((128 : Int32) + s0) + r_52) 1 d_51 fun r_54 d_53 =>
  if r_54 = 0 then
  (Q 0 d_53)
  else
  (Q 1 d_53)))
  else
  (MO_giveWith 0 0 ((198 : Int32) + s0) 1 1 d_45 fun r_57 d_56 =>
  (r_57 = 0 ∨ r_57 = 1) ∧ Q r_57 d_56))
set_option maxRecDepth 100000 in
set_option maxHeartbeats 4000000 in
theorem tMO_encodeSum_27 {L : Nat} {e : vmD} {Qo : Option Value → vmW → Prop} {Q : Int32 → vmD → Prop} (hQ : ∀ r d, Q r d → Qo (some (.int r)) (wR L d e)) (s0 : Int32) (d : vmD) (h : MO_encodeSum_27 s0 d Q) : vmWp 297 27 [(0, .ref 42)] [.int s0] (wR L d e) Qo := by
  unfold MO_encodeSum_27 at h
  refine st_go 3 (pc' := 30) (lo' := [(3, .int s0), (0, .ref 42)]) (st' := [.int 0, .ref 42]) rfl ?_
  refine st_calli (k' := 286) (as := [.ref 42, .int 0]) (rest := []) (lo' := [(0, .ref 42), (1, .int 0)]) (wf := fun d => wR L d e) rfl rfl rfl ?_
  refine tMO_isA (fun r_3 d_2 h => ⟨r_3, d_2, rfl, rfl, ?_⟩) 0 d h
  by_cases hc_4 : r_3 = 0
  · have h := Eq.mp (if_pos hc_4) h
    refine st_if (t := 94) (b := true) rfl (decide_eq_true hc_4) rfl ?_
    refine st_go 2 (pc' := 96) (lo' := [(3, .int s0), (0, .ref 42)]) (st' := [.int 0, .ref 42]) rfl ?_
    refine st_calli (k' := 287) (as := [.ref 42, .int 0]) (rest := []) (lo' := [(0, .ref 42), (1, .int 0)]) (wf := fun d => wR L d e) rfl rfl rfl ?_
    refine tMO_isHL (fun r_6 d_5 h => ⟨r_6, d_5, rfl, rfl, ?_⟩) 0 d_2 h
    by_cases hc_7 : r_6 = 0
    · have h := Eq.mp (if_pos hc_7) h
      refine st_if (t := 168) (b := true) rfl (decide_eq_true hc_7) rfl ?_
      refine vmWp.sub (lo' := [(0, .ref 42), (3, .int s0)]) ⟨rfl, rfl, trivial⟩ ?_
      exact tMO_encodeSum_168 hQ s0 d_5 h
    · have h := Eq.mp (if_neg hc_7) h
      refine st_if (t := 102) (b := false) rfl (decide_eq_false hc_7) rfl ?_
      refine st_go 3 (pc' := 105) (lo' := [(3, .int s0), (0, .ref 42)]) (st' := [.int 2, .int 1, .ref 42]) rfl ?_
      refine st_calli (k' := 285) (as := [.ref 42, .int 1, .int 2]) (rest := []) (lo' := [(0, .ref 42), (1, .int 1), (2, .int 2)]) (wf := fun d => wR L d e) rfl rfl rfl ?_
      refine tMO_is (fun r_35 d_34 h => ⟨r_35, d_34, rfl, rfl, ?_⟩) 1 2 d_5 h
      by_cases hc_36 : r_35 = 0
      · have h := Eq.mp (if_pos hc_36) h
        refine st_if (t := 168) (b := true) rfl (decide_eq_true hc_36) rfl ?_
        refine vmWp.sub (lo' := [(0, .ref 42), (3, .int s0)]) ⟨rfl, rfl, trivial⟩ ?_
        exact tMO_encodeSum_168 hQ s0 d_34 h
      · have h := Eq.mp (if_neg hc_36) h
        refine st_if (t := 111) (b := false) rfl (decide_eq_false hc_36) rfl ?_
        refine st_go 1 (pc' := 112) (lo' := [(3, .int s0), (0, .ref 42)]) (st' := [.int s0]) rfl ?_
        by_cases hc_37 : s0 = 0
        · have h := Eq.mp (if_pos hc_37) h
          refine st_if (t := 115) (b := false) rfl (decide_eq_false (fun z => z hc_37)) rfl ?_
          refine st_go 8 (pc' := 127) (lo' := [(3, .int s0), (0, .ref 42)]) (st' := [.int 1, .ref 51, .int 16, .int 9, .int 0, .int 0, .ref 42]) rfl ?_
          refine st_ialdR (o := 51) rfl rfl (show ixOk 1 8 by decide) rfl (fun y_38 hy_y_38 => ?_)
          have h := h y_38 hy_y_38
          refine st_go 2 (pc' := 130) (lo' := [(3, .int s0), (0, .ref 42)]) (st' := [.int ((9 : Int32) + ((16 : Int32) * y_38)), .int 0, .int 0, .ref 42]) rfl ?_
          refine st_calli (k' := 283) (as := [.ref 42, .int 0, .int 0, .int ((9 : Int32) + ((16 : Int32) * y_38))]) (rest := []) (lo' := [(0, .ref 42), (1, .int 0), (2, .int 0), (3, .int ((9 : Int32) + ((16 : Int32) * y_38)))]) (wf := fun d => wR L d e) rfl rfl rfl ?_
          refine tMO_give (fun r_40 d_39 h => ⟨r_40, d_39, rfl, rfl, ?_⟩) 0 0 ((9 : Int32) + ((16 : Int32) * y_38)) d_34 h
          refine st_go 1 (pc' := 167) (lo' := [(3, .int s0), (0, .ref 42)]) (st' := [.int r_40]) rfl ?_
          exact st_retZ rfl rfl h.1 (hQ _ _ h.2)
        · have h := Eq.mp (if_neg hc_37) h
          refine st_if (t := 136) (b := true) rfl (decide_eq_true hc_37) rfl ?_
          refine st_go 5 (pc' := 144) (lo' := [(3, .int s0), (0, .ref 42)]) (st' := [.int 8, .int s0, .int 237, .int 0, .ref 42]) rfl ?_
          by_cases hc_41 : s0 = 8
          · have h := Eq.mp (if_pos hc_41) h
            refine st_icmp (t := 147) (b := false) rfl (decide_eq_false (fun z => z hc_41)) rfl ?_
            refine st_go 2 (pc' := 154) (lo' := [(3, .int s0), (0, .ref 42)]) (st' := [.int 74, .int 237, .int 0, .ref 42]) rfl ?_
            refine vmWp.sub (lo' := [(0, .ref 42)]) ⟨rfl, trivial⟩ ?_
            exact tMO_encodeSum_154 hQ 74 237 0 d_34 h
          · have h := Eq.mp (if_neg hc_41) h
            refine st_icmp (t := 152) (b := true) rfl (decide_eq_true hc_41) rfl ?_
            refine st_go 1 (pc' := 154) (lo' := [(3, .int s0), (0, .ref 42)]) (st' := [.int 66, .int 237, .int 0, .ref 42]) rfl ?_
            refine vmWp.sub (lo' := [(0, .ref 42)]) ⟨rfl, trivial⟩ ?_
            exact tMO_encodeSum_154 hQ 66 237 0 d_34 h
  · have h := Eq.mp (if_neg hc_4) h
    refine st_if (t := 36) (b := false) rfl (decide_eq_false hc_4) rfl ?_
    refine st_go 3 (pc' := 40) (lo' := [(3, .int s0), (0, .ref 42)]) (st' := [.int 16, .int 1, .ref 42]) rfl ?_
    refine st_calli (k' := 285) (as := [.ref 42, .int 1, .int 16]) (rest := []) (lo' := [(0, .ref 42), (1, .int 1), (2, .int 16)]) (wf := fun d => wR L d e) rfl rfl rfl ?_
    refine tMO_is (fun r_46 d_45 h => ⟨r_46, d_45, rfl, rfl, ?_⟩) 1 16 d_2 h
    by_cases hc_47 : r_46 = 0
    · have h := Eq.mp (if_pos hc_47) h
      refine st_if (t := 60) (b := true) rfl (decide_eq_true hc_47) rfl ?_
      refine st_go 2 (pc' := 62) (lo' := [(3, .int s0), (0, .ref 42)]) (st' := [.int 1, .ref 42]) rfl ?_
      refine st_calli (k' := 289) (as := [.ref 42, .int 1]) (rest := []) (lo' := [(0, .ref 42), (1, .int 1)]) (wf := fun d => wR L d e) rfl rfl rfl ?_
      refine tMO_octetOf (fun r_49 d_48 h => ⟨r_49, d_48, rfl, rfl, ?_⟩) 1 d_45 h
      by_cases hc_50 : r_49 < 0
      · have h := Eq.mp (if_pos hc_50) h
        refine st_if (t := 92) (b := true) rfl (decide_eq_true hc_50) rfl ?_
        refine st_go 1 (pc' := 93) (lo' := [(3, .int s0), (0, .ref 42)]) (st' := [.int 0]) rfl ?_
        exact st_retZ rfl rfl (Or.inl rfl) (hQ _ _ h)
      · have h := Eq.mp (if_neg hc_50) h
        refine st_if (t := 68) (b := false) rfl (decide_eq_false hc_50) rfl ?_
        refine st_go 7 (pc' := 77) (lo' := [(3, .int s0), (0, .ref 42)]) (st' := [.int 1, .ref 42, .int ((128 : Int32) + s0), .int 0, .ref 42]) rfl ?_
        refine st_calli (k' := 289) (as := [.ref 42, .int 1]) (rest := [.int ((128 : Int32) + s0), .int 0, .ref 42]) (lo' := [(0, .ref 42), (1, .int 1)]) (wf := fun d => wR L d e) rfl rfl rfl ?_
        refine tMO_octetOf (fun r_52 d_51 h => ⟨r_52, d_51, rfl, rfl, ?_⟩) 1 d_48 h
        refine st_go 2 (pc' := 82) (lo' := [(3, .int s0), (0, .ref 42)]) (st' := [.int 1, .int (((128 : Int32) + s0) + r_52), .int 0, .ref 42]) rfl ?_
        refine st_calli (k' := 290) (as := [.ref 42, .int 0, .int (((128 : Int32) + s0) + r_52), .int 1]) (rest := []) (lo' := [(0, .ref 42), (1, .int 0), (2, .int (((128 : Int32) + s0) + r_52)), (3, .int 1)]) (wf := fun d => wR L d e) rfl rfl rfl ?_
        refine tMO_giveOctet (fun r_54 d_53 h => ⟨r_54, d_53, rfl, rfl, ?_⟩) 0 (((128 : Int32) + s0) + r_52) 1 d_51 h
        by_cases hc_55 : r_54 = 0
        · have h := Eq.mp (if_pos hc_55) h
          refine st_if (t := 92) (b := true) rfl (decide_eq_true hc_55) rfl ?_
          refine st_go 1 (pc' := 93) (lo' := [(3, .int s0), (0, .ref 42)]) (st' := [.int 0]) rfl ?_
          exact st_retZ rfl rfl (Or.inl rfl) (hQ _ _ h)
        · have h := Eq.mp (if_neg hc_55) h
          refine st_if (t := 88) (b := false) rfl (decide_eq_false hc_55) rfl ?_
          refine st_go 2 (pc' := 93) (lo' := [(3, .int s0), (0, .ref 42)]) (st' := [.int 1]) rfl ?_
          exact st_retZ rfl rfl (Or.inr rfl) (hQ _ _ h)
    · have h := Eq.mp (if_neg hc_47) h
      refine st_if (t := 46) (b := false) rfl (decide_eq_false hc_47) rfl ?_
      refine st_go 8 (pc' := 56) (lo' := [(3, .int s0), (0, .ref 42)]) (st' := [.int 1, .int 1, .int ((198 : Int32) + s0), .int 0, .int 0, .ref 42]) rfl ?_
      refine st_calli (k' := 284) (as := [.ref 42, .int 0, .int 0, .int ((198 : Int32) + s0), .int 1, .int 1]) (rest := []) (lo' := [(0, .ref 42), (1, .int 0), (2, .int 0), (3, .int ((198 : Int32) + s0)), (4, .int 1), (5, .int 1)]) (wf := fun d => wR L d e) rfl rfl rfl ?_
      refine tMO_giveWith (fun r_57 d_56 h => ⟨r_57, d_56, rfl, rfl, ?_⟩) 0 0 ((198 : Int32) + s0) 1 1 d_45 h
      exact st_retZ rfl rfl h.1 (hQ _ _ h.2)
set_option maxRecDepth 100000 in
def MO_encodeSum (x1 : Int64) (d : vmD) (Q : Int32 → vmD → Prop) : Prop :=
  if (lg_cmp x1 4277316) = 0 then
  (MO_encodeSum_27 0 d Q)
  else
  (if (lg_cmp x1 4277315) = 0 then
  (MO_encodeSum_27 8 d Q)
  else
  (MO_encodeSum_27 24 d Q))
set_option maxRecDepth 100000 in
set_option maxHeartbeats 4000000 in
theorem tMO_encodeSum {L : Nat} {e : vmD} {Qo : Option Value → vmW → Prop} {Q : Int32 → vmD → Prop} (hQ : ∀ r d, Q r d → Qo (some (.int r)) (wR L d e)) (x1 : Int64) (d : vmD) (h : MO_encodeSum x1 d Q) : vmWp 297 0 [(0, .ref 42), (1, .long x1)] [] (wR L d e) Qo := by
  unfold MO_encodeSum at h
  refine st_go 3 (pc' := 5) (lo' := [(0, .ref 42), (1, .long x1)]) (st' := [.int (lg_cmp x1 4277316)]) rfl ?_
  by_cases hc_1 : (lg_cmp x1 4277316) = 0
  · have h := Eq.mp (if_pos hc_1) h
    refine st_if (t := 8) (b := false) rfl (decide_eq_false (fun z => z hc_1)) rfl ?_
    refine st_go 2 (pc' := 27) (lo' := [(0, .ref 42), (1, .long x1)]) (st' := [.int 0]) rfl ?_
    refine vmWp.sub (lo' := [(0, .ref 42)]) ⟨rfl, trivial⟩ ?_
    exact tMO_encodeSum_27 hQ 0 d h
  · have h := Eq.mp (if_neg hc_1) h
    refine st_if (t := 12) (b := true) rfl (decide_eq_true hc_1) rfl ?_
    refine st_go 3 (pc' := 17) (lo' := [(0, .ref 42), (1, .long x1)]) (st' := [.int (lg_cmp x1 4277315)]) rfl ?_
    by_cases hc_58 : (lg_cmp x1 4277315) = 0
    · have h := Eq.mp (if_pos hc_58) h
      refine st_if (t := 20) (b := false) rfl (decide_eq_false (fun z => z hc_58)) rfl ?_
      refine st_go 2 (pc' := 27) (lo' := [(0, .ref 42), (1, .long x1)]) (st' := [.int 8]) rfl ?_
      refine vmWp.sub (lo' := [(0, .ref 42)]) ⟨rfl, trivial⟩ ?_
      exact tMO_encodeSum_27 hQ 8 d h
    · have h := Eq.mp (if_neg hc_58) h
      refine st_if (t := 25) (b := true) rfl (decide_eq_true hc_58) rfl ?_
      refine st_go 1 (pc' := 27) (lo' := [(0, .ref 42), (1, .long x1)]) (st' := [.int 24]) rfl ?_
      refine vmWp.sub (lo' := [(0, .ref 42)]) ⟨rfl, trivial⟩ ?_
      exact tMO_encodeSum_27 hQ 24 d h
