/-! The decompiled program, 4.7 -/
set_option maxRecDepth 100000 in
def MO_encodeTwo_85 (d : vmD) (Q : Int32 → vmD → Prop) : Prop :=
  MO_is 0 12 d fun r_12 d_11 =>
  if r_12 = 0 then
  (Q 0 d_11)
  else
  (MO_isHL 1 d_11 fun r_15 d_14 =>
  if r_15 = 0 then
  (MO_is 1 5 d_14 fun r_18 d_17 =>
  if r_18 = 0 then
  (Q 0 d_17)
  else
  (MO_frontOf 1 d_17 fun r_21 d_20 =>
  MO_give r_21 0 227 d_20 fun r_23 d_22 =>
  if r_23 = 0 then
  (Q 0 d_22)
  else
  (Q 1 d_22)))
  else
  (MO_give 0 0 227 d_14 fun r_26 d_25 =>
  (r_26 = 0 ∨ r_26 = 1) ∧ Q r_26 d_25))
set_option maxRecDepth 100000 in
set_option maxHeartbeats 4000000 in
theorem tMO_encodeTwo_85 {L : Nat} {e : vmD} {Qo : Option Value → vmW → Prop} {Q : Int32 → vmD → Prop} (hQ : ∀ r d, Q r d → Qo (some (.int r)) (wR L d e)) (d : vmD) (h : MO_encodeTwo_85 d Q) : vmWp 296 85 [(0, .ref 42)] [] (wR L d e) Qo := by
  unfold MO_encodeTwo_85 at h
  refine st_go 3 (pc' := 89) (lo' := [(0, .ref 42)]) (st' := [.int 12, .int 0, .ref 42]) rfl ?_
  refine st_calli (k' := 285) (as := [.ref 42, .int 0, .int 12]) (rest := []) (lo' := [(0, .ref 42), (1, .int 0), (2, .int 12)]) (wf := fun d => wR L d e) rfl rfl rfl ?_
  refine tMO_is (fun r_12 d_11 h => ⟨r_12, d_11, rfl, rfl, ?_⟩) 0 12 d h
  by_cases hc_13 : r_12 = 0
  · have h := Eq.mp (if_pos hc_13) h
    refine st_if (t := 95) (b := false) rfl (decide_eq_false (fun z => z hc_13)) rfl ?_
    refine st_go 1 (pc' := 96) (lo' := [(0, .ref 42)]) (st' := [.int 0]) rfl ?_
    exact st_retZ rfl rfl (Or.inl rfl) (hQ _ _ h)
  · have h := Eq.mp (if_neg hc_13) h
    refine st_if (t := 97) (b := true) rfl (decide_eq_true hc_13) rfl ?_
    refine st_go 2 (pc' := 99) (lo' := [(0, .ref 42)]) (st' := [.int 1, .ref 42]) rfl ?_
    refine st_calli (k' := 287) (as := [.ref 42, .int 1]) (rest := []) (lo' := [(0, .ref 42), (1, .int 1)]) (wf := fun d => wR L d e) rfl rfl rfl ?_
    refine tMO_isHL (fun r_15 d_14 h => ⟨r_15, d_14, rfl, rfl, ?_⟩) 1 d_11 h
    by_cases hc_16 : r_15 = 0
    · have h := Eq.mp (if_pos hc_16) h
      refine st_if (t := 117) (b := true) rfl (decide_eq_true hc_16) rfl ?_
      refine st_go 3 (pc' := 120) (lo' := [(0, .ref 42)]) (st' := [.int 5, .int 1, .ref 42]) rfl ?_
      refine st_calli (k' := 285) (as := [.ref 42, .int 1, .int 5]) (rest := []) (lo' := [(0, .ref 42), (1, .int 1), (2, .int 5)]) (wf := fun d => wR L d e) rfl rfl rfl ?_
      refine tMO_is (fun r_18 d_17 h => ⟨r_18, d_17, rfl, rfl, ?_⟩) 1 5 d_14 h
      by_cases hc_19 : r_18 = 0
      · have h := Eq.mp (if_pos hc_19) h
        refine st_if (t := 146) (b := true) rfl (decide_eq_true hc_19) rfl ?_
        refine st_go 1 (pc' := 147) (lo' := [(0, .ref 42)]) (st' := [.int 0]) rfl ?_
        exact st_retZ rfl rfl (Or.inl rfl) (hQ _ _ h)
      · have h := Eq.mp (if_neg hc_19) h
        refine st_if (t := 126) (b := false) rfl (decide_eq_false hc_19) rfl ?_
        refine st_go 3 (pc' := 129) (lo' := [(0, .ref 42)]) (st' := [.int 1, .ref 42, .ref 42]) rfl ?_
        refine st_calli (k' := 288) (as := [.ref 42, .int 1]) (rest := [.ref 42]) (lo' := [(0, .ref 42), (1, .int 1)]) (wf := fun d => wR L d e) rfl rfl rfl ?_
        refine tMO_frontOf (fun r_21 d_20 h => ⟨r_21, d_20, rfl, rfl, ?_⟩) 1 d_17 h
        refine st_go 2 (pc' := 136) (lo' := [(0, .ref 42)]) (st' := [.int 227, .int 0, .int r_21, .ref 42]) rfl ?_
        refine st_calli (k' := 283) (as := [.ref 42, .int r_21, .int 0, .int 227]) (rest := []) (lo' := [(0, .ref 42), (1, .int r_21), (2, .int 0), (3, .int 227)]) (wf := fun d => wR L d e) rfl rfl rfl ?_
        refine tMO_give (fun r_23 d_22 h => ⟨r_23, d_22, rfl, rfl, ?_⟩) r_21 0 227 d_20 h
        by_cases hc_24 : r_23 = 0
        · have h := Eq.mp (if_pos hc_24) h
          refine st_if (t := 146) (b := true) rfl (decide_eq_true hc_24) rfl ?_
          refine st_go 1 (pc' := 147) (lo' := [(0, .ref 42)]) (st' := [.int 0]) rfl ?_
          exact st_retZ rfl rfl (Or.inl rfl) (hQ _ _ h)
        · have h := Eq.mp (if_neg hc_24) h
          refine st_if (t := 142) (b := false) rfl (decide_eq_false hc_24) rfl ?_
          refine st_go 2 (pc' := 147) (lo' := [(0, .ref 42)]) (st' := [.int 1]) rfl ?_
          exact st_retZ rfl rfl (Or.inr rfl) (hQ _ _ h)
    · have h := Eq.mp (if_neg hc_16) h
      refine st_if (t := 105) (b := false) rfl (decide_eq_false hc_16) rfl ?_
      refine st_go 4 (pc' := 111) (lo' := [(0, .ref 42)]) (st' := [.int 227, .int 0, .int 0, .ref 42]) rfl ?_
      refine st_calli (k' := 283) (as := [.ref 42, .int 0, .int 0, .int 227]) (rest := []) (lo' := [(0, .ref 42), (1, .int 0), (2, .int 0), (3, .int 227)]) (wf := fun d => wR L d e) rfl rfl rfl ?_
      refine tMO_give (fun r_26 d_25 h => ⟨r_26, d_25, rfl, rfl, ?_⟩) 0 0 227 d_14 h
      refine st_go 1 (pc' := 147) (lo' := [(0, .ref 42)]) (st' := [.int r_26]) rfl ?_
      exact st_retZ rfl rfl h.1 (hQ _ _ h.2)
set_option maxRecDepth 100000 in
def MO_encodeTwo_48 (d : vmD) (Q : Int32 → vmD → Prop) : Prop :=
  MO_is 0 2 d fun r_9 d_8 =>
  if r_9 = 0 then
  (MO_encodeTwo_85 d_8 Q)
  else
  (bnd (gA d_8 51 0) fun y_27 =>
  if y_27 = 1 then
  (MO_isHL 1 d_8 fun r_30 d_29 =>
  if r_30 = 0 then
  (MO_encodeTwo_85 d_29 Q)
  else
  (MO_give 0 0 235 d_29 fun r_33 d_32 =>
  (r_33 = 0 ∨ r_33 = 1) ∧ Q r_33 d_32))
  else
  (MO_encodeTwo_85 d_8 Q))
set_option maxRecDepth 100000 in
set_option maxHeartbeats 4000000 in
theorem tMO_encodeTwo_48 {L : Nat} {e : vmD} {Qo : Option Value → vmW → Prop} {Q : Int32 → vmD → Prop} (hQ : ∀ r d, Q r d → Qo (some (.int r)) (wR L d e)) (d : vmD) (h : MO_encodeTwo_48 d Q) : vmWp 296 48 [(0, .ref 42)] [] (wR L d e) Qo := by
  unfold MO_encodeTwo_48 at h
  refine st_go 3 (pc' := 51) (lo' := [(0, .ref 42)]) (st' := [.int 2, .int 0, .ref 42]) rfl ?_
  refine st_calli (k' := 285) (as := [.ref 42, .int 0, .int 2]) (rest := []) (lo' := [(0, .ref 42), (1, .int 0), (2, .int 2)]) (wf := fun d => wR L d e) rfl rfl rfl ?_
  refine tMO_is (fun r_9 d_8 h => ⟨r_9, d_8, rfl, rfl, ?_⟩) 0 2 d h
  by_cases hc_10 : r_9 = 0
  · have h := Eq.mp (if_pos hc_10) h
    refine st_if (t := 85) (b := true) rfl (decide_eq_true hc_10) rfl ?_
    refine vmWp.sub (lo' := [(0, .ref 42)]) ⟨rfl, trivial⟩ ?_
    exact tMO_encodeTwo_85 hQ d_8 h
  · have h := Eq.mp (if_neg hc_10) h
    refine st_if (t := 57) (b := false) rfl (decide_eq_false hc_10) rfl ?_
    refine st_go 3 (pc' := 62) (lo' := [(0, .ref 42)]) (st' := [.int 0, .ref 51]) rfl ?_
    refine st_ialdR (o := 51) rfl rfl (show ixOk 0 8 by decide) rfl (fun y_27 hy_y_27 => ?_)
    have h := h y_27 hy_y_27
    refine st_go 1 (pc' := 64) (lo' := [(0, .ref 42)]) (st' := [.int 1, .int y_27]) rfl ?_
    by_cases hc_28 : y_27 = 1
    · have h := Eq.mp (if_pos hc_28) h
      refine st_icmp (t := 67) (b := false) rfl (decide_eq_false (fun z => z hc_28)) rfl ?_
      refine st_go 2 (pc' := 69) (lo' := [(0, .ref 42)]) (st' := [.int 1, .ref 42]) rfl ?_
      refine st_calli (k' := 287) (as := [.ref 42, .int 1]) (rest := []) (lo' := [(0, .ref 42), (1, .int 1)]) (wf := fun d => wR L d e) rfl rfl rfl ?_
      refine tMO_isHL (fun r_30 d_29 h => ⟨r_30, d_29, rfl, rfl, ?_⟩) 1 d_8 h
      by_cases hc_31 : r_30 = 0
      · have h := Eq.mp (if_pos hc_31) h
        refine st_if (t := 85) (b := true) rfl (decide_eq_true hc_31) rfl ?_
        refine vmWp.sub (lo' := [(0, .ref 42)]) ⟨rfl, trivial⟩ ?_
        exact tMO_encodeTwo_85 hQ d_29 h
      · have h := Eq.mp (if_neg hc_31) h
        refine st_if (t := 75) (b := false) rfl (decide_eq_false hc_31) rfl ?_
        refine st_go 4 (pc' := 81) (lo' := [(0, .ref 42)]) (st' := [.int 235, .int 0, .int 0, .ref 42]) rfl ?_
        refine st_calli (k' := 283) (as := [.ref 42, .int 0, .int 0, .int 235]) (rest := []) (lo' := [(0, .ref 42), (1, .int 0), (2, .int 0), (3, .int 235)]) (wf := fun d => wR L d e) rfl rfl rfl ?_
        refine tMO_give (fun r_33 d_32 h => ⟨r_33, d_32, rfl, rfl, ?_⟩) 0 0 235 d_29 h
        exact st_retZ rfl rfl h.1 (hQ _ _ h.2)
    · have h := Eq.mp (if_neg hc_28) h
      refine st_icmp (t := 85) (b := true) rfl (decide_eq_true hc_28) rfl ?_
      refine vmWp.sub (lo' := [(0, .ref 42)]) ⟨rfl, trivial⟩ ?_
      exact tMO_encodeTwo_85 hQ d_8 h
set_option maxRecDepth 100000 in
def MO_encodeTwo_172 (x1 : Int64) (d : vmD) (Q : Int32 → vmD → Prop) : Prop :=
  MO_encodeSum x1 d fun r_41 d_40 =>
  (r_41 = 0 ∨ r_41 = 1) ∧ Q r_41 d_40
set_option maxRecDepth 100000 in
set_option maxHeartbeats 4000000 in
theorem tMO_encodeTwo_172 {L : Nat} {e : vmD} {Qo : Option Value → vmW → Prop} {Q : Int32 → vmD → Prop} (hQ : ∀ r d, Q r d → Qo (some (.int r)) (wR L d e)) (x1 : Int64) (d : vmD) (h : MO_encodeTwo_172 x1 d Q) : vmWp 296 172 [(0, .ref 42), (1, .long x1)] [] (wR L d e) Qo := by
  unfold MO_encodeTwo_172 at h
  refine st_go 2 (pc' := 174) (lo' := [(0, .ref 42), (1, .long x1)]) (st' := [.long x1, .ref 42]) rfl ?_
  refine st_calli (k' := 297) (as := [.ref 42, .long x1]) (rest := []) (lo' := [(0, .ref 42), (1, .long x1)]) (wf := fun d => wR L d e) rfl rfl rfl ?_
  refine tMO_encodeSum (fun r_41 d_40 h => ⟨r_41, d_40, rfl, rfl, ?_⟩) x1 d h
  exact st_retZ rfl rfl h.1 (hQ _ _ h.2)
set_option maxRecDepth 100000 in
def MO_encodeTwo_581 (s0 : Int32) (d : vmD) (Q : Int32 → vmD → Prop) : Prop :=
  if s0 = 0 then
  (Q 0 d)
  else
  (MO_is 0 16 d fun r_126 d_125 =>
  if r_126 = 0 then
  (Q 0 d_125)
  else
  (MO_octetOf 1 d_125 fun r_129 d_128 =>
  if r_129 < 0 then
  (Q 0 d_128)
  else
  (bnd (sF d_128 42 34 1) fun d_131 =>
  bnd (sF d_131 42 35 0) fun d_132 =>
  MO_octetOf 1 d_132 fun r_134 d_133 =>
  MO_giveOctet 203 (s0 + r_134) 1 d_133 fun r_136 d_135 =>
  (r_136 = 0 ∨ r_136 = 1) ∧ Q r_136 d_135)))
set_option maxRecDepth 100000 in
set_option maxHeartbeats 4000000 in
theorem tMO_encodeTwo_581 {L : Nat} {e : vmD} {Qo : Option Value → vmW → Prop} {Q : Int32 → vmD → Prop} (hQ : ∀ r d, Q r d → Qo (some (.int r)) (wR L d e)) (s0 : Int32) (d : vmD) (h : MO_encodeTwo_581 s0 d Q) : vmWp 296 581 [(0, .ref 42)] [.int s0] (wR L d e) Qo := by
  unfold MO_encodeTwo_581 at h
  refine st_go 2 (pc' := 583) (lo' := [(3, .int s0), (0, .ref 42)]) (st' := [.int s0]) rfl ?_
  by_cases hc_124 : s0 = 0
  · have h := Eq.mp (if_pos hc_124) h
    refine st_if (t := 604) (b := true) rfl (decide_eq_true hc_124) rfl ?_
    refine st_go 1 (pc' := 605) (lo' := [(3, .int s0), (0, .ref 42)]) (st' := [.int 0]) rfl ?_
    exact st_retZ rfl rfl (Or.inl rfl) (hQ _ _ h)
  · have h := Eq.mp (if_neg hc_124) h
    refine st_if (t := 586) (b := false) rfl (decide_eq_false hc_124) rfl ?_
    refine st_go 3 (pc' := 590) (lo' := [(3, .int s0), (0, .ref 42)]) (st' := [.int 16, .int 0, .ref 42]) rfl ?_
    refine st_calli (k' := 285) (as := [.ref 42, .int 0, .int 16]) (rest := []) (lo' := [(0, .ref 42), (1, .int 0), (2, .int 16)]) (wf := fun d => wR L d e) rfl rfl rfl ?_
    refine tMO_is (fun r_126 d_125 h => ⟨r_126, d_125, rfl, rfl, ?_⟩) 0 16 d h
    by_cases hc_127 : r_126 = 0
    · have h := Eq.mp (if_pos hc_127) h
      refine st_if (t := 604) (b := true) rfl (decide_eq_true hc_127) rfl ?_
      refine st_go 1 (pc' := 605) (lo' := [(3, .int s0), (0, .ref 42)]) (st' := [.int 0]) rfl ?_
      exact st_retZ rfl rfl (Or.inl rfl) (hQ _ _ h)
    · have h := Eq.mp (if_neg hc_127) h
      refine st_if (t := 596) (b := false) rfl (decide_eq_false hc_127) rfl ?_
      refine st_go 2 (pc' := 598) (lo' := [(3, .int s0), (0, .ref 42)]) (st' := [.int 1, .ref 42]) rfl ?_
      refine st_calli (k' := 289) (as := [.ref 42, .int 1]) (rest := []) (lo' := [(0, .ref 42), (1, .int 1)]) (wf := fun d => wR L d e) rfl rfl rfl ?_
      refine tMO_octetOf (fun r_129 d_128 h => ⟨r_129, d_128, rfl, rfl, ?_⟩) 1 d_125 h
      by_cases hc_130 : r_129 < 0
      · have h := Eq.mp (if_pos hc_130) h
        refine st_if (t := 604) (b := false) rfl (decide_eq_false (Int32.not_le.mpr hc_130)) rfl ?_
        refine st_go 1 (pc' := 605) (lo' := [(3, .int s0), (0, .ref 42)]) (st' := [.int 0]) rfl ?_
        exact st_retZ rfl rfl (Or.inl rfl) (hQ _ _ h)
      · have h := Eq.mp (if_neg hc_130) h
        refine st_if (t := 606) (b := true) rfl (decide_eq_true (Int32.not_lt.mp hc_130)) rfl ?_
        refine st_go 2 (pc' := 608) (lo' := [(3, .int s0), (0, .ref 42)]) (st' := [.int 1, .ref 42]) rfl ?_
        refine st_putIR (o := 42) (f := 34) rfl rfl rfl rfl rfl (fun d_131 hy_d_131 => ?_)
        have h := h d_131 hy_d_131
        refine st_go 2 (pc' := 613) (lo' := [(3, .int s0), (0, .ref 42)]) (st' := [.int 0, .ref 42]) rfl ?_
        refine st_putIR (o := 42) (f := 35) rfl rfl rfl rfl rfl (fun d_132 hy_d_132 => ?_)
        have h := h d_132 hy_d_132
        refine st_go 5 (pc' := 623) (lo' := [(3, .int s0), (0, .ref 42)]) (st' := [.int 1, .ref 42, .int s0, .int 203, .ref 42]) rfl ?_
        refine st_calli (k' := 289) (as := [.ref 42, .int 1]) (rest := [.int s0, .int 203, .ref 42]) (lo' := [(0, .ref 42), (1, .int 1)]) (wf := fun d => wR L d e) rfl rfl rfl ?_
        refine tMO_octetOf (fun r_134 d_133 h => ⟨r_134, d_133, rfl, rfl, ?_⟩) 1 d_132 h
        refine st_go 2 (pc' := 628) (lo' := [(3, .int s0), (0, .ref 42)]) (st' := [.int 1, .int (s0 + r_134), .int 203, .ref 42]) rfl ?_
        refine st_calli (k' := 290) (as := [.ref 42, .int 203, .int (s0 + r_134), .int 1]) (rest := []) (lo' := [(0, .ref 42), (1, .int 203), (2, .int (s0 + r_134)), (3, .int 1)]) (wf := fun d => wR L d e) rfl rfl rfl ?_
        refine tMO_giveOctet (fun r_136 d_135 h => ⟨r_136, d_135, rfl, rfl, ?_⟩) 203 (s0 + r_134) 1 d_133 h
        exact st_retZ rfl rfl h.1 (hQ _ _ h.2)
set_option maxRecDepth 100000 in
def MO_encodeTwo (x1 : Int64) (d : vmD) (Q : Int32 → vmD → Prop) : Prop :=
  if (lg_cmp x1 19524) = 0 then
  (MO_encodeLoad d fun r_3 d_2 =>
  (r_3 = 0 ∨ r_3 = 1) ∧ Q r_3 d_2)
  else
  (if (lg_cmp x1 17752) = 0 then
  (MO_is 0 3 d fun r_6 d_5 =>
  if r_6 = 0 then
  (MO_encodeTwo_48 d_5 Q)
  else
  (MO_is 1 4 d_5 fun r_35 d_34 =>
  if r_35 = 0 then
  (MO_encodeTwo_48 d_34 Q)
  else
  (MO_give 0 0 8 d_34 fun r_38 d_37 =>
  (r_38 = 0 ∨ r_38 = 1) ∧ Q r_38 d_37)))
  else
  (if (lg_cmp x1 4277316) = 0 then
  (MO_encodeTwo_172 x1 d Q)
  else
  (if (lg_cmp x1 4277315) = 0 then
  (MO_encodeTwo_172 x1 d Q)
  else
  (if (lg_cmp x1 5456451) = 0 then
  (MO_encodeTwo_172 x1 d Q)
  else
  (if (lg_cmp x1 19026) = 0 then
  (MO_conditionOf 0 d fun r_46 d_45 =>
  if r_46 < 0 then
  (Q 0 d_45)
  else
  (MO_conditionOf 0 d_45 fun r_49 d_48 =>
  if r_49 < 4 then
  (MO_is 1 16 d_48 fun r_52 d_51 =>
  if r_52 = 0 then
  (Q 0 d_51)
  else
  (MO_conditionOf 0 d_51 fun r_55 d_54 =>
  MO_giveWith 0 0 ((32 : Int32) + ((8 : Int32) * r_55)) 3 1 d_54 fun r_57 d_56 =>
  if r_57 = 0 then
  (Q 0 d_56)
  else
  (Q 1 d_56)))
  else
  (Q 0 d_48)))
  else
  (if (lg_cmp x1 19024) = 0 then
  (MO_conditionOf 0 d fun r_61 d_60 =>
  if r_61 < 0 then
  (Q 0 d_60)
  else
  (MO_is 1 16 d_60 fun r_64 d_63 =>
  if r_64 = 0 then
  (Q 0 d_63)
  else
  (MO_conditionOf 0 d_63 fun r_67 d_66 =>
  MO_giveWith 0 0 ((194 : Int32) + ((8 : Int32) * r_67)) 2 1 d_66 fun r_69 d_68 =>
  if r_69 = 0 then
  (Q 0 d_68)
  else
  (Q 1 d_68))))
  else
  (if (lg_cmp x1 1128352844) = 0 then
  (MO_conditionOf 0 d fun r_73 d_72 =>
  if r_73 < 0 then
  (Q 0 d_72)
  else
  (MO_is 1 16 d_72 fun r_76 d_75 =>
  if r_76 = 0 then
  (Q 0 d_75)
  else
  (MO_conditionOf 0 d_75 fun r_79 d_78 =>
  MO_giveWith 0 0 ((196 : Int32) + ((8 : Int32) * r_79)) 2 1 d_78 fun r_81 d_80 =>
  if r_81 = 0 then
  (Q 0 d_80)
  else
  (Q 1 d_80))))
  else
  (if (lg_cmp x1 5199188) = 0 then
  (MO_is 0 15 d fun r_85 d_84 =>
  if r_85 = 0 then
  (MO_is 0 13 d_84 fun r_88 d_87 =>
  if r_88 = 0 then
  (Q 0 d_87)
  else
  (MO_is 1 1 d_87 fun r_91 d_90 =>
  if r_91 = 0 then
  (Q 0 d_90)
  else
  (bnd (gA d_90 51 1) fun y_93 =>
  MO_give 0 237 ((65 : Int32) + ((8 : Int32) * y_93)) d_90 fun r_95 d_94 =>
  if r_95 = 0 then
  (Q 0 d_94)
  else
  (Q 1 d_94))))
  else
  (MO_isA 1 d_84 fun r_98 d_97 =>
  if r_98 = 0 then
  (Q 0 d_97)
  else
  (MO_giveWith 0 0 211 1 0 d_97 fun r_101 d_100 =>
  if r_101 = 0 then
  (Q 0 d_100)
  else
  (Q 1 d_100))))
  else
  (if (lg_cmp x1 18766) = 0 then
  (MO_is 1 15 d fun r_105 d_104 =>
  if r_105 = 0 then
  (MO_is 1 13 d_104 fun r_108 d_107 =>
  if r_108 = 0 then
  (Q 0 d_107)
  else
  (MO_is 0 1 d_107 fun r_111 d_110 =>
  if r_111 = 0 then
  (Q 0 d_110)
  else
  (bnd (gA d_110 51 0) fun y_113 =>
  MO_give 0 237 ((64 : Int32) + ((8 : Int32) * y_113)) d_110 fun r_115 d_114 =>
  if r_115 = 0 then
  (Q 0 d_114)
  else
  (Q 1 d_114))))
  else
  (MO_isA 0 d_104 fun r_118 d_117 =>
  if r_118 = 0 then
  (Q 0 d_117)
  else
  (MO_giveWith 0 0 219 1 1 d_117 fun r_121 d_120 =>
  if r_121 = 0 then
  (Q 0 d_120)
  else
  (Q 1 d_120))))
  else
  (if (lg_cmp x1 4344148) = 0 then
  (MO_encodeTwo_581 64 d Q)
  else
  (if (lg_cmp x1 5391699) = 0 then
  (MO_encodeTwo_581 128 d Q)
  else
  (if (lg_cmp x1 5457236) = 0 then
  (MO_encodeTwo_581 192 d Q)
  else
  (MO_encodeTwo_581 0 d Q)))))))))))))
set_option maxRecDepth 100000 in
set_option maxHeartbeats 4000000 in
theorem tMO_encodeTwo {L : Nat} {e : vmD} {Qo : Option Value → vmW → Prop} {Q : Int32 → vmD → Prop} (hQ : ∀ r d, Q r d → Qo (some (.int r)) (wR L d e)) (x1 : Int64) (d : vmD) (h : MO_encodeTwo x1 d Q) : vmWp 296 0 [(0, .ref 42), (1, .long x1)] [] (wR L d e) Qo := by
  unfold MO_encodeTwo at h
  refine st_go 3 (pc' := 5) (lo' := [(0, .ref 42), (1, .long x1)]) (st' := [.int (lg_cmp x1 19524)]) rfl ?_
  by_cases hc_1 : (lg_cmp x1 19524) = 0
  · have h := Eq.mp (if_pos hc_1) h
    refine st_if (t := 8) (b := false) rfl (decide_eq_false (fun z => z hc_1)) rfl ?_
    refine st_go 1 (pc' := 9) (lo' := [(0, .ref 42), (1, .long x1)]) (st' := [.ref 42]) rfl ?_
    refine st_calli (k' := 298) (as := [.ref 42]) (rest := []) (lo' := [(0, .ref 42)]) (wf := fun d => wR L d e) rfl rfl rfl ?_
    refine tMO_encodeLoad (fun r_3 d_2 h => ⟨r_3, d_2, rfl, rfl, ?_⟩) d h
    exact st_retZ rfl rfl h.1 (hQ _ _ h.2)
  · have h := Eq.mp (if_neg hc_1) h
    refine st_if (t := 13) (b := true) rfl (decide_eq_true hc_1) rfl ?_
    refine st_go 3 (pc' := 18) (lo' := [(0, .ref 42), (1, .long x1)]) (st' := [.int (lg_cmp x1 17752)]) rfl ?_
    by_cases hc_4 : (lg_cmp x1 17752) = 0
    · have h := Eq.mp (if_pos hc_4) h
      refine st_if (t := 21) (b := false) rfl (decide_eq_false (fun z => z hc_4)) rfl ?_
      refine st_go 3 (pc' := 24) (lo' := [(0, .ref 42), (1, .long x1)]) (st' := [.int 3, .int 0, .ref 42]) rfl ?_
      refine st_calli (k' := 285) (as := [.ref 42, .int 0, .int 3]) (rest := []) (lo' := [(0, .ref 42), (1, .int 0), (2, .int 3)]) (wf := fun d => wR L d e) rfl rfl rfl ?_
      refine tMO_is (fun r_6 d_5 h => ⟨r_6, d_5, rfl, rfl, ?_⟩) 0 3 d h
      by_cases hc_7 : r_6 = 0
      · have h := Eq.mp (if_pos hc_7) h
        refine st_if (t := 48) (b := true) rfl (decide_eq_true hc_7) rfl ?_
        refine vmWp.sub (lo' := [(0, .ref 42)]) ⟨rfl, trivial⟩ ?_
        exact tMO_encodeTwo_48 hQ d_5 h
      · have h := Eq.mp (if_neg hc_7) h
        refine st_if (t := 30) (b := false) rfl (decide_eq_false hc_7) rfl ?_
        refine st_go 3 (pc' := 33) (lo' := [(0, .ref 42), (1, .long x1)]) (st' := [.int 4, .int 1, .ref 42]) rfl ?_
        refine st_calli (k' := 285) (as := [.ref 42, .int 1, .int 4]) (rest := []) (lo' := [(0, .ref 42), (1, .int 1), (2, .int 4)]) (wf := fun d => wR L d e) rfl rfl rfl ?_
        refine tMO_is (fun r_35 d_34 h => ⟨r_35, d_34, rfl, rfl, ?_⟩) 1 4 d_5 h
        by_cases hc_36 : r_35 = 0
        · have h := Eq.mp (if_pos hc_36) h
          refine st_if (t := 48) (b := true) rfl (decide_eq_true hc_36) rfl ?_
          refine vmWp.sub (lo' := [(0, .ref 42)]) ⟨rfl, trivial⟩ ?_
          exact tMO_encodeTwo_48 hQ d_34 h
        · have h := Eq.mp (if_neg hc_36) h
          refine st_if (t := 39) (b := false) rfl (decide_eq_false hc_36) rfl ?_
          refine st_go 4 (pc' := 44) (lo' := [(0, .ref 42), (1, .long x1)]) (st' := [.int 8, .int 0, .int 0, .ref 42]) rfl ?_
          refine st_calli (k' := 283) (as := [.ref 42, .int 0, .int 0, .int 8]) (rest := []) (lo' := [(0, .ref 42), (1, .int 0), (2, .int 0), (3, .int 8)]) (wf := fun d => wR L d e) rfl rfl rfl ?_
          refine tMO_give (fun r_38 d_37 h => ⟨r_38, d_37, rfl, rfl, ?_⟩) 0 0 8 d_34 h
          exact st_retZ rfl rfl h.1 (hQ _ _ h.2)
    · have h := Eq.mp (if_neg hc_4) h
      refine st_if (t := 148) (b := true) rfl (decide_eq_true hc_4) rfl ?_
      refine st_go 3 (pc' := 153) (lo' := [(0, .ref 42), (1, .long x1)]) (st' := [.int (lg_cmp x1 4277316)]) rfl ?_
      by_cases hc_39 : (lg_cmp x1 4277316) = 0
      · have h := Eq.mp (if_pos hc_39) h
        refine st_if (t := 172) (b := true) rfl (decide_eq_true hc_39) rfl ?_
        refine vmWp.sub (lo' := [(0, .ref 42), (1, .long x1)]) ⟨rfl, rfl, trivial⟩ ?_
        exact tMO_encodeTwo_172 hQ x1 d h
      · have h := Eq.mp (if_neg hc_39) h
        refine st_if (t := 156) (b := false) rfl (decide_eq_false hc_39) rfl ?_
        refine st_go 3 (pc' := 161) (lo' := [(0, .ref 42), (1, .long x1)]) (st' := [.int (lg_cmp x1 4277315)]) rfl ?_
        by_cases hc_42 : (lg_cmp x1 4277315) = 0
        · have h := Eq.mp (if_pos hc_42) h
          refine st_if (t := 172) (b := true) rfl (decide_eq_true hc_42) rfl ?_
          refine vmWp.sub (lo' := [(0, .ref 42), (1, .long x1)]) ⟨rfl, rfl, trivial⟩ ?_
          exact tMO_encodeTwo_172 hQ x1 d h
        · have h := Eq.mp (if_neg hc_42) h
          refine st_if (t := 164) (b := false) rfl (decide_eq_false hc_42) rfl ?_
          refine st_go 3 (pc' := 169) (lo' := [(0, .ref 42), (1, .long x1)]) (st' := [.int (lg_cmp x1 5456451)]) rfl ?_
          by_cases hc_43 : (lg_cmp x1 5456451) = 0
          · have h := Eq.mp (if_pos hc_43) h
            refine st_if (t := 172) (b := false) rfl (decide_eq_false (fun z => z hc_43)) rfl ?_
            refine vmWp.sub (lo' := [(0, .ref 42), (1, .long x1)]) ⟨rfl, rfl, trivial⟩ ?_
            exact tMO_encodeTwo_172 hQ x1 d h
          · have h := Eq.mp (if_neg hc_43) h
            refine st_if (t := 178) (b := true) rfl (decide_eq_true hc_43) rfl ?_
            refine st_go 3 (pc' := 183) (lo' := [(0, .ref 42), (1, .long x1)]) (st' := [.int (lg_cmp x1 19026)]) rfl ?_
            by_cases hc_44 : (lg_cmp x1 19026) = 0
            · have h := Eq.mp (if_pos hc_44) h
              refine st_if (t := 186) (b := false) rfl (decide_eq_false (fun z => z hc_44)) rfl ?_
              refine st_go 2 (pc' := 188) (lo' := [(0, .ref 42), (1, .long x1)]) (st' := [.int 0, .ref 42]) rfl ?_
              refine st_calli (k' := 291) (as := [.ref 42, .int 0]) (rest := []) (lo' := [(0, .ref 42), (1, .int 0)]) (wf := fun d => wR L d e) rfl rfl rfl ?_
              refine tMO_conditionOf (fun r_46 d_45 h => ⟨r_46, d_45, rfl, rfl, ?_⟩) 0 d h
              by_cases hc_47 : r_46 < 0
              · have h := Eq.mp (if_pos hc_47) h
                refine st_if (t := 239) (b := true) rfl (decide_eq_true hc_47) rfl ?_
                refine st_go 1 (pc' := 240) (lo' := [(0, .ref 42), (1, .long x1)]) (st' := [.int 0]) rfl ?_
                exact st_retZ rfl rfl (Or.inl rfl) (hQ _ _ h)
              · have h := Eq.mp (if_neg hc_47) h
                refine st_if (t := 194) (b := false) rfl (decide_eq_false hc_47) rfl ?_
                refine st_go 2 (pc' := 196) (lo' := [(0, .ref 42), (1, .long x1)]) (st' := [.int 0, .ref 42]) rfl ?_
                refine st_calli (k' := 291) (as := [.ref 42, .int 0]) (rest := []) (lo' := [(0, .ref 42), (1, .int 0)]) (wf := fun d => wR L d e) rfl rfl rfl ?_
                refine tMO_conditionOf (fun r_49 d_48 h => ⟨r_49, d_48, rfl, rfl, ?_⟩) 0 d_45 h
                refine st_go 1 (pc' := 200) (lo' := [(0, .ref 42), (1, .long x1)]) (st' := [.int 4, .int r_49]) rfl ?_
                by_cases hc_50 : r_49 < 4
                · have h := Eq.mp (if_pos hc_50) h
                  refine st_icmp (t := 203) (b := false) rfl (decide_eq_false (Int32.not_le.mpr hc_50)) rfl ?_
                  refine st_go 3 (pc' := 207) (lo' := [(0, .ref 42), (1, .long x1)]) (st' := [.int 16, .int 1, .ref 42]) rfl ?_
                  refine st_calli (k' := 285) (as := [.ref 42, .int 1, .int 16]) (rest := []) (lo' := [(0, .ref 42), (1, .int 1), (2, .int 16)]) (wf := fun d => wR L d e) rfl rfl rfl ?_
                  refine tMO_is (fun r_52 d_51 h => ⟨r_52, d_51, rfl, rfl, ?_⟩) 1 16 d_48 h
                  by_cases hc_53 : r_52 = 0
                  · have h := Eq.mp (if_pos hc_53) h
                    refine st_if (t := 239) (b := true) rfl (decide_eq_true hc_53) rfl ?_
                    refine st_go 1 (pc' := 240) (lo' := [(0, .ref 42), (1, .long x1)]) (st' := [.int 0]) rfl ?_
                    exact st_retZ rfl rfl (Or.inl rfl) (hQ _ _ h)
                  · have h := Eq.mp (if_neg hc_53) h
                    refine st_if (t := 213) (b := false) rfl (decide_eq_false hc_53) rfl ?_
                    refine st_go 7 (pc' := 222) (lo' := [(0, .ref 42), (1, .long x1)]) (st' := [.int 0, .ref 42, .int 8, .int 32, .int 0, .int 0, .ref 42]) rfl ?_
                    refine st_calli (k' := 291) (as := [.ref 42, .int 0]) (rest := [.int 8, .int 32, .int 0, .int 0, .ref 42]) (lo' := [(0, .ref 42), (1, .int 0)]) (wf := fun d => wR L d e) rfl rfl rfl ?_
                    refine tMO_conditionOf (fun r_55 d_54 h => ⟨r_55, d_54, rfl, rfl, ?_⟩) 0 d_51 h
                    refine st_go 4 (pc' := 229) (lo' := [(0, .ref 42), (1, .long x1)]) (st' := [.int 1, .int 3, .int ((32 : Int32) + ((8 : Int32) * r_55)), .int 0, .int 0, .ref 42]) rfl ?_
                    refine st_calli (k' := 284) (as := [.ref 42, .int 0, .int 0, .int ((32 : Int32) + ((8 : Int32) * r_55)), .int 3, .int 1]) (rest := []) (lo' := [(0, .ref 42), (1, .int 0), (2, .int 0), (3, .int ((32 : Int32) + ((8 : Int32) * r_55))), (4, .int 3), (5, .int 1)]) (wf := fun d => wR L d e) rfl rfl rfl ?_
                    refine tMO_giveWith (fun r_57 d_56 h => ⟨r_57, d_56, rfl, rfl, ?_⟩) 0 0 ((32 : Int32) + ((8 : Int32) * r_55)) 3 1 d_54 h
                    by_cases hc_58 : r_57 = 0
                    · have h := Eq.mp (if_pos hc_58) h
                      refine st_if (t := 239) (b := true) rfl (decide_eq_true hc_58) rfl ?_
                      refine st_go 1 (pc' := 240) (lo' := [(0, .ref 42), (1, .long x1)]) (st' := [.int 0]) rfl ?_
                      exact st_retZ rfl rfl (Or.inl rfl) (hQ _ _ h)
                    · have h := Eq.mp (if_neg hc_58) h
                      refine st_if (t := 235) (b := false) rfl (decide_eq_false hc_58) rfl ?_
                      refine st_go 2 (pc' := 240) (lo' := [(0, .ref 42), (1, .long x1)]) (st' := [.int 1]) rfl ?_
                      exact st_retZ rfl rfl (Or.inr rfl) (hQ _ _ h)
                · have h := Eq.mp (if_neg hc_50) h
                  refine st_icmp (t := 239) (b := true) rfl (decide_eq_true (Int32.not_lt.mp hc_50)) rfl ?_
                  refine st_go 1 (pc' := 240) (lo' := [(0, .ref 42), (1, .long x1)]) (st' := [.int 0]) rfl ?_
                  exact st_retZ rfl rfl (Or.inl rfl) (hQ _ _ h)
            · have h := Eq.mp (if_neg hc_44) h
              refine st_if (t := 241) (b := true) rfl (decide_eq_true hc_44) rfl ?_
              refine st_go 3 (pc' := 246) (lo' := [(0, .ref 42), (1, .long x1)]) (st' := [.int (lg_cmp x1 19024)]) rfl ?_
              by_cases hc_59 : (lg_cmp x1 19024) = 0
              · have h := Eq.mp (if_pos hc_59) h
                refine st_if (t := 249) (b := false) rfl (decide_eq_false (fun z => z hc_59)) rfl ?_
                refine st_go 2 (pc' := 251) (lo' := [(0, .ref 42), (1, .long x1)]) (st' := [.int 0, .ref 42]) rfl ?_
                refine st_calli (k' := 291) (as := [.ref 42, .int 0]) (rest := []) (lo' := [(0, .ref 42), (1, .int 0)]) (wf := fun d => wR L d e) rfl rfl rfl ?_
                refine tMO_conditionOf (fun r_61 d_60 h => ⟨r_61, d_60, rfl, rfl, ?_⟩) 0 d h
                by_cases hc_62 : r_61 < 0
                · have h := Eq.mp (if_pos hc_62) h
                  refine st_if (t := 294) (b := true) rfl (decide_eq_true hc_62) rfl ?_
                  refine st_go 1 (pc' := 295) (lo' := [(0, .ref 42), (1, .long x1)]) (st' := [.int 0]) rfl ?_
                  exact st_retZ rfl rfl (Or.inl rfl) (hQ _ _ h)
                · have h := Eq.mp (if_neg hc_62) h
                  refine st_if (t := 257) (b := false) rfl (decide_eq_false hc_62) rfl ?_
                  refine st_go 3 (pc' := 261) (lo' := [(0, .ref 42), (1, .long x1)]) (st' := [.int 16, .int 1, .ref 42]) rfl ?_
                  refine st_calli (k' := 285) (as := [.ref 42, .int 1, .int 16]) (rest := []) (lo' := [(0, .ref 42), (1, .int 1), (2, .int 16)]) (wf := fun d => wR L d e) rfl rfl rfl ?_
                  refine tMO_is (fun r_64 d_63 h => ⟨r_64, d_63, rfl, rfl, ?_⟩) 1 16 d_60 h
                  by_cases hc_65 : r_64 = 0
                  · have h := Eq.mp (if_pos hc_65) h
                    refine st_if (t := 294) (b := true) rfl (decide_eq_true hc_65) rfl ?_
                    refine st_go 1 (pc' := 295) (lo' := [(0, .ref 42), (1, .long x1)]) (st' := [.int 0]) rfl ?_
                    exact st_retZ rfl rfl (Or.inl rfl) (hQ _ _ h)
                  · have h := Eq.mp (if_neg hc_65) h
                    refine st_if (t := 267) (b := false) rfl (decide_eq_false hc_65) rfl ?_
                    refine st_go 7 (pc' := 277) (lo' := [(0, .ref 42), (1, .long x1)]) (st' := [.int 0, .ref 42, .int 8, .int 194, .int 0, .int 0, .ref 42]) rfl ?_
                    refine st_calli (k' := 291) (as := [.ref 42, .int 0]) (rest := [.int 8, .int 194, .int 0, .int 0, .ref 42]) (lo' := [(0, .ref 42), (1, .int 0)]) (wf := fun d => wR L d e) rfl rfl rfl ?_
                    refine tMO_conditionOf (fun r_67 d_66 h => ⟨r_67, d_66, rfl, rfl, ?_⟩) 0 d_63 h
                    refine st_go 4 (pc' := 284) (lo' := [(0, .ref 42), (1, .long x1)]) (st' := [.int 1, .int 2, .int ((194 : Int32) + ((8 : Int32) * r_67)), .int 0, .int 0, .ref 42]) rfl ?_
                    refine st_calli (k' := 284) (as := [.ref 42, .int 0, .int 0, .int ((194 : Int32) + ((8 : Int32) * r_67)), .int 2, .int 1]) (rest := []) (lo' := [(0, .ref 42), (1, .int 0), (2, .int 0), (3, .int ((194 : Int32) + ((8 : Int32) * r_67))), (4, .int 2), (5, .int 1)]) (wf := fun d => wR L d e) rfl rfl rfl ?_
                    refine tMO_giveWith (fun r_69 d_68 h => ⟨r_69, d_68, rfl, rfl, ?_⟩) 0 0 ((194 : Int32) + ((8 : Int32) * r_67)) 2 1 d_66 h
                    by_cases hc_70 : r_69 = 0
                    · have h := Eq.mp (if_pos hc_70) h
                      refine st_if (t := 294) (b := true) rfl (decide_eq_true hc_70) rfl ?_
                      refine st_go 1 (pc' := 295) (lo' := [(0, .ref 42), (1, .long x1)]) (st' := [.int 0]) rfl ?_
                      exact st_retZ rfl rfl (Or.inl rfl) (hQ _ _ h)
                    · have h := Eq.mp (if_neg hc_70) h
                      refine st_if (t := 290) (b := false) rfl (decide_eq_false hc_70) rfl ?_
                      refine st_go 2 (pc' := 295) (lo' := [(0, .ref 42), (1, .long x1)]) (st' := [.int 1]) rfl ?_
                      exact st_retZ rfl rfl (Or.inr rfl) (hQ _ _ h)
              · have h := Eq.mp (if_neg hc_59) h
                refine st_if (t := 296) (b := true) rfl (decide_eq_true hc_59) rfl ?_
                refine st_go 3 (pc' := 301) (lo' := [(0, .ref 42), (1, .long x1)]) (st' := [.int (lg_cmp x1 1128352844)]) rfl ?_
                by_cases hc_71 : (lg_cmp x1 1128352844) = 0
                · have h := Eq.mp (if_pos hc_71) h
                  refine st_if (t := 304) (b := false) rfl (decide_eq_false (fun z => z hc_71)) rfl ?_
                  refine st_go 2 (pc' := 306) (lo' := [(0, .ref 42), (1, .long x1)]) (st' := [.int 0, .ref 42]) rfl ?_
                  refine st_calli (k' := 291) (as := [.ref 42, .int 0]) (rest := []) (lo' := [(0, .ref 42), (1, .int 0)]) (wf := fun d => wR L d e) rfl rfl rfl ?_
                  refine tMO_conditionOf (fun r_73 d_72 h => ⟨r_73, d_72, rfl, rfl, ?_⟩) 0 d h
                  by_cases hc_74 : r_73 < 0
                  · have h := Eq.mp (if_pos hc_74) h
                    refine st_if (t := 349) (b := true) rfl (decide_eq_true hc_74) rfl ?_
                    refine st_go 1 (pc' := 350) (lo' := [(0, .ref 42), (1, .long x1)]) (st' := [.int 0]) rfl ?_
                    exact st_retZ rfl rfl (Or.inl rfl) (hQ _ _ h)
                  · have h := Eq.mp (if_neg hc_74) h
                    refine st_if (t := 312) (b := false) rfl (decide_eq_false hc_74) rfl ?_
                    refine st_go 3 (pc' := 316) (lo' := [(0, .ref 42), (1, .long x1)]) (st' := [.int 16, .int 1, .ref 42]) rfl ?_
                    refine st_calli (k' := 285) (as := [.ref 42, .int 1, .int 16]) (rest := []) (lo' := [(0, .ref 42), (1, .int 1), (2, .int 16)]) (wf := fun d => wR L d e) rfl rfl rfl ?_
                    refine tMO_is (fun r_76 d_75 h => ⟨r_76, d_75, rfl, rfl, ?_⟩) 1 16 d_72 h
                    by_cases hc_77 : r_76 = 0
                    · have h := Eq.mp (if_pos hc_77) h
                      refine st_if (t := 349) (b := true) rfl (decide_eq_true hc_77) rfl ?_
                      refine st_go 1 (pc' := 350) (lo' := [(0, .ref 42), (1, .long x1)]) (st' := [.int 0]) rfl ?_
                      exact st_retZ rfl rfl (Or.inl rfl) (hQ _ _ h)
                    · have h := Eq.mp (if_neg hc_77) h
                      refine st_if (t := 322) (b := false) rfl (decide_eq_false hc_77) rfl ?_
                      refine st_go 7 (pc' := 332) (lo' := [(0, .ref 42), (1, .long x1)]) (st' := [.int 0, .ref 42, .int 8, .int 196, .int 0, .int 0, .ref 42]) rfl ?_
                      refine st_calli (k' := 291) (as := [.ref 42, .int 0]) (rest := [.int 8, .int 196, .int 0, .int 0, .ref 42]) (lo' := [(0, .ref 42), (1, .int 0)]) (wf := fun d => wR L d e) rfl rfl rfl ?_
                      refine tMO_conditionOf (fun r_79 d_78 h => ⟨r_79, d_78, rfl, rfl, ?_⟩) 0 d_75 h
                      refine st_go 4 (pc' := 339) (lo' := [(0, .ref 42), (1, .long x1)]) (st' := [.int 1, .int 2, .int ((196 : Int32) + ((8 : Int32) * r_79)), .int 0, .int 0, .ref 42]) rfl ?_
                      refine st_calli (k' := 284) (as := [.ref 42, .int 0, .int 0, .int ((196 : Int32) + ((8 : Int32) * r_79)), .int 2, .int 1]) (rest := []) (lo' := [(0, .ref 42), (1, .int 0), (2, .int 0), (3, .int ((196 : Int32) + ((8 : Int32) * r_79))), (4, .int 2), (5, .int 1)]) (wf := fun d => wR L d e) rfl rfl rfl ?_
                      refine tMO_giveWith (fun r_81 d_80 h => ⟨r_81, d_80, rfl, rfl, ?_⟩) 0 0 ((196 : Int32) + ((8 : Int32) * r_79)) 2 1 d_78 h
                      by_cases hc_82 : r_81 = 0
                      · have h := Eq.mp (if_pos hc_82) h
                        refine st_if (t := 349) (b := true) rfl (decide_eq_true hc_82) rfl ?_
                        refine st_go 1 (pc' := 350) (lo' := [(0, .ref 42), (1, .long x1)]) (st' := [.int 0]) rfl ?_
                        exact st_retZ rfl rfl (Or.inl rfl) (hQ _ _ h)
                      · have h := Eq.mp (if_neg hc_82) h
                        refine st_if (t := 345) (b := false) rfl (decide_eq_false hc_82) rfl ?_
                        refine st_go 2 (pc' := 350) (lo' := [(0, .ref 42), (1, .long x1)]) (st' := [.int 1]) rfl ?_
                        exact st_retZ rfl rfl (Or.inr rfl) (hQ _ _ h)
                · have h := Eq.mp (if_neg hc_71) h
                  refine st_if (t := 351) (b := true) rfl (decide_eq_true hc_71) rfl ?_
                  refine st_go 3 (pc' := 356) (lo' := [(0, .ref 42), (1, .long x1)]) (st' := [.int (lg_cmp x1 5199188)]) rfl ?_
                  by_cases hc_83 : (lg_cmp x1 5199188) = 0
                  · have h := Eq.mp (if_pos hc_83) h
                    refine st_if (t := 359) (b := false) rfl (decide_eq_false (fun z => z hc_83)) rfl ?_
                    refine st_go 3 (pc' := 363) (lo' := [(0, .ref 42), (1, .long x1)]) (st' := [.int 15, .int 0, .ref 42]) rfl ?_
                    refine st_calli (k' := 285) (as := [.ref 42, .int 0, .int 15]) (rest := []) (lo' := [(0, .ref 42), (1, .int 0), (2, .int 15)]) (wf := fun d => wR L d e) rfl rfl rfl ?_
                    refine tMO_is (fun r_85 d_84 h => ⟨r_85, d_84, rfl, rfl, ?_⟩) 0 15 d h
                    by_cases hc_86 : r_85 = 0
                    · have h := Eq.mp (if_pos hc_86) h
                      refine st_if (t := 397) (b := true) rfl (decide_eq_true hc_86) rfl ?_
                      refine st_go 3 (pc' := 401) (lo' := [(0, .ref 42), (1, .long x1)]) (st' := [.int 13, .int 0, .ref 42]) rfl ?_
                      refine st_calli (k' := 285) (as := [.ref 42, .int 0, .int 13]) (rest := []) (lo' := [(0, .ref 42), (1, .int 0), (2, .int 13)]) (wf := fun d => wR L d e) rfl rfl rfl ?_
                      refine tMO_is (fun r_88 d_87 h => ⟨r_88, d_87, rfl, rfl, ?_⟩) 0 13 d_84 h
                      by_cases hc_89 : r_88 = 0
                      · have h := Eq.mp (if_pos hc_89) h
                        refine st_if (t := 443) (b := true) rfl (decide_eq_true hc_89) rfl ?_
                        refine st_go 1 (pc' := 444) (lo' := [(0, .ref 42), (1, .long x1)]) (st' := [.int 0]) rfl ?_
                        exact st_retZ rfl rfl (Or.inl rfl) (hQ _ _ h)
                      · have h := Eq.mp (if_neg hc_89) h
                        refine st_if (t := 407) (b := false) rfl (decide_eq_false hc_89) rfl ?_
                        refine st_go 3 (pc' := 410) (lo' := [(0, .ref 42), (1, .long x1)]) (st' := [.int 1, .int 1, .ref 42]) rfl ?_
                        refine st_calli (k' := 285) (as := [.ref 42, .int 1, .int 1]) (rest := []) (lo' := [(0, .ref 42), (1, .int 1), (2, .int 1)]) (wf := fun d => wR L d e) rfl rfl rfl ?_
                        refine tMO_is (fun r_91 d_90 h => ⟨r_91, d_90, rfl, rfl, ?_⟩) 1 1 d_87 h
                        by_cases hc_92 : r_91 = 0
                        · have h := Eq.mp (if_pos hc_92) h
                          refine st_if (t := 443) (b := true) rfl (decide_eq_true hc_92) rfl ?_
                          refine st_go 1 (pc' := 444) (lo' := [(0, .ref 42), (1, .long x1)]) (st' := [.int 0]) rfl ?_
                          exact st_retZ rfl rfl (Or.inl rfl) (hQ _ _ h)
                        · have h := Eq.mp (if_neg hc_92) h
                          refine st_if (t := 416) (b := false) rfl (decide_eq_false hc_92) rfl ?_
                          refine st_go 8 (pc' := 430) (lo' := [(0, .ref 42), (1, .long x1)]) (st' := [.int 1, .ref 51, .int 8, .int 65, .int 237, .int 0, .ref 42]) rfl ?_
                          refine st_ialdR (o := 51) rfl rfl (show ixOk 1 8 by decide) rfl (fun y_93 hy_y_93 => ?_)
                          have h := h y_93 hy_y_93
                          refine st_go 2 (pc' := 433) (lo' := [(0, .ref 42), (1, .long x1)]) (st' := [.int ((65 : Int32) + ((8 : Int32) * y_93)), .int 237, .int 0, .ref 42]) rfl ?_
                          refine st_calli (k' := 283) (as := [.ref 42, .int 0, .int 237, .int ((65 : Int32) + ((8 : Int32) * y_93))]) (rest := []) (lo' := [(0, .ref 42), (1, .int 0), (2, .int 237), (3, .int ((65 : Int32) + ((8 : Int32) * y_93)))]) (wf := fun d => wR L d e) rfl rfl rfl ?_
                          refine tMO_give (fun r_95 d_94 h => ⟨r_95, d_94, rfl, rfl, ?_⟩) 0 237 ((65 : Int32) + ((8 : Int32) * y_93)) d_90 h
                          by_cases hc_96 : r_95 = 0
                          · have h := Eq.mp (if_pos hc_96) h
                            refine st_if (t := 443) (b := true) rfl (decide_eq_true hc_96) rfl ?_
                            refine st_go 1 (pc' := 444) (lo' := [(0, .ref 42), (1, .long x1)]) (st' := [.int 0]) rfl ?_
                            exact st_retZ rfl rfl (Or.inl rfl) (hQ _ _ h)
                          · have h := Eq.mp (if_neg hc_96) h
                            refine st_if (t := 439) (b := false) rfl (decide_eq_false hc_96) rfl ?_
                            refine st_go 2 (pc' := 444) (lo' := [(0, .ref 42), (1, .long x1)]) (st' := [.int 1]) rfl ?_
                            exact st_retZ rfl rfl (Or.inr rfl) (hQ _ _ h)
                    · have h := Eq.mp (if_neg hc_86) h
                      refine st_if (t := 369) (b := false) rfl (decide_eq_false hc_86) rfl ?_
                      refine st_go 2 (pc' := 371) (lo' := [(0, .ref 42), (1, .long x1)]) (st' := [.int 1, .ref 42]) rfl ?_
                      refine st_calli (k' := 286) (as := [.ref 42, .int 1]) (rest := []) (lo' := [(0, .ref 42), (1, .int 1)]) (wf := fun d => wR L d e) rfl rfl rfl ?_
                      refine tMO_isA (fun r_98 d_97 h => ⟨r_98, d_97, rfl, rfl, ?_⟩) 1 d_84 h
                      by_cases hc_99 : r_98 = 0
                      · have h := Eq.mp (if_pos hc_99) h
                        refine st_if (t := 395) (b := true) rfl (decide_eq_true hc_99) rfl ?_
                        refine st_go 1 (pc' := 396) (lo' := [(0, .ref 42), (1, .long x1)]) (st' := [.int 0]) rfl ?_
                        exact st_retZ rfl rfl (Or.inl rfl) (hQ _ _ h)
                      · have h := Eq.mp (if_neg hc_99) h
                        refine st_if (t := 377) (b := false) rfl (decide_eq_false hc_99) rfl ?_
                        refine st_go 6 (pc' := 385) (lo' := [(0, .ref 42), (1, .long x1)]) (st' := [.int 0, .int 1, .int 211, .int 0, .int 0, .ref 42]) rfl ?_
                        refine st_calli (k' := 284) (as := [.ref 42, .int 0, .int 0, .int 211, .int 1, .int 0]) (rest := []) (lo' := [(0, .ref 42), (1, .int 0), (2, .int 0), (3, .int 211), (4, .int 1), (5, .int 0)]) (wf := fun d => wR L d e) rfl rfl rfl ?_
                        refine tMO_giveWith (fun r_101 d_100 h => ⟨r_101, d_100, rfl, rfl, ?_⟩) 0 0 211 1 0 d_97 h
                        by_cases hc_102 : r_101 = 0
                        · have h := Eq.mp (if_pos hc_102) h
                          refine st_if (t := 395) (b := true) rfl (decide_eq_true hc_102) rfl ?_
                          refine st_go 1 (pc' := 396) (lo' := [(0, .ref 42), (1, .long x1)]) (st' := [.int 0]) rfl ?_
                          exact st_retZ rfl rfl (Or.inl rfl) (hQ _ _ h)
                        · have h := Eq.mp (if_neg hc_102) h
                          refine st_if (t := 391) (b := false) rfl (decide_eq_false hc_102) rfl ?_
                          refine st_go 2 (pc' := 396) (lo' := [(0, .ref 42), (1, .long x1)]) (st' := [.int 1]) rfl ?_
                          exact st_retZ rfl rfl (Or.inr rfl) (hQ _ _ h)
                  · have h := Eq.mp (if_neg hc_83) h
                    refine st_if (t := 445) (b := true) rfl (decide_eq_true hc_83) rfl ?_
                    refine st_go 3 (pc' := 450) (lo' := [(0, .ref 42), (1, .long x1)]) (st' := [.int (lg_cmp x1 18766)]) rfl ?_
                    by_cases hc_103 : (lg_cmp x1 18766) = 0
                    · have h := Eq.mp (if_pos hc_103) h
                      refine st_if (t := 453) (b := false) rfl (decide_eq_false (fun z => z hc_103)) rfl ?_
                      refine st_go 3 (pc' := 457) (lo' := [(0, .ref 42), (1, .long x1)]) (st' := [.int 15, .int 1, .ref 42]) rfl ?_
                      refine st_calli (k' := 285) (as := [.ref 42, .int 1, .int 15]) (rest := []) (lo' := [(0, .ref 42), (1, .int 1), (2, .int 15)]) (wf := fun d => wR L d e) rfl rfl rfl ?_
                      refine tMO_is (fun r_105 d_104 h => ⟨r_105, d_104, rfl, rfl, ?_⟩) 1 15 d h
                      by_cases hc_106 : r_105 = 0
                      · have h := Eq.mp (if_pos hc_106) h
                        refine st_if (t := 491) (b := true) rfl (decide_eq_true hc_106) rfl ?_
                        refine st_go 3 (pc' := 495) (lo' := [(0, .ref 42), (1, .long x1)]) (st' := [.int 13, .int 1, .ref 42]) rfl ?_
                        refine st_calli (k' := 285) (as := [.ref 42, .int 1, .int 13]) (rest := []) (lo' := [(0, .ref 42), (1, .int 1), (2, .int 13)]) (wf := fun d => wR L d e) rfl rfl rfl ?_
                        refine tMO_is (fun r_108 d_107 h => ⟨r_108, d_107, rfl, rfl, ?_⟩) 1 13 d_104 h
                        by_cases hc_109 : r_108 = 0
                        · have h := Eq.mp (if_pos hc_109) h
                          refine st_if (t := 537) (b := true) rfl (decide_eq_true hc_109) rfl ?_
                          refine st_go 1 (pc' := 538) (lo' := [(0, .ref 42), (1, .long x1)]) (st' := [.int 0]) rfl ?_
                          exact st_retZ rfl rfl (Or.inl rfl) (hQ _ _ h)
                        · have h := Eq.mp (if_neg hc_109) h
                          refine st_if (t := 501) (b := false) rfl (decide_eq_false hc_109) rfl ?_
                          refine st_go 3 (pc' := 504) (lo' := [(0, .ref 42), (1, .long x1)]) (st' := [.int 1, .int 0, .ref 42]) rfl ?_
                          refine st_calli (k' := 285) (as := [.ref 42, .int 0, .int 1]) (rest := []) (lo' := [(0, .ref 42), (1, .int 0), (2, .int 1)]) (wf := fun d => wR L d e) rfl rfl rfl ?_
                          refine tMO_is (fun r_111 d_110 h => ⟨r_111, d_110, rfl, rfl, ?_⟩) 0 1 d_107 h
                          by_cases hc_112 : r_111 = 0
                          · have h := Eq.mp (if_pos hc_112) h
                            refine st_if (t := 537) (b := true) rfl (decide_eq_true hc_112) rfl ?_
                            refine st_go 1 (pc' := 538) (lo' := [(0, .ref 42), (1, .long x1)]) (st' := [.int 0]) rfl ?_
                            exact st_retZ rfl rfl (Or.inl rfl) (hQ _ _ h)
                          · have h := Eq.mp (if_neg hc_112) h
                            refine st_if (t := 510) (b := false) rfl (decide_eq_false hc_112) rfl ?_
                            refine st_go 8 (pc' := 524) (lo' := [(0, .ref 42), (1, .long x1)]) (st' := [.int 0, .ref 51, .int 8, .int 64, .int 237, .int 0, .ref 42]) rfl ?_
                            refine st_ialdR (o := 51) rfl rfl (show ixOk 0 8 by decide) rfl (fun y_113 hy_y_113 => ?_)
                            have h := h y_113 hy_y_113
                            refine st_go 2 (pc' := 527) (lo' := [(0, .ref 42), (1, .long x1)]) (st' := [.int ((64 : Int32) + ((8 : Int32) * y_113)), .int 237, .int 0, .ref 42]) rfl ?_
                            refine st_calli (k' := 283) (as := [.ref 42, .int 0, .int 237, .int ((64 : Int32) + ((8 : Int32) * y_113))]) (rest := []) (lo' := [(0, .ref 42), (1, .int 0), (2, .int 237), (3, .int ((64 : Int32) + ((8 : Int32) * y_113)))]) (wf := fun d => wR L d e) rfl rfl rfl ?_
                            refine tMO_give (fun r_115 d_114 h => ⟨r_115, d_114, rfl, rfl, ?_⟩) 0 237 ((64 : Int32) + ((8 : Int32) * y_113)) d_110 h
                            by_cases hc_116 : r_115 = 0
                            · have h := Eq.mp (if_pos hc_116) h
                              refine st_if (t := 537) (b := true) rfl (decide_eq_true hc_116) rfl ?_
                              refine st_go 1 (pc' := 538) (lo' := [(0, .ref 42), (1, .long x1)]) (st' := [.int 0]) rfl ?_
                              exact st_retZ rfl rfl (Or.inl rfl) (hQ _ _ h)
                            · have h := Eq.mp (if_neg hc_116) h
                              refine st_if (t := 533) (b := false) rfl (decide_eq_false hc_116) rfl ?_
                              refine st_go 2 (pc' := 538) (lo' := [(0, .ref 42), (1, .long x1)]) (st' := [.int 1]) rfl ?_
                              exact st_retZ rfl rfl (Or.inr rfl) (hQ _ _ h)
                      · have h := Eq.mp (if_neg hc_106) h
                        refine st_if (t := 463) (b := false) rfl (decide_eq_false hc_106) rfl ?_
                        refine st_go 2 (pc' := 465) (lo' := [(0, .ref 42), (1, .long x1)]) (st' := [.int 0, .ref 42]) rfl ?_
                        refine st_calli (k' := 286) (as := [.ref 42, .int 0]) (rest := []) (lo' := [(0, .ref 42), (1, .int 0)]) (wf := fun d => wR L d e) rfl rfl rfl ?_
                        refine tMO_isA (fun r_118 d_117 h => ⟨r_118, d_117, rfl, rfl, ?_⟩) 0 d_104 h
                        by_cases hc_119 : r_118 = 0
                        · have h := Eq.mp (if_pos hc_119) h
                          refine st_if (t := 489) (b := true) rfl (decide_eq_true hc_119) rfl ?_
                          refine st_go 1 (pc' := 490) (lo' := [(0, .ref 42), (1, .long x1)]) (st' := [.int 0]) rfl ?_
                          exact st_retZ rfl rfl (Or.inl rfl) (hQ _ _ h)
                        · have h := Eq.mp (if_neg hc_119) h
                          refine st_if (t := 471) (b := false) rfl (decide_eq_false hc_119) rfl ?_
                          refine st_go 6 (pc' := 479) (lo' := [(0, .ref 42), (1, .long x1)]) (st' := [.int 1, .int 1, .int 219, .int 0, .int 0, .ref 42]) rfl ?_
                          refine st_calli (k' := 284) (as := [.ref 42, .int 0, .int 0, .int 219, .int 1, .int 1]) (rest := []) (lo' := [(0, .ref 42), (1, .int 0), (2, .int 0), (3, .int 219), (4, .int 1), (5, .int 1)]) (wf := fun d => wR L d e) rfl rfl rfl ?_
                          refine tMO_giveWith (fun r_121 d_120 h => ⟨r_121, d_120, rfl, rfl, ?_⟩) 0 0 219 1 1 d_117 h
                          by_cases hc_122 : r_121 = 0
                          · have h := Eq.mp (if_pos hc_122) h
                            refine st_if (t := 489) (b := true) rfl (decide_eq_true hc_122) rfl ?_
                            refine st_go 1 (pc' := 490) (lo' := [(0, .ref 42), (1, .long x1)]) (st' := [.int 0]) rfl ?_
                            exact st_retZ rfl rfl (Or.inl rfl) (hQ _ _ h)
                          · have h := Eq.mp (if_neg hc_122) h
                            refine st_if (t := 485) (b := false) rfl (decide_eq_false hc_122) rfl ?_
                            refine st_go 2 (pc' := 490) (lo' := [(0, .ref 42), (1, .long x1)]) (st' := [.int 1]) rfl ?_
                            exact st_retZ rfl rfl (Or.inr rfl) (hQ _ _ h)
                    · have h := Eq.mp (if_neg hc_103) h
                      refine st_if (t := 539) (b := true) rfl (decide_eq_true hc_103) rfl ?_
                      refine st_go 3 (pc' := 544) (lo' := [(0, .ref 42), (1, .long x1)]) (st' := [.int (lg_cmp x1 4344148)]) rfl ?_
                      by_cases hc_123 : (lg_cmp x1 4344148) = 0
                      · have h := Eq.mp (if_pos hc_123) h
                        refine st_if (t := 547) (b := false) rfl (decide_eq_false (fun z => z hc_123)) rfl ?_
                        refine st_go 2 (pc' := 581) (lo' := [(0, .ref 42), (1, .long x1)]) (st' := [.int 64]) rfl ?_
                        refine vmWp.sub (lo' := [(0, .ref 42)]) ⟨rfl, trivial⟩ ?_
                        exact tMO_encodeTwo_581 hQ 64 d h
                      · have h := Eq.mp (if_neg hc_123) h
                        refine st_if (t := 552) (b := true) rfl (decide_eq_true hc_123) rfl ?_
                        refine st_go 3 (pc' := 557) (lo' := [(0, .ref 42), (1, .long x1)]) (st' := [.int (lg_cmp x1 5391699)]) rfl ?_
                        by_cases hc_137 : (lg_cmp x1 5391699) = 0
                        · have h := Eq.mp (if_pos hc_137) h
                          refine st_if (t := 560) (b := false) rfl (decide_eq_false (fun z => z hc_137)) rfl ?_
                          refine st_go 2 (pc' := 581) (lo' := [(0, .ref 42), (1, .long x1)]) (st' := [.int 128]) rfl ?_
                          refine vmWp.sub (lo' := [(0, .ref 42)]) ⟨rfl, trivial⟩ ?_
                          exact tMO_encodeTwo_581 hQ 128 d h
                        · have h := Eq.mp (if_neg hc_137) h
                          refine st_if (t := 566) (b := true) rfl (decide_eq_true hc_137) rfl ?_
                          refine st_go 3 (pc' := 571) (lo' := [(0, .ref 42), (1, .long x1)]) (st' := [.int (lg_cmp x1 5457236)]) rfl ?_
                          by_cases hc_138 : (lg_cmp x1 5457236) = 0
                          · have h := Eq.mp (if_pos hc_138) h
                            refine st_if (t := 574) (b := false) rfl (decide_eq_false (fun z => z hc_138)) rfl ?_
                            refine st_go 2 (pc' := 581) (lo' := [(0, .ref 42), (1, .long x1)]) (st' := [.int 192]) rfl ?_
                            refine vmWp.sub (lo' := [(0, .ref 42)]) ⟨rfl, trivial⟩ ?_
                            exact tMO_encodeTwo_581 hQ 192 d h
                          · have h := Eq.mp (if_neg hc_138) h
                            refine st_if (t := 580) (b := true) rfl (decide_eq_true hc_138) rfl ?_
                            refine st_go 1 (pc' := 581) (lo' := [(0, .ref 42), (1, .long x1)]) (st' := [.int 0]) rfl ?_
                            refine vmWp.sub (lo' := [(0, .ref 42)]) ⟨rfl, trivial⟩ ?_
                            exact tMO_encodeTwo_581 hQ 0 d h
set_option maxRecDepth 100000 in
def MO_encode_53 (x4 : Int32) (s0 : Int32) (s1 : Int32) (d : vmD) (Q : Int32 → vmD → Prop) : Prop :=
  MO_give s1 s0 (x4 &&& 255) d fun r_31 d_30 =>
  if r_31 = 0 then
  (Q 0 d_30)
  else
  (Q 1 d_30)
set_option maxRecDepth 100000 in
set_option maxHeartbeats 4000000 in
theorem tMO_encode_53 {L : Nat} {e : vmD} {Qo : Option Value → vmW → Prop} {Q : Int32 → vmD → Prop} (hQ : ∀ r d, Q r d → Qo (some (.int r)) (wR L d e)) (x4 : Int32) (s0 : Int32) (s1 : Int32) (d : vmD) (h : MO_encode_53 x4 s0 s1 d Q) : vmWp 292 53 [(4, .int x4)] [.int s0, .int s1, .ref 42] (wR L d e) Qo := by
  unfold MO_encode_53 at h
  refine st_go 3 (pc' := 59) (lo' := [(4, .int x4)]) (st' := [.int (x4 &&& 255), .int s0, .int s1, .ref 42]) rfl ?_
  refine st_calli (k' := 283) (as := [.ref 42, .int s1, .int s0, .int (x4 &&& 255)]) (rest := []) (lo' := [(0, .ref 42), (1, .int s1), (2, .int s0), (3, .int (x4 &&& 255))]) (wf := fun d => wR L d e) rfl rfl rfl ?_
  refine tMO_give (fun r_31 d_30 h => ⟨r_31, d_30, rfl, rfl, ?_⟩) s1 s0 (x4 &&& 255) d h
  by_cases hc_32 : r_31 = 0
  · have h := Eq.mp (if_pos hc_32) h
    refine st_if (t := 69) (b := true) rfl (decide_eq_true hc_32) rfl ?_
    refine st_go 1 (pc' := 70) (lo' := [(4, .int x4)]) (st' := [.int 0]) rfl ?_
    exact st_retZ rfl rfl (Or.inl rfl) (hQ _ _ h)
  · have h := Eq.mp (if_neg hc_32) h
    refine st_if (t := 65) (b := false) rfl (decide_eq_false hc_32) rfl ?_
    refine st_go 2 (pc' := 70) (lo' := [(4, .int x4)]) (st' := [.int 1]) rfl ?_
    exact st_retZ rfl rfl (Or.inr rfl) (hQ _ _ h)
set_option maxRecDepth 100000 in
def MO_encode (x1 : Int64) (d : vmD) (Q : Int32 → vmD → Prop) : Prop :=
  bnd (sF d 42 32 0) fun d_1 =>
  bnd (sF d_1 42 34 0) fun d_2 =>
  bnd (sF d_2 42 36 (-1)) fun d_3 =>
  bnd (gF d_3 42 28) fun x3_4 =>
  MO_plain x1 d_3 fun r_6 d_5 =>
  if r_6 < 0 then
  (if (lg_cmp x1 5391700) = 0 then
  (if x3_4 = 0 then
  (MO_give 0 0 201 d_5 fun r_11 d_10 =>
  (r_11 = 0 ∨ r_11 = 1) ∧ Q r_11 d_10)
  else
  (if x3_4 = 1 then
  (MO_conditionOf 0 d_5 fun r_14 d_13 =>
  if r_14 < 0 then
  (Q 0 d_13)
  else
  (MO_conditionOf 0 d_13 fun r_17 d_16 =>
  MO_give 0 0 ((192 : Int32) + ((8 : Int32) * r_17)) d_16 fun r_19 d_18 =>
  if r_19 = 0 then
  (Q 0 d_18)
  else
  (Q 1 d_18)))
  else
  (Q 0 d_5)))
  else
  (if x3_4 = 1 then
  (MO_encodeOne x1 d_5 fun r_23 d_22 =>
  (r_23 = 0 ∨ r_23 = 1) ∧ Q r_23 d_22)
  else
  (if x3_4 = 2 then
  (MO_encodeTwo x1 d_5 fun r_26 d_25 =>
  if r_26 = 0 then
  (Q 0 d_25)
  else
  (Q 1 d_25))
  else
  (Q 0 d_5))))
  else
  (if x3_4 = 0 then
  (if (255 : Int32) < r_6 then
  (MO_encode_53 r_6 237 0 d_5 Q)
  else
  (MO_encode_53 r_6 0 0 d_5 Q))
  else
  (Q 0 d_5))
set_option maxRecDepth 100000 in
set_option maxHeartbeats 4000000 in
theorem tMO_encode {L : Nat} {e : vmD} {Qo : Option Value → vmW → Prop} {Q : Int32 → vmD → Prop} (hQ : ∀ r d, Q r d → Qo (some (.int r)) (wR L d e)) (x1 : Int64) (d : vmD) (h : MO_encode x1 d Q) : vmWp 292 0 [(0, .ref 42), (1, .long x1)] [] (wR L d e) Qo := by
  unfold MO_encode at h
  refine st_go 2 (pc' := 2) (lo' := [(0, .ref 42), (1, .long x1)]) (st' := [.int 0, .ref 42]) rfl ?_
  refine st_putIR (o := 42) (f := 32) rfl rfl rfl rfl rfl (fun d_1 hy_d_1 => ?_)
  have h := h d_1 hy_d_1
  refine st_go 2 (pc' := 7) (lo' := [(0, .ref 42), (1, .long x1)]) (st' := [.int 0, .ref 42]) rfl ?_
  refine st_putIR (o := 42) (f := 34) rfl rfl rfl rfl rfl (fun d_2 hy_d_2 => ?_)
  have h := h d_2 hy_d_2
  refine st_go 2 (pc' := 12) (lo' := [(0, .ref 42), (1, .long x1)]) (st' := [.int (-1), .ref 42]) rfl ?_
  refine st_putIR (o := 42) (f := 36) rfl rfl rfl rfl rfl (fun d_3 hy_d_3 => ?_)
  have h := h d_3 hy_d_3
  refine st_go 3 (pc' := 20) (lo' := [(3, .int (gF d_3 42 28)), (0, .ref 42), (1, .long x1)]) (st' := []) rfl ?_
  refine st_locI (fun x3_4 hy_x3_4 => ?_)
  have h := h x3_4 hy_x3_4
  refine st_go 2 (pc' := 22) (lo' := [(3, .int x3_4), (0, .ref 42), (1, .long x1)]) (st' := [.long x1, .ref 42]) rfl ?_
  refine st_calli (k' := 265) (as := [.ref 42, .long x1]) (rest := []) (lo' := [(0, .ref 42), (1, .long x1)]) (wf := fun d => wR L d e) rfl rfl rfl ?_
  refine tMO_plain (fun r_6 d_5 h => ⟨r_6, d_5, rfl, rfl, ?_⟩) x1 d_3 h
  refine st_go 2 (pc' := 29) (lo' := [(4, .int r_6), (3, .int x3_4), (0, .ref 42), (1, .long x1)]) (st' := [.int r_6]) rfl ?_
  by_cases hc_7 : r_6 < 0
  · have h := Eq.mp (if_pos hc_7) h
    refine st_if (t := 71) (b := true) rfl (decide_eq_true hc_7) rfl ?_
    refine st_go 3 (pc' := 76) (lo' := [(4, .int r_6), (3, .int x3_4), (0, .ref 42), (1, .long x1)]) (st' := [.int (lg_cmp x1 5391700)]) rfl ?_
    by_cases hc_8 : (lg_cmp x1 5391700) = 0
    · have h := Eq.mp (if_pos hc_8) h
      refine st_if (t := 79) (b := false) rfl (decide_eq_false (fun z => z hc_8)) rfl ?_
      refine st_go 1 (pc' := 80) (lo' := [(4, .int r_6), (3, .int x3_4), (0, .ref 42), (1, .long x1)]) (st' := [.int x3_4]) rfl ?_
      by_cases hc_9 : x3_4 = 0
      · have h := Eq.mp (if_pos hc_9) h
        refine st_if (t := 83) (b := false) rfl (decide_eq_false (fun z => z hc_9)) rfl ?_
        refine st_go 4 (pc' := 89) (lo' := [(4, .int r_6), (3, .int x3_4), (0, .ref 42), (1, .long x1)]) (st' := [.int 201, .int 0, .int 0, .ref 42]) rfl ?_
        refine st_calli (k' := 283) (as := [.ref 42, .int 0, .int 0, .int 201]) (rest := []) (lo' := [(0, .ref 42), (1, .int 0), (2, .int 0), (3, .int 201)]) (wf := fun d => wR L d e) rfl rfl rfl ?_
        refine tMO_give (fun r_11 d_10 h => ⟨r_11, d_10, rfl, rfl, ?_⟩) 0 0 201 d_5 h
        refine st_go 1 (pc' := 134) (lo' := [(4, .int r_6), (3, .int x3_4), (0, .ref 42), (1, .long x1)]) (st' := [.int r_11]) rfl ?_
        exact st_retZ rfl rfl h.1 (hQ _ _ h.2)
      · have h := Eq.mp (if_neg hc_9) h
        refine st_if (t := 95) (b := true) rfl (decide_eq_true hc_9) rfl ?_
        refine st_go 2 (pc' := 97) (lo' := [(4, .int r_6), (3, .int x3_4), (0, .ref 42), (1, .long x1)]) (st' := [.int 1, .int x3_4]) rfl ?_
        by_cases hc_12 : x3_4 = 1
        · have h := Eq.mp (if_pos hc_12) h
          refine st_icmp (t := 100) (b := false) rfl (decide_eq_false (fun z => z hc_12)) rfl ?_
          refine st_go 2 (pc' := 102) (lo' := [(4, .int r_6), (3, .int x3_4), (0, .ref 42), (1, .long x1)]) (st' := [.int 0, .ref 42]) rfl ?_
          refine st_calli (k' := 291) (as := [.ref 42, .int 0]) (rest := []) (lo' := [(0, .ref 42), (1, .int 0)]) (wf := fun d => wR L d e) rfl rfl rfl ?_
          refine tMO_conditionOf (fun r_14 d_13 h => ⟨r_14, d_13, rfl, rfl, ?_⟩) 0 d_5 h
          by_cases hc_15 : r_14 < 0
          · have h := Eq.mp (if_pos hc_15) h
            refine st_if (t := 133) (b := true) rfl (decide_eq_true hc_15) rfl ?_
            refine st_go 1 (pc' := 134) (lo' := [(4, .int r_6), (3, .int x3_4), (0, .ref 42), (1, .long x1)]) (st' := [.int 0]) rfl ?_
            exact st_retZ rfl rfl (Or.inl rfl) (hQ _ _ h)
          · have h := Eq.mp (if_neg hc_15) h
            refine st_if (t := 108) (b := false) rfl (decide_eq_false hc_15) rfl ?_
            refine st_go 7 (pc' := 118) (lo' := [(4, .int r_6), (3, .int x3_4), (0, .ref 42), (1, .long x1)]) (st' := [.int 0, .ref 42, .int 8, .int 192, .int 0, .int 0, .ref 42]) rfl ?_
            refine st_calli (k' := 291) (as := [.ref 42, .int 0]) (rest := [.int 8, .int 192, .int 0, .int 0, .ref 42]) (lo' := [(0, .ref 42), (1, .int 0)]) (wf := fun d => wR L d e) rfl rfl rfl ?_
            refine tMO_conditionOf (fun r_17 d_16 h => ⟨r_17, d_16, rfl, rfl, ?_⟩) 0 d_13 h
            refine st_go 2 (pc' := 123) (lo' := [(4, .int r_6), (3, .int x3_4), (0, .ref 42), (1, .long x1)]) (st' := [.int ((192 : Int32) + ((8 : Int32) * r_17)), .int 0, .int 0, .ref 42]) rfl ?_
            refine st_calli (k' := 283) (as := [.ref 42, .int 0, .int 0, .int ((192 : Int32) + ((8 : Int32) * r_17))]) (rest := []) (lo' := [(0, .ref 42), (1, .int 0), (2, .int 0), (3, .int ((192 : Int32) + ((8 : Int32) * r_17)))]) (wf := fun d => wR L d e) rfl rfl rfl ?_
            refine tMO_give (fun r_19 d_18 h => ⟨r_19, d_18, rfl, rfl, ?_⟩) 0 0 ((192 : Int32) + ((8 : Int32) * r_17)) d_16 h
            by_cases hc_20 : r_19 = 0
            · have h := Eq.mp (if_pos hc_20) h
              refine st_if (t := 133) (b := true) rfl (decide_eq_true hc_20) rfl ?_
              refine st_go 1 (pc' := 134) (lo' := [(4, .int r_6), (3, .int x3_4), (0, .ref 42), (1, .long x1)]) (st' := [.int 0]) rfl ?_
              exact st_retZ rfl rfl (Or.inl rfl) (hQ _ _ h)
            · have h := Eq.mp (if_neg hc_20) h
              refine st_if (t := 129) (b := false) rfl (decide_eq_false hc_20) rfl ?_
              refine st_go 2 (pc' := 134) (lo' := [(4, .int r_6), (3, .int x3_4), (0, .ref 42), (1, .long x1)]) (st' := [.int 1]) rfl ?_
              exact st_retZ rfl rfl (Or.inr rfl) (hQ _ _ h)
        · have h := Eq.mp (if_neg hc_12) h
          refine st_icmp (t := 133) (b := true) rfl (decide_eq_true hc_12) rfl ?_
          refine st_go 1 (pc' := 134) (lo' := [(4, .int r_6), (3, .int x3_4), (0, .ref 42), (1, .long x1)]) (st' := [.int 0]) rfl ?_
          exact st_retZ rfl rfl (Or.inl rfl) (hQ _ _ h)
    · have h := Eq.mp (if_neg hc_8) h
      refine st_if (t := 135) (b := true) rfl (decide_eq_true hc_8) rfl ?_
      refine st_go 2 (pc' := 137) (lo' := [(4, .int r_6), (3, .int x3_4), (0, .ref 42), (1, .long x1)]) (st' := [.int 1, .int x3_4]) rfl ?_
      by_cases hc_21 : x3_4 = 1
      · have h := Eq.mp (if_pos hc_21) h
        refine st_icmp (t := 140) (b := false) rfl (decide_eq_false (fun z => z hc_21)) rfl ?_
        refine st_go 2 (pc' := 142) (lo' := [(4, .int r_6), (3, .int x3_4), (0, .ref 42), (1, .long x1)]) (st' := [.long x1, .ref 42]) rfl ?_
        refine st_calli (k' := 295) (as := [.ref 42, .long x1]) (rest := []) (lo' := [(0, .ref 42), (1, .long x1)]) (wf := fun d => wR L d e) rfl rfl rfl ?_
        refine tMO_encodeOne (fun r_23 d_22 h => ⟨r_23, d_22, rfl, rfl, ?_⟩) x1 d_5 h
        exact st_retZ rfl rfl h.1 (hQ _ _ h.2)
      · have h := Eq.mp (if_neg hc_21) h
        refine st_icmp (t := 146) (b := true) rfl (decide_eq_true hc_21) rfl ?_
        refine st_go 2 (pc' := 148) (lo' := [(4, .int r_6), (3, .int x3_4), (0, .ref 42), (1, .long x1)]) (st' := [.int 2, .int x3_4]) rfl ?_
        by_cases hc_24 : x3_4 = 2
        · have h := Eq.mp (if_pos hc_24) h
          refine st_icmp (t := 151) (b := false) rfl (decide_eq_false (fun z => z hc_24)) rfl ?_
          refine st_go 2 (pc' := 153) (lo' := [(4, .int r_6), (3, .int x3_4), (0, .ref 42), (1, .long x1)]) (st' := [.long x1, .ref 42]) rfl ?_
          refine st_calli (k' := 296) (as := [.ref 42, .long x1]) (rest := []) (lo' := [(0, .ref 42), (1, .long x1)]) (wf := fun d => wR L d e) rfl rfl rfl ?_
          refine tMO_encodeTwo (fun r_26 d_25 h => ⟨r_26, d_25, rfl, rfl, ?_⟩) x1 d_5 h
          by_cases hc_27 : r_26 = 0
          · have h := Eq.mp (if_pos hc_27) h
            refine st_if (t := 163) (b := true) rfl (decide_eq_true hc_27) rfl ?_
            refine st_go 1 (pc' := 164) (lo' := [(4, .int r_6), (3, .int x3_4), (0, .ref 42), (1, .long x1)]) (st' := [.int 0]) rfl ?_
            exact st_retZ rfl rfl (Or.inl rfl) (hQ _ _ h)
          · have h := Eq.mp (if_neg hc_27) h
            refine st_if (t := 159) (b := false) rfl (decide_eq_false hc_27) rfl ?_
            refine st_go 2 (pc' := 164) (lo' := [(4, .int r_6), (3, .int x3_4), (0, .ref 42), (1, .long x1)]) (st' := [.int 1]) rfl ?_
            exact st_retZ rfl rfl (Or.inr rfl) (hQ _ _ h)
        · have h := Eq.mp (if_neg hc_24) h
          refine st_icmp (t := 163) (b := true) rfl (decide_eq_true hc_24) rfl ?_
          refine st_go 1 (pc' := 164) (lo' := [(4, .int r_6), (3, .int x3_4), (0, .ref 42), (1, .long x1)]) (st' := [.int 0]) rfl ?_
          exact st_retZ rfl rfl (Or.inl rfl) (hQ _ _ h)
  · have h := Eq.mp (if_neg hc_7) h
    refine st_if (t := 32) (b := false) rfl (decide_eq_false hc_7) rfl ?_
    refine st_go 1 (pc' := 33) (lo' := [(4, .int r_6), (3, .int x3_4), (0, .ref 42), (1, .long x1)]) (st' := [.int x3_4]) rfl ?_
    by_cases hc_28 : x3_4 = 0
    · have h := Eq.mp (if_pos hc_28) h
      refine st_if (t := 36) (b := false) rfl (decide_eq_false (fun z => z hc_28)) rfl ?_
      refine st_go 4 (pc' := 43) (lo' := [(4, .int r_6), (3, .int x3_4), (0, .ref 42), (1, .long x1)]) (st' := [.int 255, .int r_6, .int 0, .ref 42]) rfl ?_
      by_cases hc_29 : (255 : Int32) < r_6
      · have h := Eq.mp (if_pos hc_29) h
        refine st_icmp (t := 46) (b := false) rfl (decide_eq_false (Int32.not_le.mpr hc_29)) rfl ?_
        refine st_go 2 (pc' := 53) (lo' := [(4, .int r_6), (3, .int x3_4), (0, .ref 42), (1, .long x1)]) (st' := [.int 237, .int 0, .ref 42]) rfl ?_
        refine vmWp.sub (lo' := [(4, .int r_6)]) ⟨rfl, trivial⟩ ?_
        exact tMO_encode_53 hQ r_6 237 0 d_5 h
      · have h := Eq.mp (if_neg hc_29) h
        refine st_icmp (t := 52) (b := true) rfl (decide_eq_true (Int32.not_lt.mp hc_29)) rfl ?_
        refine st_go 1 (pc' := 53) (lo' := [(4, .int r_6), (3, .int x3_4), (0, .ref 42), (1, .long x1)]) (st' := [.int 0, .int 0, .ref 42]) rfl ?_
        refine vmWp.sub (lo' := [(4, .int r_6)]) ⟨rfl, trivial⟩ ?_
        exact tMO_encode_53 hQ r_6 0 0 d_5 h
    · have h := Eq.mp (if_neg hc_28) h
      refine st_if (t := 69) (b := true) rfl (decide_eq_true hc_28) rfl ?_
      refine st_go 1 (pc' := 70) (lo' := [(4, .int r_6), (3, .int x3_4), (0, .ref 42), (1, .long x1)]) (st' := [.int 0]) rfl ?_
      exact st_retZ rfl rfl (Or.inl rfl) (hQ _ _ h)
set_option maxRecDepth 100000 in
def MO_lengthOf_39 (s0 : Int32) (s1 : Int32) (d : vmD) (Q : Int32 → vmD → Prop) : Prop :=
  if (gF d 42 32) = 2 then
  (Q ((s1 + s0) + 2) d)
  else
  (if (0 : Int32) < (gF d 42 32) then
  (Q ((s1 + s0) + 1) d)
  else
  (Q ((s1 + s0) + 0) d))
set_option maxRecDepth 100000 in
set_option maxHeartbeats 4000000 in
theorem tMO_lengthOf_39 {L : Nat} {e : vmD} {Qo : Option Value → vmW → Prop} {Q : Int32 → vmD → Prop} (hQ : ∀ r d, Q r d → Qo (some (.int r)) (wR L d e)) (s0 : Int32) (s1 : Int32) (d : vmD) (h : MO_lengthOf_39 s0 s1 d Q) : vmWp 299 39 [(0, .ref 42)] [.int s0, .int s1] (wR L d e) Qo := by
  unfold MO_lengthOf_39 at h
  refine st_go 4 (pc' := 45) (lo' := [(0, .ref 42)]) (st' := [.int 2, .int (gF d 42 32), .int (s1 + s0)]) rfl ?_
  by_cases hc_4 : (gF d 42 32) = 2
  · have h := Eq.mp (if_pos hc_4) h
    refine st_icmp (t := 48) (b := false) rfl (decide_eq_false (fun z => z hc_4)) rfl ?_
    refine st_go 3 (pc' := 65) (lo' := [(0, .ref 42)]) (st' := [.int ((s1 + s0) + 2)]) rfl ?_
    exact st_retI rfl rfl (hQ _ _ h)
  · have h := Eq.mp (if_neg hc_4) h
    refine st_icmp (t := 52) (b := true) rfl (decide_eq_true hc_4) rfl ?_
    refine st_go 2 (pc' := 56) (lo' := [(0, .ref 42)]) (st' := [.int (gF d 42 32), .int (s1 + s0)]) rfl ?_
    by_cases hc_5 : (0 : Int32) < (gF d 42 32)
    · have h := Eq.mp (if_pos hc_5) h
      refine st_if (t := 59) (b := false) rfl (decide_eq_false (Int32.not_le.mpr hc_5)) rfl ?_
      refine st_go 3 (pc' := 65) (lo' := [(0, .ref 42)]) (st' := [.int ((s1 + s0) + 1)]) rfl ?_
      exact st_retI rfl rfl (hQ _ _ h)
    · have h := Eq.mp (if_neg hc_5) h
      refine st_if (t := 63) (b := true) rfl (decide_eq_true (Int32.not_lt.mp hc_5)) rfl ?_
      refine st_go 2 (pc' := 65) (lo' := [(0, .ref 42)]) (st' := [.int ((s1 + s0) + 0)]) rfl ?_
      exact st_retI rfl rfl (hQ _ _ h)
set_option maxRecDepth 100000 in
def MO_lengthOf_24 (s0 : Int32) (s1 : Int32) (d : vmD) (Q : Int32 → vmD → Prop) : Prop :=
  if (gF d 42 36) < 0 then
  (MO_lengthOf_39 0 ((s1 + s0) + 1) d Q)
  else
  (MO_lengthOf_39 1 ((s1 + s0) + 1) d Q)
set_option maxRecDepth 100000 in
set_option maxHeartbeats 4000000 in
theorem tMO_lengthOf_24 {L : Nat} {e : vmD} {Qo : Option Value → vmW → Prop} {Q : Int32 → vmD → Prop} (hQ : ∀ r d, Q r d → Qo (some (.int r)) (wR L d e)) (s0 : Int32) (s1 : Int32) (d : vmD) (h : MO_lengthOf_24 s0 s1 d Q) : vmWp 299 24 [(0, .ref 42)] [.int s0, .int s1] (wR L d e) Qo := by
  unfold MO_lengthOf_24 at h
  refine st_go 5 (pc' := 31) (lo' := [(0, .ref 42)]) (st' := [.int (gF d 42 36), .int ((s1 + s0) + 1)]) rfl ?_
  by_cases hc_3 : (gF d 42 36) < 0
  · have h := Eq.mp (if_pos hc_3) h
    refine st_if (t := 38) (b := true) rfl (decide_eq_true hc_3) rfl ?_
    refine st_go 1 (pc' := 39) (lo' := [(0, .ref 42)]) (st' := [.int 0, .int ((s1 + s0) + 1)]) rfl ?_
    refine vmWp.sub (lo' := [(0, .ref 42)]) ⟨rfl, trivial⟩ ?_
    exact tMO_lengthOf_39 hQ 0 ((s1 + s0) + 1) d h
  · have h := Eq.mp (if_neg hc_3) h
    refine st_if (t := 34) (b := false) rfl (decide_eq_false hc_3) rfl ?_
    refine st_go 2 (pc' := 39) (lo' := [(0, .ref 42)]) (st' := [.int 1, .int ((s1 + s0) + 1)]) rfl ?_
    refine vmWp.sub (lo' := [(0, .ref 42)]) ⟨rfl, trivial⟩ ?_
    exact tMO_lengthOf_39 hQ 1 ((s1 + s0) + 1) d h
set_option maxRecDepth 100000 in
def MO_lengthOf_12 (s0 : Int32) (d : vmD) (Q : Int32 → vmD → Prop) : Prop :=
  if (0 : Int32) < (gF d 42 30) then
  (MO_lengthOf_24 1 s0 d Q)
  else
  (MO_lengthOf_24 0 s0 d Q)
set_option maxRecDepth 100000 in
set_option maxHeartbeats 4000000 in
theorem tMO_lengthOf_12 {L : Nat} {e : vmD} {Qo : Option Value → vmW → Prop} {Q : Int32 → vmD → Prop} (hQ : ∀ r d, Q r d → Qo (some (.int r)) (wR L d e)) (s0 : Int32) (d : vmD) (h : MO_lengthOf_12 s0 d Q) : vmWp 299 12 [(0, .ref 42)] [.int s0] (wR L d e) Qo := by
  unfold MO_lengthOf_12 at h
  refine st_go 2 (pc' := 16) (lo' := [(0, .ref 42)]) (st' := [.int (gF d 42 30), .int s0]) rfl ?_
  by_cases hc_2 : (0 : Int32) < (gF d 42 30)
  · have h := Eq.mp (if_pos hc_2) h
    refine st_if (t := 19) (b := false) rfl (decide_eq_false (Int32.not_le.mpr hc_2)) rfl ?_
    refine st_go 2 (pc' := 24) (lo' := [(0, .ref 42)]) (st' := [.int 1, .int s0]) rfl ?_
    refine vmWp.sub (lo' := [(0, .ref 42)]) ⟨rfl, trivial⟩ ?_
    exact tMO_lengthOf_24 hQ 1 s0 d h
  · have h := Eq.mp (if_neg hc_2) h
    refine st_if (t := 23) (b := true) rfl (decide_eq_true (Int32.not_lt.mp hc_2)) rfl ?_
    refine st_go 1 (pc' := 24) (lo' := [(0, .ref 42)]) (st' := [.int 0, .int s0]) rfl ?_
    refine vmWp.sub (lo' := [(0, .ref 42)]) ⟨rfl, trivial⟩ ?_
    exact tMO_lengthOf_24 hQ 0 s0 d h
set_option maxRecDepth 100000 in
def MO_lengthOf (d : vmD) (Q : Int32 → vmD → Prop) : Prop :=
  if (0 : Int32) < (gF d 42 29) then
  (MO_lengthOf_12 1 d Q)
  else
  (MO_lengthOf_12 0 d Q)
set_option maxRecDepth 100000 in
set_option maxHeartbeats 4000000 in
theorem tMO_lengthOf {L : Nat} {e : vmD} {Qo : Option Value → vmW → Prop} {Q : Int32 → vmD → Prop} (hQ : ∀ r d, Q r d → Qo (some (.int r)) (wR L d e)) (d : vmD) (h : MO_lengthOf d Q) : vmWp 299 0 [(0, .ref 42)] [] (wR L d e) Qo := by
  unfold MO_lengthOf at h
  refine st_go 2 (pc' := 4) (lo' := [(0, .ref 42)]) (st' := [.int (gF d 42 29)]) rfl ?_
  by_cases hc_1 : (0 : Int32) < (gF d 42 29)
  · have h := Eq.mp (if_pos hc_1) h
    refine st_if (t := 7) (b := false) rfl (decide_eq_false (Int32.not_le.mpr hc_1)) rfl ?_
    refine st_go 2 (pc' := 12) (lo' := [(0, .ref 42)]) (st' := [.int 1]) rfl ?_
    refine vmWp.sub (lo' := [(0, .ref 42)]) ⟨rfl, trivial⟩ ?_
    exact tMO_lengthOf_12 hQ 1 d h
  · have h := Eq.mp (if_neg hc_1) h
    refine st_if (t := 11) (b := true) rfl (decide_eq_true (Int32.not_lt.mp hc_1)) rfl ?_
    refine st_go 1 (pc' := 12) (lo' := [(0, .ref 42)]) (st' := [.int 0]) rfl ?_
    refine vmWp.sub (lo' := [(0, .ref 42)]) ⟨rfl, trivial⟩ ?_
    exact tMO_lengthOf_12 hQ 0 d h
set_option maxRecDepth 100000 in
def MO_expValue (x1 : Int32) (d : vmD) (Q : Int32 → vmD → Prop) : Prop :=
  ixOk x1 8 ∧
  bnd (gA d 52 x1.toNatClampNeg) fun y_2 =>
  MO_goTo y_2 d fun d_3 =>
  MO_expression 1 d_3 fun r_5 d_4 =>
  Q (gF d_4 42 22) d_4
set_option maxRecDepth 100000 in
set_option maxHeartbeats 4000000 in
theorem tMO_expValue {L : Nat} {e : vmD} {Qo : Option Value → vmW → Prop} {Q : Int32 → vmD → Prop} (hQ : ∀ r d, Q r d → Qo (some (.int r)) (wR L d e)) (x1 : Int32) (d : vmD) (h : MO_expValue x1 d Q) : vmWp 307 0 [(0, .ref 42), (1, .int x1)] [] (wR L d e) Qo := by
  unfold MO_expValue at h
  refine st_go 4 (pc' := 6) (lo' := [(0, .ref 42), (1, .int x1)]) (st' := [.int x1, .ref 52, .ref 42]) rfl ?_
  obtain ⟨hj_1, h⟩ := h
  refine st_ialdR (o := 52) rfl rfl hj_1 rfl (fun y_2 hy_y_2 => ?_)
  have h := h y_2 hy_y_2
  refine st_callv (k' := 258) (as := [.ref 42, .int y_2]) (rest := []) (lo' := [(0, .ref 42), (1, .int y_2)]) (wf := fun d => wR L d e) rfl rfl rfl ?_
  refine tMO_goTo (fun d_3 h => ⟨d_3, rfl, rfl, ?_⟩) y_2 d h
  refine st_go 2 (pc' := 12) (lo' := [(0, .ref 42), (1, .int x1)]) (st' := [.int 1, .ref 42]) rfl ?_
  refine st_calli (k' := 269) (as := [.ref 42, .int 1]) (rest := []) (lo' := [(0, .ref 42), (1, .int 1)]) (wf := fun d => wR L d e) rfl rfl rfl ?_
  refine tMO_expression (fun r_5 d_4 h => ⟨r_5, d_4, rfl, rfl, ?_⟩) 1 d_3 h
  refine st_go 3 (pc' := 20) (lo' := [(0, .ref 42), (1, .int x1)]) (st' := [.int (gF d_4 42 22)]) rfl ?_
  exact st_retI rfl rfl (hQ _ _ h)
set_option maxRecDepth 100000 in
def MO_work_133 (x4 : Int32) (d : vmD) (Q : Int32 → vmD → Prop) : Prop :=
  MO_wrong 5 x4 d fun r_24 d_23 =>
  if r_24 = 0 then
  (Q 0 d_23)
  else
  (Q 1 d_23)
set_option maxRecDepth 100000 in
set_option maxHeartbeats 4000000 in
theorem tMO_work_133 {L : Nat} {e : vmD} {Qo : Option Value → vmW → Prop} {Q : Int32 → vmD → Prop} (hQ : ∀ r d, Q r d → Qo (some (.int r)) (wR L d e)) (x4 : Int32) (d : vmD) (h : MO_work_133 x4 d Q) : vmWp 308 133 [(0, .ref 42), (4, .int x4)] [] (wR L d e) Qo := by
  unfold MO_work_133 at h
  refine st_go 3 (pc' := 137) (lo' := [(0, .ref 42), (4, .int x4)]) (st' := [.int x4, .int 5, .ref 42]) rfl ?_
  refine st_calli (k' := 245) (as := [.ref 42, .int 5, .int x4]) (rest := []) (lo' := [(0, .ref 42), (1, .int 5), (2, .int x4)]) (wf := fun d => wR L d e) rfl rfl rfl ?_
  refine tMO_wrong (fun r_24 d_23 h => ⟨r_24, d_23, rfl, rfl, ?_⟩) 5 x4 d h
  by_cases hc_25 : r_24 = 0
  · have h := Eq.mp (if_pos hc_25) h
    refine st_if (t := 147) (b := true) rfl (decide_eq_true hc_25) rfl ?_
    refine st_go 1 (pc' := 148) (lo' := [(0, .ref 42), (4, .int x4)]) (st' := [.int 0]) rfl ?_
    exact st_retZ rfl rfl (Or.inl rfl) (hQ _ _ h)
  · have h := Eq.mp (if_neg hc_25) h
    refine st_if (t := 143) (b := false) rfl (decide_eq_false hc_25) rfl ?_
    refine st_go 2 (pc' := 148) (lo' := [(0, .ref 42), (4, .int x4)]) (st' := [.int 1]) rfl ?_
    exact st_retZ rfl rfl (Or.inr rfl) (hQ _ _ h)
set_option maxRecDepth 100000 in
def MO_work_112 (x4 : Int32) (s0 : Int32) (d : vmD) (Q : Int32 → vmD → Prop) : Prop :=
  bnd (sF d 42 56 s0) fun d_21 =>
  if (gF d_21 42 56) < (-128) then
  (MO_work_133 x4 d_21 Q)
  else
  (if (127 : Int32) < (gF d_21 42 56) then
  (MO_work_133 x4 d_21 Q)
  else
  (Q 1 d_21))
set_option maxRecDepth 100000 in
set_option maxHeartbeats 4000000 in
theorem tMO_work_112 {L : Nat} {e : vmD} {Qo : Option Value → vmW → Prop} {Q : Int32 → vmD → Prop} (hQ : ∀ r d, Q r d → Qo (some (.int r)) (wR L d e)) (x4 : Int32) (s0 : Int32) (d : vmD) (h : MO_work_112 x4 s0 d Q) : vmWp 308 112 [(0, .ref 42), (4, .int x4)] [.int s0, .ref 42] (wR L d e) Qo := by
  unfold MO_work_112 at h
  refine st_putIR (o := 42) (f := 56) rfl rfl rfl rfl rfl (fun d_21 hy_d_21 => ?_)
  have h := h d_21 hy_d_21
  refine st_go 3 (pc' := 121) (lo' := [(0, .ref 42), (4, .int x4)]) (st' := [.int (-128), .int (gF d_21 42 56)]) rfl ?_
  by_cases hc_22 : (gF d_21 42 56) < (-128)
  · have h := Eq.mp (if_pos hc_22) h
    refine st_icmp (t := 133) (b := true) rfl (decide_eq_true hc_22) rfl ?_
    refine vmWp.sub (lo' := [(0, .ref 42), (4, .int x4)]) ⟨rfl, rfl, trivial⟩ ?_
    exact tMO_work_133 hQ x4 d_21 h
  · have h := Eq.mp (if_neg hc_22) h
    refine st_icmp (t := 124) (b := false) rfl (decide_eq_false hc_22) rfl ?_
    refine st_go 3 (pc' := 130) (lo' := [(0, .ref 42), (4, .int x4)]) (st' := [.int 127, .int (gF d_21 42 56)]) rfl ?_
    by_cases hc_26 : (127 : Int32) < (gF d_21 42 56)
    · have h := Eq.mp (if_pos hc_26) h
      refine st_icmp (t := 133) (b := false) rfl (decide_eq_false (Int32.not_le.mpr hc_26)) rfl ?_
      refine vmWp.sub (lo' := [(0, .ref 42), (4, .int x4)]) ⟨rfl, rfl, trivial⟩ ?_
      exact tMO_work_133 hQ x4 d_21 h
    · have h := Eq.mp (if_neg hc_26) h
      refine st_icmp (t := 143) (b := true) rfl (decide_eq_true (Int32.not_lt.mp hc_26)) rfl ?_
      refine st_go 2 (pc' := 148) (lo' := [(0, .ref 42), (4, .int x4)]) (st' := [.int 1]) rfl ?_
      exact st_retZ rfl rfl (Or.inr rfl) (hQ _ _ h)
set_option maxRecDepth 100000 in
def MO_work_242 (x4 : Int32) (s0 : Int32) (d : vmD) (Q : Int32 → vmD → Prop) : Prop :=
  if s0 = 0 then
  (MO_wrong 5 x4 d fun r_34 d_33 =>
  if r_34 = 0 then
  (Q 0 d_33)
  else
  (Q 1 d_33))
  else
  (Q 1 d)
set_option maxRecDepth 100000 in
set_option maxHeartbeats 4000000 in
theorem tMO_work_242 {L : Nat} {e : vmD} {Qo : Option Value → vmW → Prop} {Q : Int32 → vmD → Prop} (hQ : ∀ r d, Q r d → Qo (some (.int r)) (wR L d e)) (x4 : Int32) (s0 : Int32) (d : vmD) (h : MO_work_242 x4 s0 d Q) : vmWp 308 242 [(0, .ref 42), (4, .int x4)] [.int s0] (wR L d e) Qo := by
  unfold MO_work_242 at h
  refine st_go 2 (pc' := 246) (lo' := [(5, .int s0), (0, .ref 42), (4, .int x4)]) (st' := [.int s0]) rfl ?_
  by_cases hc_32 : s0 = 0
  · have h := Eq.mp (if_pos hc_32) h
    refine st_if (t := 249) (b := false) rfl (decide_eq_false (fun z => z hc_32)) rfl ?_
    refine st_go 3 (pc' := 253) (lo' := [(5, .int s0), (0, .ref 42), (4, .int x4)]) (st' := [.int x4, .int 5, .ref 42]) rfl ?_
    refine st_calli (k' := 245) (as := [.ref 42, .int 5, .int x4]) (rest := []) (lo' := [(0, .ref 42), (1, .int 5), (2, .int x4)]) (wf := fun d => wR L d e) rfl rfl rfl ?_
    refine tMO_wrong (fun r_34 d_33 h => ⟨r_34, d_33, rfl, rfl, ?_⟩) 5 x4 d h
    by_cases hc_35 : r_34 = 0
    · have h := Eq.mp (if_pos hc_35) h
      refine st_if (t := 263) (b := true) rfl (decide_eq_true hc_35) rfl ?_
      refine st_go 1 (pc' := 264) (lo' := [(5, .int s0), (0, .ref 42), (4, .int x4)]) (st' := [.int 0]) rfl ?_
      exact st_retZ rfl rfl (Or.inl rfl) (hQ _ _ h)
    · have h := Eq.mp (if_neg hc_35) h
      refine st_if (t := 259) (b := false) rfl (decide_eq_false hc_35) rfl ?_
      refine st_go 2 (pc' := 264) (lo' := [(5, .int s0), (0, .ref 42), (4, .int x4)]) (st' := [.int 1]) rfl ?_
      exact st_retZ rfl rfl (Or.inr rfl) (hQ _ _ h)
  · have h := Eq.mp (if_neg hc_32) h
    refine st_if (t := 259) (b := true) rfl (decide_eq_true hc_32) rfl ?_
    refine st_go 2 (pc' := 264) (lo' := [(5, .int s0), (0, .ref 42), (4, .int x4)]) (st' := [.int 1]) rfl ?_
    exact st_retZ rfl rfl (Or.inr rfl) (hQ _ _ h)
set_option maxRecDepth 100000 in
def MO_work_191 (x4 : Int32) (d : vmD) (Q : Int32 → vmD → Prop) : Prop :=
  MO_work_242 x4 0 d Q
set_option maxRecDepth 100000 in
set_option maxHeartbeats 4000000 in
theorem tMO_work_191 {L : Nat} {e : vmD} {Qo : Option Value → vmW → Prop} {Q : Int32 → vmD → Prop} (hQ : ∀ r d, Q r d → Qo (some (.int r)) (wR L d e)) (x4 : Int32) (d : vmD) (h : MO_work_191 x4 d Q) : vmWp 308 191 [(0, .ref 42), (4, .int x4)] [] (wR L d e) Qo := by
  unfold MO_work_191 at h
  refine st_go 2 (pc' := 242) (lo' := [(0, .ref 42), (4, .int x4)]) (st' := [.int 0]) rfl ?_
  refine vmWp.sub (lo' := [(0, .ref 42), (4, .int x4)]) ⟨rfl, rfl, trivial⟩ ?_
  exact tMO_work_242 hQ x4 0 d h
set_option maxRecDepth 100000 in
def MO_work_224 (x4 : Int32) (d : vmD) (Q : Int32 → vmD → Prop) : Prop :=
  MO_work_242 x4 0 d Q
set_option maxRecDepth 100000 in
set_option maxHeartbeats 4000000 in
theorem tMO_work_224 {L : Nat} {e : vmD} {Qo : Option Value → vmW → Prop} {Q : Int32 → vmD → Prop} (hQ : ∀ r d, Q r d → Qo (some (.int r)) (wR L d e)) (x4 : Int32) (d : vmD) (h : MO_work_224 x4 d Q) : vmWp 308 224 [(0, .ref 42), (4, .int x4)] [] (wR L d e) Qo := by
  unfold MO_work_224 at h
  refine st_go 2 (pc' := 242) (lo' := [(0, .ref 42), (4, .int x4)]) (st' := [.int 0]) rfl ?_
  refine vmWp.sub (lo' := [(0, .ref 42), (4, .int x4)]) ⟨rfl, rfl, trivial⟩ ?_
  exact tMO_work_242 hQ x4 0 d h
set_option maxRecDepth 100000 in
def MO_work_241 (x4 : Int32) (d : vmD) (Q : Int32 → vmD → Prop) : Prop :=
  MO_work_242 x4 0 d Q
set_option maxRecDepth 100000 in
set_option maxHeartbeats 4000000 in
theorem tMO_work_241 {L : Nat} {e : vmD} {Qo : Option Value → vmW → Prop} {Q : Int32 → vmD → Prop} (hQ : ∀ r d, Q r d → Qo (some (.int r)) (wR L d e)) (x4 : Int32) (d : vmD) (h : MO_work_241 x4 d Q) : vmWp 308 241 [(0, .ref 42), (4, .int x4)] [] (wR L d e) Qo := by
  unfold MO_work_241 at h
  refine st_go 1 (pc' := 242) (lo' := [(0, .ref 42), (4, .int x4)]) (st' := [.int 0]) rfl ?_
  refine vmWp.sub (lo' := [(0, .ref 42), (4, .int x4)]) ⟨rfl, rfl, trivial⟩ ?_
  exact tMO_work_242 hQ x4 0 d h
set_option maxRecDepth 100000 in
def MO_work_291 (x4 : Int32) (d : vmD) (Q : Int32 → vmD → Prop) : Prop :=
  MO_wrong 5 x4 d fun r_47 d_46 =>
  if r_47 = 0 then
  (Q 0 d_46)
  else
  (Q 1 d_46)
set_option maxRecDepth 100000 in
set_option maxHeartbeats 4000000 in
theorem tMO_work_291 {L : Nat} {e : vmD} {Qo : Option Value → vmW → Prop} {Q : Int32 → vmD → Prop} (hQ : ∀ r d, Q r d → Qo (some (.int r)) (wR L d e)) (x4 : Int32) (d : vmD) (h : MO_work_291 x4 d Q) : vmWp 308 291 [(0, .ref 42), (4, .int x4)] [] (wR L d e) Qo := by
  unfold MO_work_291 at h
  refine st_go 3 (pc' := 295) (lo' := [(0, .ref 42), (4, .int x4)]) (st' := [.int x4, .int 5, .ref 42]) rfl ?_
  refine st_calli (k' := 245) (as := [.ref 42, .int 5, .int x4]) (rest := []) (lo' := [(0, .ref 42), (1, .int 5), (2, .int x4)]) (wf := fun d => wR L d e) rfl rfl rfl ?_
  refine tMO_wrong (fun r_47 d_46 h => ⟨r_47, d_46, rfl, rfl, ?_⟩) 5 x4 d h
  by_cases hc_48 : r_47 = 0
  · have h := Eq.mp (if_pos hc_48) h
    refine st_if (t := 305) (b := true) rfl (decide_eq_true hc_48) rfl ?_
    refine st_go 1 (pc' := 306) (lo' := [(0, .ref 42), (4, .int x4)]) (st' := [.int 0]) rfl ?_
    exact st_retZ rfl rfl (Or.inl rfl) (hQ _ _ h)
  · have h := Eq.mp (if_neg hc_48) h
    refine st_if (t := 301) (b := false) rfl (decide_eq_false hc_48) rfl ?_
    refine st_go 2 (pc' := 306) (lo' := [(0, .ref 42), (4, .int x4)]) (st' := [.int 1]) rfl ?_
    exact st_retZ rfl rfl (Or.inr rfl) (hQ _ _ h)
set_option maxRecDepth 100000 in
def MO_work_328 (x4 : Int32) (d : vmD) (Q : Int32 → vmD → Prop) : Prop :=
  MO_wrong 5 x4 d fun r_53 d_52 =>
  if r_53 = 0 then
  (Q 0 d_52)
  else
  (Q 1 d_52)
set_option maxRecDepth 100000 in
set_option maxHeartbeats 4000000 in
theorem tMO_work_328 {L : Nat} {e : vmD} {Qo : Option Value → vmW → Prop} {Q : Int32 → vmD → Prop} (hQ : ∀ r d, Q r d → Qo (some (.int r)) (wR L d e)) (x4 : Int32) (d : vmD) (h : MO_work_328 x4 d Q) : vmWp 308 328 [(0, .ref 42), (4, .int x4)] [] (wR L d e) Qo := by
  unfold MO_work_328 at h
  refine st_go 3 (pc' := 332) (lo' := [(0, .ref 42), (4, .int x4)]) (st' := [.int x4, .int 5, .ref 42]) rfl ?_
  refine st_calli (k' := 245) (as := [.ref 42, .int 5, .int x4]) (rest := []) (lo' := [(0, .ref 42), (1, .int 5), (2, .int x4)]) (wf := fun d => wR L d e) rfl rfl rfl ?_
  refine tMO_wrong (fun r_53 d_52 h => ⟨r_53, d_52, rfl, rfl, ?_⟩) 5 x4 d h
  by_cases hc_54 : r_53 = 0
  · have h := Eq.mp (if_pos hc_54) h
    refine st_if (t := 342) (b := true) rfl (decide_eq_true hc_54) rfl ?_
    refine st_go 1 (pc' := 343) (lo' := [(0, .ref 42), (4, .int x4)]) (st' := [.int 0]) rfl ?_
    exact st_retZ rfl rfl (Or.inl rfl) (hQ _ _ h)
  · have h := Eq.mp (if_neg hc_54) h
    refine st_if (t := 338) (b := false) rfl (decide_eq_false hc_54) rfl ?_
    refine st_go 2 (pc' := 343) (lo' := [(0, .ref 42), (4, .int x4)]) (st' := [.int 1]) rfl ?_
    exact st_retZ rfl rfl (Or.inr rfl) (hQ _ _ h)
set_option maxRecDepth 100000 in
def MO_work_380 (x4 : Int32) (d : vmD) (Q : Int32 → vmD → Prop) : Prop :=
  MO_wrong 5 x4 d fun r_60 d_59 =>
  if r_60 = 0 then
  (Q 0 d_59)
  else
  (Q 1 d_59)
set_option maxRecDepth 100000 in
set_option maxHeartbeats 4000000 in
theorem tMO_work_380 {L : Nat} {e : vmD} {Qo : Option Value → vmW → Prop} {Q : Int32 → vmD → Prop} (hQ : ∀ r d, Q r d → Qo (some (.int r)) (wR L d e)) (x4 : Int32) (d : vmD) (h : MO_work_380 x4 d Q) : vmWp 308 380 [(0, .ref 42), (4, .int x4)] [] (wR L d e) Qo := by
  unfold MO_work_380 at h
  refine st_go 3 (pc' := 384) (lo' := [(0, .ref 42), (4, .int x4)]) (st' := [.int x4, .int 5, .ref 42]) rfl ?_
  refine st_calli (k' := 245) (as := [.ref 42, .int 5, .int x4]) (rest := []) (lo' := [(0, .ref 42), (1, .int 5), (2, .int x4)]) (wf := fun d => wR L d e) rfl rfl rfl ?_
  refine tMO_wrong (fun r_60 d_59 h => ⟨r_60, d_59, rfl, rfl, ?_⟩) 5 x4 d h
  by_cases hc_61 : r_60 = 0
  · have h := Eq.mp (if_pos hc_61) h
    refine st_if (t := 394) (b := true) rfl (decide_eq_true hc_61) rfl ?_
    refine st_go 1 (pc' := 395) (lo' := [(0, .ref 42), (4, .int x4)]) (st' := [.int 0]) rfl ?_
    exact st_retZ rfl rfl (Or.inl rfl) (hQ _ _ h)
  · have h := Eq.mp (if_neg hc_61) h
    refine st_if (t := 390) (b := false) rfl (decide_eq_false hc_61) rfl ?_
    refine st_go 2 (pc' := 395) (lo' := [(0, .ref 42), (4, .int x4)]) (st' := [.int 1]) rfl ?_
    exact st_retZ rfl rfl (Or.inr rfl) (hQ _ _ h)
set_option maxRecDepth 100000 in
def MO_work_265 (x2 : Int32) (x3 : Int32) (x4 : Int32) (d : vmD) (Q : Int32 → vmD → Prop) : Prop :=
  bnd (sF d 42 57 x3) fun d_43 =>
  if (gF d_43 42 32) = 1 then
  (if x3 < (-128) then
  (MO_work_291 x4 d_43 Q)
  else
  (if (255 : Int32) < x3 then
  (MO_work_291 x4 d_43 Q)
  else
  (Q 1 d_43)))
  else
  (if (gF d_43 42 32) = 2 then
  (if x3 < (-32768) then
  (MO_work_328 x4 d_43 Q)
  else
  (if (65535 : Int32) < x3 then
  (MO_work_328 x4 d_43 Q)
  else
  (Q 1 d_43)))
  else
  (bnd (((x3 - ((gF d_43 42 20) + x2)) <<< ((16 : Int32) &&& 31)) >>> ((16 : Int32) &&& 31)) fun x5_56 =>
  bnd (sF d_43 42 57 x5_56) fun d_57 =>
  if x5_56 < (-128) then
  (MO_work_380 x4 d_57 Q)
  else
  (if (127 : Int32) < x5_56 then
  (MO_work_380 x4 d_57 Q)
  else
  (Q 1 d_57))))
set_option maxRecDepth 100000 in
set_option maxHeartbeats 4000000 in
theorem tMO_work_265 {L : Nat} {e : vmD} {Qo : Option Value → vmW → Prop} {Q : Int32 → vmD → Prop} (hQ : ∀ r d, Q r d → Qo (some (.int r)) (wR L d e)) (x2 : Int32) (x3 : Int32) (x4 : Int32) (d : vmD) (h : MO_work_265 x2 x3 x4 d Q) : vmWp 308 265 [(0, .ref 42), (2, .int x2), (3, .int x3), (4, .int x4)] [] (wR L d e) Qo := by
  unfold MO_work_265 at h
  refine st_go 2 (pc' := 267) (lo' := [(0, .ref 42), (2, .int x2), (3, .int x3), (4, .int x4)]) (st' := [.int x3, .ref 42]) rfl ?_
  refine st_putIR (o := 42) (f := 57) rfl rfl rfl rfl rfl (fun d_43 hy_d_43 => ?_)
  have h := h d_43 hy_d_43
  refine st_go 3 (pc' := 275) (lo' := [(0, .ref 42), (2, .int x2), (3, .int x3), (4, .int x4)]) (st' := [.int 1, .int (gF d_43 42 32)]) rfl ?_
  by_cases hc_44 : (gF d_43 42 32) = 1
  · have h := Eq.mp (if_pos hc_44) h
    refine st_icmp (t := 278) (b := false) rfl (decide_eq_false (fun z => z hc_44)) rfl ?_
    refine st_go 2 (pc' := 281) (lo' := [(0, .ref 42), (2, .int x2), (3, .int x3), (4, .int x4)]) (st' := [.int (-128), .int x3]) rfl ?_
    by_cases hc_45 : x3 < (-128)
    · have h := Eq.mp (if_pos hc_45) h
      refine st_icmp (t := 291) (b := true) rfl (decide_eq_true hc_45) rfl ?_
      refine vmWp.sub (lo' := [(0, .ref 42), (4, .int x4)]) ⟨rfl, rfl, trivial⟩ ?_
      exact tMO_work_291 hQ x4 d_43 h
    · have h := Eq.mp (if_neg hc_45) h
      refine st_icmp (t := 284) (b := false) rfl (decide_eq_false hc_45) rfl ?_
      refine st_go 2 (pc' := 288) (lo' := [(0, .ref 42), (2, .int x2), (3, .int x3), (4, .int x4)]) (st' := [.int 255, .int x3]) rfl ?_
      by_cases hc_49 : (255 : Int32) < x3
      · have h := Eq.mp (if_pos hc_49) h
        refine st_icmp (t := 291) (b := false) rfl (decide_eq_false (Int32.not_le.mpr hc_49)) rfl ?_
        refine vmWp.sub (lo' := [(0, .ref 42), (4, .int x4)]) ⟨rfl, rfl, trivial⟩ ?_
        exact tMO_work_291 hQ x4 d_43 h
      · have h := Eq.mp (if_neg hc_49) h
        refine st_icmp (t := 301) (b := true) rfl (decide_eq_true (Int32.not_lt.mp hc_49)) rfl ?_
        refine st_go 2 (pc' := 306) (lo' := [(0, .ref 42), (2, .int x2), (3, .int x3), (4, .int x4)]) (st' := [.int 1]) rfl ?_
        exact st_retZ rfl rfl (Or.inr rfl) (hQ _ _ h)
  · have h := Eq.mp (if_neg hc_44) h
    refine st_icmp (t := 307) (b := true) rfl (decide_eq_true hc_44) rfl ?_
    refine st_go 3 (pc' := 312) (lo' := [(0, .ref 42), (2, .int x2), (3, .int x3), (4, .int x4)]) (st' := [.int 2, .int (gF d_43 42 32)]) rfl ?_
    by_cases hc_50 : (gF d_43 42 32) = 2
    · have h := Eq.mp (if_pos hc_50) h
      refine st_icmp (t := 315) (b := false) rfl (decide_eq_false (fun z => z hc_50)) rfl ?_
      refine st_go 2 (pc' := 319) (lo' := [(0, .ref 42), (2, .int x2), (3, .int x3), (4, .int x4)]) (st' := [.int (-32768), .int x3]) rfl ?_
      by_cases hc_51 : x3 < (-32768)
      · have h := Eq.mp (if_pos hc_51) h
        refine st_icmp (t := 328) (b := true) rfl (decide_eq_true hc_51) rfl ?_
        refine vmWp.sub (lo' := [(0, .ref 42), (4, .int x4)]) ⟨rfl, rfl, trivial⟩ ?_
        exact tMO_work_328 hQ x4 d_43 h
      · have h := Eq.mp (if_neg hc_51) h
        refine st_icmp (t := 322) (b := false) rfl (decide_eq_false hc_51) rfl ?_
        refine st_go 2 (pc' := 325) (lo' := [(0, .ref 42), (2, .int x2), (3, .int x3), (4, .int x4)]) (st' := [.int 65535, .int x3]) rfl ?_
        by_cases hc_55 : (65535 : Int32) < x3
        · have h := Eq.mp (if_pos hc_55) h
          refine st_icmp (t := 328) (b := false) rfl (decide_eq_false (Int32.not_le.mpr hc_55)) rfl ?_
          refine vmWp.sub (lo' := [(0, .ref 42), (4, .int x4)]) ⟨rfl, rfl, trivial⟩ ?_
          exact tMO_work_328 hQ x4 d_43 h
        · have h := Eq.mp (if_neg hc_55) h
          refine st_icmp (t := 338) (b := true) rfl (decide_eq_true (Int32.not_lt.mp hc_55)) rfl ?_
          refine st_go 2 (pc' := 343) (lo' := [(0, .ref 42), (2, .int x2), (3, .int x3), (4, .int x4)]) (st' := [.int 1]) rfl ?_
          exact st_retZ rfl rfl (Or.inr rfl) (hQ _ _ h)
    · have h := Eq.mp (if_neg hc_50) h
      refine st_icmp (t := 344) (b := true) rfl (decide_eq_true hc_50) rfl ?_
      refine st_go 11 (pc' := 360) (lo' := [(5, .int (((x3 - ((gF d_43 42 20) + x2)) <<< ((16 : Int32) &&& 31)) >>> ((16 : Int32) &&& 31))), (0, .ref 42), (2, .int x2), (3, .int x3), (4, .int x4)]) (st' := []) rfl ?_
      refine st_locI (fun x5_56 hy_x5_56 => ?_)
      have h := h x5_56 hy_x5_56
      refine st_go 2 (pc' := 363) (lo' := [(5, .int x5_56), (0, .ref 42), (2, .int x2), (3, .int x3), (4, .int x4)]) (st' := [.int x5_56, .ref 42]) rfl ?_
      refine st_putIR (o := 42) (f := 57) rfl rfl rfl rfl rfl (fun d_57 hy_d_57 => ?_)
      have h := h d_57 hy_d_57
      refine st_go 2 (pc' := 370) (lo' := [(5, .int x5_56), (0, .ref 42), (2, .int x2), (3, .int x3), (4, .int x4)]) (st' := [.int (-128), .int x5_56]) rfl ?_
      by_cases hc_58 : x5_56 < (-128)
      · have h := Eq.mp (if_pos hc_58) h
        refine st_icmp (t := 380) (b := true) rfl (decide_eq_true hc_58) rfl ?_
        refine vmWp.sub (lo' := [(0, .ref 42), (4, .int x4)]) ⟨rfl, rfl, trivial⟩ ?_
        exact tMO_work_380 hQ x4 d_57 h
      · have h := Eq.mp (if_neg hc_58) h
        refine st_icmp (t := 373) (b := false) rfl (decide_eq_false hc_58) rfl ?_
        refine st_go 2 (pc' := 377) (lo' := [(5, .int x5_56), (0, .ref 42), (2, .int x2), (3, .int x3), (4, .int x4)]) (st' := [.int 127, .int x5_56]) rfl ?_
        by_cases hc_62 : (127 : Int32) < x5_56
        · have h := Eq.mp (if_pos hc_62) h
          refine st_icmp (t := 380) (b := false) rfl (decide_eq_false (Int32.not_le.mpr hc_62)) rfl ?_
          refine vmWp.sub (lo' := [(0, .ref 42), (4, .int x4)]) ⟨rfl, rfl, trivial⟩ ?_
          exact tMO_work_380 hQ x4 d_57 h
        · have h := Eq.mp (if_neg hc_62) h
          refine st_icmp (t := 390) (b := true) rfl (decide_eq_true (Int32.not_lt.mp hc_62)) rfl ?_
          refine st_go 2 (pc' := 395) (lo' := [(5, .int x5_56), (0, .ref 42), (2, .int x2), (3, .int x3), (4, .int x4)]) (st' := [.int 1]) rfl ?_
          exact st_retZ rfl rfl (Or.inr rfl) (hQ _ _ h)
set_option maxRecDepth 100000 in
def MO_work_62 (x1 : Int32) (x2 : Int32) (d : vmD) (Q : Int32 → vmD → Prop) : Prop :=
  MO_expValue x1 d fun r_11 d_10 =>
  if (0 : Int32) < (gF d_10 42 8) then
  (Q 0 d_10)
  else
  (ixOk x1 8 ∧
  bnd (gA d_10 52 x1.toNatClampNeg) fun y_14 =>
  ixOk x1 8 ∧
  bnd (gA d_10 50 x1.toNatClampNeg) fun y_16 =>
  if y_16 = 14 then
  (ixOk x1 8 ∧
  bnd (gA d_10 53 x1.toNatClampNeg) fun y_19 =>
  if y_19 = 0 then
  (MO_work_112 y_14 r_11 d_10 Q)
  else
  (MO_work_112 y_14 (-r_11) d_10 Q))
  else
  (if (0 : Int32) < (gF d_10 42 34) then
  (if (gF d_10 42 35) = x1 then
  (bnd (sF d_10 42 55 r_11) fun d_29 =>
  if (gF d_29 42 34) = 1 then
  (if r_11 < 0 then
  (MO_work_191 y_14 d_29 Q)
  else
  (if (7 : Int32) < r_11 then
  (MO_work_191 y_14 d_29 Q)
  else
  (MO_work_242 y_14 1 d_29 Q)))
  else
  (if (gF d_29 42 34) = 2 then
  (if r_11 < 0 then
  (MO_work_224 y_14 d_29 Q)
  else
  (if (56 : Int32) < r_11 then
  (MO_work_224 y_14 d_29 Q)
  else
  (if (r_11 - r_11 / 8 * 8) = 0 then
  (MO_work_242 y_14 1 d_29 Q)
  else
  (MO_work_224 y_14 d_29 Q))))
  else
  (if r_11 < 0 then
  (MO_work_241 y_14 d_29 Q)
  else
  (if (2 : Int32) < r_11 then
  (MO_work_241 y_14 d_29 Q)
  else
  (MO_work_242 y_14 1 d_29 Q)))))
  else
  (MO_work_265 x2 r_11 y_14 d_10 Q))
  else
  (MO_work_265 x2 r_11 y_14 d_10 Q)))
set_option maxRecDepth 100000 in
set_option maxHeartbeats 4000000 in
theorem tMO_work_62 {L : Nat} {e : vmD} {Qo : Option Value → vmW → Prop} {Q : Int32 → vmD → Prop} (hQ : ∀ r d, Q r d → Qo (some (.int r)) (wR L d e)) (x1 : Int32) (x2 : Int32) (d : vmD) (h : MO_work_62 x1 x2 d Q) : vmWp 308 62 [(0, .ref 42), (1, .int x1), (2, .int x2)] [] (wR L d e) Qo := by
  unfold MO_work_62 at h
  refine st_go 2 (pc' := 64) (lo' := [(0, .ref 42), (1, .int x1), (2, .int x2)]) (st' := [.int x1, .ref 42]) rfl ?_
  refine st_calli (k' := 307) (as := [.ref 42, .int x1]) (rest := []) (lo' := [(0, .ref 42), (1, .int x1)]) (wf := fun d => wR L d e) rfl rfl rfl ?_
  refine tMO_expValue (fun r_11 d_10 h => ⟨r_11, d_10, rfl, rfl, ?_⟩) x1 d h
  refine st_go 3 (pc' := 72) (lo' := [(3, .int r_11), (0, .ref 42), (1, .int x1), (2, .int x2)]) (st' := [.int (gF d_10 42 8)]) rfl ?_
  by_cases hc_12 : (0 : Int32) < (gF d_10 42 8)
  · have h := Eq.mp (if_pos hc_12) h
    refine st_if (t := 75) (b := false) rfl (decide_eq_false (Int32.not_le.mpr hc_12)) rfl ?_
    refine st_go 1 (pc' := 76) (lo' := [(3, .int r_11), (0, .ref 42), (1, .int x1), (2, .int x2)]) (st' := [.int 0]) rfl ?_
    exact st_retZ rfl rfl (Or.inl rfl) (hQ _ _ h)
  · have h := Eq.mp (if_neg hc_12) h
    refine st_if (t := 77) (b := true) rfl (decide_eq_true (Int32.not_lt.mp hc_12)) rfl ?_
    refine st_go 3 (pc' := 82) (lo' := [(3, .int r_11), (0, .ref 42), (1, .int x1), (2, .int x2)]) (st' := [.int x1, .ref 52]) rfl ?_
    obtain ⟨hj_13, h⟩ := h
    refine st_ialdR (o := 52) rfl rfl hj_13 rfl (fun y_14 hy_y_14 => ?_)
    have h := h y_14 hy_y_14
    refine st_go 4 (pc' := 90) (lo' := [(4, .int y_14), (3, .int r_11), (0, .ref 42), (1, .int x1), (2, .int x2)]) (st' := [.int x1, .ref 50]) rfl ?_
    obtain ⟨hj_15, h⟩ := h
    refine st_ialdR (o := 50) rfl rfl hj_15 rfl (fun y_16 hy_y_16 => ?_)
    have h := h y_16 hy_y_16
    refine st_go 1 (pc' := 93) (lo' := [(4, .int y_14), (3, .int r_11), (0, .ref 42), (1, .int x1), (2, .int x2)]) (st' := [.int 14, .int y_16]) rfl ?_
    by_cases hc_17 : y_16 = 14
    · have h := Eq.mp (if_pos hc_17) h
      refine st_icmp (t := 96) (b := false) rfl (decide_eq_false (fun z => z hc_17)) rfl ?_
      refine st_go 4 (pc' := 102) (lo' := [(4, .int y_14), (3, .int r_11), (0, .ref 42), (1, .int x1), (2, .int x2)]) (st' := [.int x1, .ref 53, .ref 42]) rfl ?_
      obtain ⟨hj_18, h⟩ := h
      refine st_zaldR (o := 53) rfl rfl hj_18 rfl (fun y_19 hy_y_19 => ?_)
      have h := h y_19 hy_y_19
      by_cases hc_20 : y_19 = 0
      · have h := Eq.mp (if_pos hc_20) h
        refine st_if (t := 111) (b := true) rfl (decide_eq_true hc_20) rfl ?_
        refine st_go 1 (pc' := 112) (lo' := [(4, .int y_14), (3, .int r_11), (0, .ref 42), (1, .int x1), (2, .int x2)]) (st' := [.int r_11, .ref 42]) rfl ?_
        refine vmWp.sub (lo' := [(0, .ref 42), (4, .int y_14)]) ⟨rfl, rfl, trivial⟩ ?_
        exact tMO_work_112 hQ y_14 r_11 d_10 h
      · have h := Eq.mp (if_neg hc_20) h
        refine st_if (t := 106) (b := false) rfl (decide_eq_false hc_20) rfl ?_
        refine st_go 3 (pc' := 112) (lo' := [(4, .int y_14), (3, .int r_11), (0, .ref 42), (1, .int x1), (2, .int x2)]) (st' := [.int (-r_11), .ref 42]) rfl ?_
        refine vmWp.sub (lo' := [(0, .ref 42), (4, .int y_14)]) ⟨rfl, rfl, trivial⟩ ?_
        exact tMO_work_112 hQ y_14 (-r_11) d_10 h
    · have h := Eq.mp (if_neg hc_17) h
      refine st_icmp (t := 149) (b := true) rfl (decide_eq_true hc_17) rfl ?_
      refine st_go 2 (pc' := 153) (lo' := [(4, .int y_14), (3, .int r_11), (0, .ref 42), (1, .int x1), (2, .int x2)]) (st' := [.int (gF d_10 42 34)]) rfl ?_
      by_cases hc_27 : (0 : Int32) < (gF d_10 42 34)
      · have h := Eq.mp (if_pos hc_27) h
        refine st_if (t := 156) (b := false) rfl (decide_eq_false (Int32.not_le.mpr hc_27)) rfl ?_
        refine st_go 3 (pc' := 161) (lo' := [(4, .int y_14), (3, .int r_11), (0, .ref 42), (1, .int x1), (2, .int x2)]) (st' := [.int x1, .int (gF d_10 42 35)]) rfl ?_
        by_cases hc_28 : (gF d_10 42 35) = x1
        · have h := Eq.mp (if_pos hc_28) h
          refine st_icmp (t := 164) (b := false) rfl (decide_eq_false (fun z => z hc_28)) rfl ?_
          refine st_go 2 (pc' := 166) (lo' := [(4, .int y_14), (3, .int r_11), (0, .ref 42), (1, .int x1), (2, .int x2)]) (st' := [.int r_11, .ref 42]) rfl ?_
          refine st_putIR (o := 42) (f := 55) rfl rfl rfl rfl rfl (fun d_29 hy_d_29 => ?_)
          have h := h d_29 hy_d_29
          refine st_go 3 (pc' := 174) (lo' := [(4, .int y_14), (3, .int r_11), (0, .ref 42), (1, .int x1), (2, .int x2)]) (st' := [.int 1, .int (gF d_29 42 34)]) rfl ?_
          by_cases hc_30 : (gF d_29 42 34) = 1
          · have h := Eq.mp (if_pos hc_30) h
            refine st_icmp (t := 177) (b := false) rfl (decide_eq_false (fun z => z hc_30)) rfl ?_
            refine st_go 1 (pc' := 178) (lo' := [(4, .int y_14), (3, .int r_11), (0, .ref 42), (1, .int x1), (2, .int x2)]) (st' := [.int r_11]) rfl ?_
            by_cases hc_31 : r_11 < 0
            · have h := Eq.mp (if_pos hc_31) h
              refine st_if (t := 191) (b := true) rfl (decide_eq_true hc_31) rfl ?_
              refine vmWp.sub (lo' := [(0, .ref 42), (4, .int y_14)]) ⟨rfl, rfl, trivial⟩ ?_
              exact tMO_work_191 hQ y_14 d_29 h
            · have h := Eq.mp (if_neg hc_31) h
              refine st_if (t := 181) (b := false) rfl (decide_eq_false hc_31) rfl ?_
              refine st_go 2 (pc' := 184) (lo' := [(4, .int y_14), (3, .int r_11), (0, .ref 42), (1, .int x1), (2, .int x2)]) (st' := [.int 7, .int r_11]) rfl ?_
              by_cases hc_36 : (7 : Int32) < r_11
              · have h := Eq.mp (if_pos hc_36) h
                refine st_icmp (t := 191) (b := true) rfl (decide_eq_true hc_36) rfl ?_
                refine vmWp.sub (lo' := [(0, .ref 42), (4, .int y_14)]) ⟨rfl, rfl, trivial⟩ ?_
                exact tMO_work_191 hQ y_14 d_29 h
              · have h := Eq.mp (if_neg hc_36) h
                refine st_icmp (t := 187) (b := false) rfl (decide_eq_false hc_36) rfl ?_
                refine st_go 2 (pc' := 242) (lo' := [(4, .int y_14), (3, .int r_11), (0, .ref 42), (1, .int x1), (2, .int x2)]) (st' := [.int 1]) rfl ?_
                refine vmWp.sub (lo' := [(0, .ref 42), (4, .int y_14)]) ⟨rfl, rfl, trivial⟩ ?_
                exact tMO_work_242 hQ y_14 1 d_29 h
          · have h := Eq.mp (if_neg hc_30) h
            refine st_icmp (t := 195) (b := true) rfl (decide_eq_true hc_30) rfl ?_
            refine st_go 3 (pc' := 200) (lo' := [(4, .int y_14), (3, .int r_11), (0, .ref 42), (1, .int x1), (2, .int x2)]) (st' := [.int 2, .int (gF d_29 42 34)]) rfl ?_
            by_cases hc_37 : (gF d_29 42 34) = 2
            · have h := Eq.mp (if_pos hc_37) h
              refine st_icmp (t := 203) (b := false) rfl (decide_eq_false (fun z => z hc_37)) rfl ?_
              refine st_go 1 (pc' := 204) (lo' := [(4, .int y_14), (3, .int r_11), (0, .ref 42), (1, .int x1), (2, .int x2)]) (st' := [.int r_11]) rfl ?_
              by_cases hc_38 : r_11 < 0
              · have h := Eq.mp (if_pos hc_38) h
                refine st_if (t := 224) (b := true) rfl (decide_eq_true hc_38) rfl ?_
                refine vmWp.sub (lo' := [(0, .ref 42), (4, .int y_14)]) ⟨rfl, rfl, trivial⟩ ?_
                exact tMO_work_224 hQ y_14 d_29 h
              · have h := Eq.mp (if_neg hc_38) h
                refine st_if (t := 207) (b := false) rfl (decide_eq_false hc_38) rfl ?_
                refine st_go 2 (pc' := 210) (lo' := [(4, .int y_14), (3, .int r_11), (0, .ref 42), (1, .int x1), (2, .int x2)]) (st' := [.int 56, .int r_11]) rfl ?_
                by_cases hc_39 : (56 : Int32) < r_11
                · have h := Eq.mp (if_pos hc_39) h
                  refine st_icmp (t := 224) (b := true) rfl (decide_eq_true hc_39) rfl ?_
                  refine vmWp.sub (lo' := [(0, .ref 42), (4, .int y_14)]) ⟨rfl, rfl, trivial⟩ ?_
                  exact tMO_work_224 hQ y_14 d_29 h
                · have h := Eq.mp (if_neg hc_39) h
                  refine st_icmp (t := 213) (b := false) rfl (decide_eq_false hc_39) rfl ?_
                  refine st_go 2 (pc' := 216) (lo' := [(4, .int y_14), (3, .int r_11), (0, .ref 42), (1, .int x1), (2, .int x2)]) (st' := [.int 8, .int r_11]) rfl ?_
                  refine st_irem rfl (by decide) ?_
                  by_cases hc_40 : (r_11 - r_11 / 8 * 8) = 0
                  · have h := Eq.mp (if_pos hc_40) h
                    refine st_if (t := 220) (b := false) rfl (decide_eq_false (fun z => z hc_40)) rfl ?_
                    refine st_go 2 (pc' := 242) (lo' := [(4, .int y_14), (3, .int r_11), (0, .ref 42), (1, .int x1), (2, .int x2)]) (st' := [.int 1]) rfl ?_
                    refine vmWp.sub (lo' := [(0, .ref 42), (4, .int y_14)]) ⟨rfl, rfl, trivial⟩ ?_
                    exact tMO_work_242 hQ y_14 1 d_29 h
                  · have h := Eq.mp (if_neg hc_40) h
                    refine st_if (t := 224) (b := true) rfl (decide_eq_true hc_40) rfl ?_
                    refine vmWp.sub (lo' := [(0, .ref 42), (4, .int y_14)]) ⟨rfl, rfl, trivial⟩ ?_
                    exact tMO_work_224 hQ y_14 d_29 h
            · have h := Eq.mp (if_neg hc_37) h
              refine st_icmp (t := 228) (b := true) rfl (decide_eq_true hc_37) rfl ?_
              refine st_go 1 (pc' := 229) (lo' := [(4, .int y_14), (3, .int r_11), (0, .ref 42), (1, .int x1), (2, .int x2)]) (st' := [.int r_11]) rfl ?_
              by_cases hc_41 : r_11 < 0
              · have h := Eq.mp (if_pos hc_41) h
                refine st_if (t := 241) (b := true) rfl (decide_eq_true hc_41) rfl ?_
                refine vmWp.sub (lo' := [(0, .ref 42), (4, .int y_14)]) ⟨rfl, rfl, trivial⟩ ?_
                exact tMO_work_241 hQ y_14 d_29 h
              · have h := Eq.mp (if_neg hc_41) h
                refine st_if (t := 232) (b := false) rfl (decide_eq_false hc_41) rfl ?_
                refine st_go 2 (pc' := 234) (lo' := [(4, .int y_14), (3, .int r_11), (0, .ref 42), (1, .int x1), (2, .int x2)]) (st' := [.int 2, .int r_11]) rfl ?_
                by_cases hc_42 : (2 : Int32) < r_11
                · have h := Eq.mp (if_pos hc_42) h
                  refine st_icmp (t := 241) (b := true) rfl (decide_eq_true hc_42) rfl ?_
                  refine vmWp.sub (lo' := [(0, .ref 42), (4, .int y_14)]) ⟨rfl, rfl, trivial⟩ ?_
                  exact tMO_work_241 hQ y_14 d_29 h
                · have h := Eq.mp (if_neg hc_42) h
                  refine st_icmp (t := 237) (b := false) rfl (decide_eq_false hc_42) rfl ?_
                  refine st_go 2 (pc' := 242) (lo' := [(4, .int y_14), (3, .int r_11), (0, .ref 42), (1, .int x1), (2, .int x2)]) (st' := [.int 1]) rfl ?_
                  refine vmWp.sub (lo' := [(0, .ref 42), (4, .int y_14)]) ⟨rfl, rfl, trivial⟩ ?_
                  exact tMO_work_242 hQ y_14 1 d_29 h
        · have h := Eq.mp (if_neg hc_28) h
          refine st_icmp (t := 265) (b := true) rfl (decide_eq_true hc_28) rfl ?_
          refine vmWp.sub (lo' := [(0, .ref 42), (2, .int x2), (3, .int r_11), (4, .int y_14)]) ⟨rfl, rfl, rfl, rfl, trivial⟩ ?_
          exact tMO_work_265 hQ x2 r_11 y_14 d_10 h
      · have h := Eq.mp (if_neg hc_27) h
        refine st_if (t := 265) (b := true) rfl (decide_eq_true (Int32.not_lt.mp hc_27)) rfl ?_
        refine vmWp.sub (lo' := [(0, .ref 42), (2, .int x2), (3, .int r_11), (4, .int y_14)]) ⟨rfl, rfl, rfl, rfl, trivial⟩ ?_
        exact tMO_work_265 hQ x2 r_11 y_14 d_10 h
set_option maxRecDepth 100000 in
def MO_work_27 (x1 : Int32) (x2 : Int32) (d : vmD) (Q : Int32 → vmD → Prop) : Prop :=
  ixOk x1 8 ∧
  bnd (gA d 50 x1.toNatClampNeg) fun y_8 =>
  if y_8 = 16 then
  (MO_work_62 x1 x2 d Q)
  else
  (ixOk x1 8 ∧
  bnd (gA d 50 x1.toNatClampNeg) fun y_64 =>
  if y_64 = 15 then
  (MO_work_62 x1 x2 d Q)
  else
  (ixOk x1 8 ∧
  bnd (gA d 50 x1.toNatClampNeg) fun y_67 =>
  if y_67 = 14 then
  (MO_work_62 x1 x2 d Q)
  else
  (Q 1 d)))
set_option maxRecDepth 100000 in
set_option maxHeartbeats 4000000 in
theorem tMO_work_27 {L : Nat} {e : vmD} {Qo : Option Value → vmW → Prop} {Q : Int32 → vmD → Prop} (hQ : ∀ r d, Q r d → Qo (some (.int r)) (wR L d e)) (x1 : Int32) (x2 : Int32) (d : vmD) (h : MO_work_27 x1 x2 d Q) : vmWp 308 27 [(0, .ref 42), (1, .int x1), (2, .int x2)] [] (wR L d e) Qo := by
  unfold MO_work_27 at h
  refine st_go 3 (pc' := 32) (lo' := [(0, .ref 42), (1, .int x1), (2, .int x2)]) (st' := [.int x1, .ref 50]) rfl ?_
  obtain ⟨hj_7, h⟩ := h
  refine st_ialdR (o := 50) rfl rfl hj_7 rfl (fun y_8 hy_y_8 => ?_)
  have h := h y_8 hy_y_8
  refine st_go 1 (pc' := 35) (lo' := [(0, .ref 42), (1, .int x1), (2, .int x2)]) (st' := [.int 16, .int y_8]) rfl ?_
  by_cases hc_9 : y_8 = 16
  · have h := Eq.mp (if_pos hc_9) h
    refine st_icmp (t := 62) (b := true) rfl (decide_eq_true hc_9) rfl ?_
    refine vmWp.sub (lo' := [(0, .ref 42), (1, .int x1), (2, .int x2)]) ⟨rfl, rfl, rfl, trivial⟩ ?_
    exact tMO_work_62 hQ x1 x2 d h
  · have h := Eq.mp (if_neg hc_9) h
    refine st_icmp (t := 38) (b := false) rfl (decide_eq_false hc_9) rfl ?_
    refine st_go 3 (pc' := 43) (lo' := [(0, .ref 42), (1, .int x1), (2, .int x2)]) (st' := [.int x1, .ref 50]) rfl ?_
    obtain ⟨hj_63, h⟩ := h
    refine st_ialdR (o := 50) rfl rfl hj_63 rfl (fun y_64 hy_y_64 => ?_)
    have h := h y_64 hy_y_64
    refine st_go 1 (pc' := 46) (lo' := [(0, .ref 42), (1, .int x1), (2, .int x2)]) (st' := [.int 15, .int y_64]) rfl ?_
    by_cases hc_65 : y_64 = 15
    · have h := Eq.mp (if_pos hc_65) h
      refine st_icmp (t := 62) (b := true) rfl (decide_eq_true hc_65) rfl ?_
      refine vmWp.sub (lo' := [(0, .ref 42), (1, .int x1), (2, .int x2)]) ⟨rfl, rfl, rfl, trivial⟩ ?_
      exact tMO_work_62 hQ x1 x2 d h
    · have h := Eq.mp (if_neg hc_65) h
      refine st_icmp (t := 49) (b := false) rfl (decide_eq_false hc_65) rfl ?_
      refine st_go 3 (pc' := 54) (lo' := [(0, .ref 42), (1, .int x1), (2, .int x2)]) (st' := [.int x1, .ref 50]) rfl ?_
      obtain ⟨hj_66, h⟩ := h
      refine st_ialdR (o := 50) rfl rfl hj_66 rfl (fun y_67 hy_y_67 => ?_)
      have h := h y_67 hy_y_67
      refine st_go 1 (pc' := 57) (lo' := [(0, .ref 42), (1, .int x1), (2, .int x2)]) (st' := [.int 14, .int y_67]) rfl ?_
      by_cases hc_68 : y_67 = 14
      · have h := Eq.mp (if_pos hc_68) h
        refine st_icmp (t := 62) (b := true) rfl (decide_eq_true hc_68) rfl ?_
        refine vmWp.sub (lo' := [(0, .ref 42), (1, .int x1), (2, .int x2)]) ⟨rfl, rfl, rfl, trivial⟩ ?_
        exact tMO_work_62 hQ x1 x2 d h
      · have h := Eq.mp (if_neg hc_68) h
        refine st_icmp (t := 60) (b := false) rfl (decide_eq_false hc_68) rfl ?_
        refine st_go 1 (pc' := 61) (lo' := [(0, .ref 42), (1, .int x1), (2, .int x2)]) (st' := [.int 1]) rfl ?_
        exact st_retZ rfl rfl (Or.inr rfl) (hQ _ _ h)
set_option maxRecDepth 100000 in
def MO_work (x1 : Int32) (x2 : Int32) (d : vmD) (Q : Int32 → vmD → Prop) : Prop :=
  ixOk x1 8 ∧
  bnd (gA d 50 x1.toNatClampNeg) fun y_2 =>
  if y_2 = 14 then
  (ixOk x1 8 ∧
  bnd (gA d 54 x1.toNatClampNeg) fun y_5 =>
  if y_5 = 0 then
  (MO_work_27 x1 x2 d Q)
  else
  (bnd (sF d 42 56 0) fun d_69 =>
  Q 1 d_69))
  else
  (MO_work_27 x1 x2 d Q)
set_option maxRecDepth 100000 in
set_option maxHeartbeats 4000000 in
theorem tMO_work {L : Nat} {e : vmD} {Qo : Option Value → vmW → Prop} {Q : Int32 → vmD → Prop} (hQ : ∀ r d, Q r d → Qo (some (.int r)) (wR L d e)) (x1 : Int32) (x2 : Int32) (d : vmD) (h : MO_work x1 x2 d Q) : vmWp 308 0 [(0, .ref 42), (1, .int x1), (2, .int x2)] [] (wR L d e) Qo := by
  unfold MO_work at h
  refine st_go 3 (pc' := 5) (lo' := [(0, .ref 42), (1, .int x1), (2, .int x2)]) (st' := [.int x1, .ref 50]) rfl ?_
  obtain ⟨hj_1, h⟩ := h
  refine st_ialdR (o := 50) rfl rfl hj_1 rfl (fun y_2 hy_y_2 => ?_)
  have h := h y_2 hy_y_2
  refine st_go 1 (pc' := 8) (lo' := [(0, .ref 42), (1, .int x1), (2, .int x2)]) (st' := [.int 14, .int y_2]) rfl ?_
  by_cases hc_3 : y_2 = 14
  · have h := Eq.mp (if_pos hc_3) h
    refine st_icmp (t := 11) (b := false) rfl (decide_eq_false (fun z => z hc_3)) rfl ?_
    refine st_go 3 (pc' := 16) (lo' := [(0, .ref 42), (1, .int x1), (2, .int x2)]) (st' := [.int x1, .ref 54]) rfl ?_
    obtain ⟨hj_4, h⟩ := h
    refine st_zaldR (o := 54) rfl rfl hj_4 rfl (fun y_5 hy_y_5 => ?_)
    have h := h y_5 hy_y_5
    by_cases hc_6 : y_5 = 0
    · have h := Eq.mp (if_pos hc_6) h
      refine st_if (t := 27) (b := true) rfl (decide_eq_true hc_6) rfl ?_
      refine vmWp.sub (lo' := [(0, .ref 42), (1, .int x1), (2, .int x2)]) ⟨rfl, rfl, rfl, trivial⟩ ?_
      exact tMO_work_27 hQ x1 x2 d h
    · have h := Eq.mp (if_neg hc_6) h
      refine st_if (t := 20) (b := false) rfl (decide_eq_false hc_6) rfl ?_
      refine st_go 2 (pc' := 22) (lo' := [(0, .ref 42), (1, .int x1), (2, .int x2)]) (st' := [.int 0, .ref 42]) rfl ?_
      refine st_putIR (o := 42) (f := 56) rfl rfl rfl rfl rfl (fun d_69 hy_d_69 => ?_)
      have h := h d_69 hy_d_69
      refine st_go 1 (pc' := 26) (lo' := [(0, .ref 42), (1, .int x1), (2, .int x2)]) (st' := [.int 1]) rfl ?_
      exact st_retZ rfl rfl (Or.inr rfl) (hQ _ _ h)
  · have h := Eq.mp (if_neg hc_3) h
    refine st_icmp (t := 27) (b := true) rfl (decide_eq_true hc_3) rfl ?_
    refine vmWp.sub (lo' := [(0, .ref 42), (1, .int x1), (2, .int x2)]) ⟨rfl, rfl, rfl, trivial⟩ ?_
    exact tMO_work_27 hQ x1 x2 d h
set_option maxRecDepth 100000 in
def MO_lay_32 (d : vmD) (Q : vmD → Prop) : Prop :=
  bnd (sF d 42 39 ((gF d 42 39) + 1)) fun d_5 =>
  bnd (sF d_5 42 20 ((gF d_5 42 20) + 1)) fun d_6 =>
  Q d_6
set_option maxRecDepth 100000 in
set_option maxHeartbeats 4000000 in
theorem tMO_lay_32 {L : Nat} {e : vmD} {Qo : Option Value → vmW → Prop} {Q : vmD → Prop} (hQ : ∀ d, Q d → Qo none (wR L d e)) (d : vmD) (h : MO_lay_32 d Q) : vmWp 300 32 [(0, .ref 42)] [] (wR L d e) Qo := by
  unfold MO_lay_32 at h
  refine st_go 5 (pc' := 39) (lo' := [(0, .ref 42)]) (st' := [.int ((gF d 42 39) + 1), .ref 42]) rfl ?_
  refine st_putIR (o := 42) (f := 39) rfl rfl rfl rfl rfl (fun d_5 hy_d_5 => ?_)
  have h := h d_5 hy_d_5
  refine st_go 5 (pc' := 49) (lo' := [(0, .ref 42)]) (st' := [.int ((gF d_5 42 20) + 1), .ref 42]) rfl ?_
  refine st_putIR (o := 42) (f := 20) rfl rfl rfl rfl rfl (fun d_6 hy_d_6 => ?_)
  have h := h d_6 hy_d_6
  exact st_retV rfl rfl (hQ _ h)
set_option maxRecDepth 100000 in
def MO_lay (x1 : Int32) (d : vmD) (Q : vmD → Prop) : Prop :=
  ixOk ((gF d 42 20) &&& 65535) 65536 ∧
  bnd (sA d 56 ((gF d 42 20) &&& 65535).toNatClampNeg (x1 &&& 255)) fun d_2 =>
  if (gF d_2 42 39) = 0 then
  (bnd (sF d_2 42 40 (gF d_2 42 20)) fun d_4 =>
  MO_lay_32 d_4 Q)
  else
  (MO_lay_32 d_2 Q)
set_option maxRecDepth 100000 in
set_option maxHeartbeats 4000000 in
theorem tMO_lay {L : Nat} {e : vmD} {Qo : Option Value → vmW → Prop} {Q : vmD → Prop} (hQ : ∀ d, Q d → Qo none (wR L d e)) (x1 : Int32) (d : vmD) (h : MO_lay x1 d Q) : vmWp 300 0 [(0, .ref 42), (1, .int x1)] [] (wR L d e) Qo := by
  unfold MO_lay at h
  refine st_go 9 (pc' := 16) (lo' := [(0, .ref 42), (1, .int x1)]) (st' := [.int (x1 &&& 255), .int ((gF d 42 20) &&& 65535), .ref 56]) rfl ?_
  obtain ⟨hj_1, h⟩ := h
  refine st_iastR (o := 56) rfl rfl hj_1 rfl (fun d_2 hy_d_2 => ?_)
  have h := h d_2 hy_d_2
  refine st_go 2 (pc' := 21) (lo' := [(0, .ref 42), (1, .int x1)]) (st' := [.int (gF d_2 42 39)]) rfl ?_
  by_cases hc_3 : (gF d_2 42 39) = 0
  · have h := Eq.mp (if_pos hc_3) h
    refine st_if (t := 24) (b := false) rfl (decide_eq_false (fun z => z hc_3)) rfl ?_
    refine st_go 3 (pc' := 29) (lo' := [(0, .ref 42), (1, .int x1)]) (st' := [.int (gF d_2 42 20), .ref 42]) rfl ?_
    refine st_putIR (o := 42) (f := 40) rfl rfl rfl rfl rfl (fun d_4 hy_d_4 => ?_)
    have h := h d_4 hy_d_4
    refine vmWp.sub (lo' := [(0, .ref 42)]) ⟨rfl, trivial⟩ ?_
    exact tMO_lay_32 hQ d_4 h
  · have h := Eq.mp (if_neg hc_3) h
    refine st_if (t := 32) (b := true) rfl (decide_eq_true hc_3) rfl ?_
    refine vmWp.sub (lo' := [(0, .ref 42)]) ⟨rfl, trivial⟩ ?_
    exact tMO_lay_32 hQ d_2 h
set_option maxRecDepth 100000 in
def MO_layInstruction_207 (d : vmD) (Q : Int32 → vmD → Prop) : Prop :=
  if (gF d 42 32) = 2 then
  (MO_lay ((gF d 42 57) >>> ((8 : Int32) &&& 31)) d fun d_24 =>
  Q 1 d_24)
  else
  (Q 1 d)
set_option maxRecDepth 100000 in
set_option maxHeartbeats 4000000 in
theorem tMO_layInstruction_207 {L : Nat} {e : vmD} {Qo : Option Value → vmW → Prop} {Q : Int32 → vmD → Prop} (hQ : ∀ r d, Q r d → Qo (some (.int r)) (wR L d e)) (d : vmD) (h : MO_layInstruction_207 d Q) : vmWp 309 207 [(0, .ref 42)] [] (wR L d e) Qo := by
  unfold MO_layInstruction_207 at h
  refine st_go 3 (pc' := 212) (lo' := [(0, .ref 42)]) (st' := [.int 2, .int (gF d 42 32)]) rfl ?_
  by_cases hc_23 : (gF d 42 32) = 2
  · have h := Eq.mp (if_pos hc_23) h
    refine st_icmp (t := 215) (b := false) rfl (decide_eq_false (fun z => z hc_23)) rfl ?_
    refine st_go 5 (pc' := 223) (lo' := [(0, .ref 42)]) (st' := [.int ((gF d 42 57) >>> ((8 : Int32) &&& 31)), .ref 42]) rfl ?_
    refine st_callv (k' := 300) (as := [.ref 42, .int ((gF d 42 57) >>> ((8 : Int32) &&& 31))]) (rest := []) (lo' := [(0, .ref 42), (1, .int ((gF d 42 57) >>> ((8 : Int32) &&& 31)))]) (wf := fun d => wR L d e) rfl rfl rfl ?_
    refine tMO_lay (fun d_24 h => ⟨d_24, rfl, rfl, ?_⟩) ((gF d 42 57) >>> ((8 : Int32) &&& 31)) d h
    refine st_go 1 (pc' := 227) (lo' := [(0, .ref 42)]) (st' := [.int 1]) rfl ?_
    exact st_retZ rfl rfl (Or.inr rfl) (hQ _ _ h)
  · have h := Eq.mp (if_neg hc_23) h
    refine st_icmp (t := 226) (b := true) rfl (decide_eq_true hc_23) rfl ?_
    refine st_go 1 (pc' := 227) (lo' := [(0, .ref 42)]) (st' := [.int 1]) rfl ?_
    exact st_retZ rfl rfl (Or.inr rfl) (hQ _ _ h)
set_option maxRecDepth 100000 in
def MO_layInstruction_192 (d : vmD) (Q : Int32 → vmD → Prop) : Prop :=
  if (0 : Int32) < (gF d 42 32) then
  (MO_lay (gF d 42 57) d fun d_22 =>
  MO_layInstruction_207 d_22 Q)
  else
  (MO_layInstruction_207 d Q)
set_option maxRecDepth 100000 in
set_option maxHeartbeats 4000000 in
theorem tMO_layInstruction_192 {L : Nat} {e : vmD} {Qo : Option Value → vmW → Prop} {Q : Int32 → vmD → Prop} (hQ : ∀ r d, Q r d → Qo (some (.int r)) (wR L d e)) (d : vmD) (h : MO_layInstruction_192 d Q) : vmWp 309 192 [(0, .ref 42)] [] (wR L d e) Qo := by
  unfold MO_layInstruction_192 at h
  refine st_go 2 (pc' := 196) (lo' := [(0, .ref 42)]) (st' := [.int (gF d 42 32)]) rfl ?_
  by_cases hc_21 : (0 : Int32) < (gF d 42 32)
  · have h := Eq.mp (if_pos hc_21) h
    refine st_if (t := 199) (b := false) rfl (decide_eq_false (Int32.not_le.mpr hc_21)) rfl ?_
    refine st_go 3 (pc' := 204) (lo' := [(0, .ref 42)]) (st' := [.int (gF d 42 57), .ref 42]) rfl ?_
    refine st_callv (k' := 300) (as := [.ref 42, .int (gF d 42 57)]) (rest := []) (lo' := [(0, .ref 42), (1, .int (gF d 42 57))]) (wf := fun d => wR L d e) rfl rfl rfl ?_
    refine tMO_lay (fun d_22 h => ⟨d_22, rfl, rfl, ?_⟩) (gF d 42 57) d h
    refine vmWp.sub (lo' := [(0, .ref 42)]) ⟨rfl, trivial⟩ ?_
    exact tMO_layInstruction_207 hQ d_22 h
  · have h := Eq.mp (if_neg hc_21) h
    refine st_if (t := 207) (b := true) rfl (decide_eq_true (Int32.not_lt.mp hc_21)) rfl ?_
    refine vmWp.sub (lo' := [(0, .ref 42)]) ⟨rfl, trivial⟩ ?_
    exact tMO_layInstruction_207 hQ d h
set_option maxRecDepth 100000 in
def MO_layInstruction_166 (s0 : Int32) (s1 : Int32) (d : vmD) (Q : Int32 → vmD → Prop) : Prop :=
  MO_lay (s1 + s0) d fun d_19 =>
  if (gF d_19 42 36) < 0 then
  (MO_layInstruction_192 d_19 Q)
  else
  (if (gF d_19 42 30) = 0 then
  (MO_lay (gF d_19 42 56) d_19 fun d_26 =>
  MO_layInstruction_192 d_26 Q)
  else
  (MO_layInstruction_192 d_19 Q))
set_option maxRecDepth 100000 in
set_option maxHeartbeats 4000000 in
theorem tMO_layInstruction_166 {L : Nat} {e : vmD} {Qo : Option Value → vmW → Prop} {Q : Int32 → vmD → Prop} (hQ : ∀ r d, Q r d → Qo (some (.int r)) (wR L d e)) (s0 : Int32) (s1 : Int32) (d : vmD) (h : MO_layInstruction_166 s0 s1 d Q) : vmWp 309 166 [(0, .ref 42)] [.int s0, .int s1, .ref 42] (wR L d e) Qo := by
  unfold MO_layInstruction_166 at h
  refine st_go 1 (pc' := 167) (lo' := [(0, .ref 42)]) (st' := [.int (s1 + s0), .ref 42]) rfl ?_
  refine st_callv (k' := 300) (as := [.ref 42, .int (s1 + s0)]) (rest := []) (lo' := [(0, .ref 42), (1, .int (s1 + s0))]) (wf := fun d => wR L d e) rfl rfl rfl ?_
  refine tMO_lay (fun d_19 h => ⟨d_19, rfl, rfl, ?_⟩) (s1 + s0) d h
  refine st_go 2 (pc' := 174) (lo' := [(0, .ref 42)]) (st' := [.int (gF d_19 42 36)]) rfl ?_
  by_cases hc_20 : (gF d_19 42 36) < 0
  · have h := Eq.mp (if_pos hc_20) h
    refine st_if (t := 192) (b := true) rfl (decide_eq_true hc_20) rfl ?_
    refine vmWp.sub (lo' := [(0, .ref 42)]) ⟨rfl, trivial⟩ ?_
    exact tMO_layInstruction_192 hQ d_19 h
  · have h := Eq.mp (if_neg hc_20) h
    refine st_if (t := 177) (b := false) rfl (decide_eq_false hc_20) rfl ?_
    refine st_go 2 (pc' := 181) (lo' := [(0, .ref 42)]) (st' := [.int (gF d_19 42 30)]) rfl ?_
    by_cases hc_25 : (gF d_19 42 30) = 0
    · have h := Eq.mp (if_pos hc_25) h
      refine st_if (t := 184) (b := false) rfl (decide_eq_false (fun z => z hc_25)) rfl ?_
      refine st_go 3 (pc' := 189) (lo' := [(0, .ref 42)]) (st' := [.int (gF d_19 42 56), .ref 42]) rfl ?_
      refine st_callv (k' := 300) (as := [.ref 42, .int (gF d_19 42 56)]) (rest := []) (lo' := [(0, .ref 42), (1, .int (gF d_19 42 56))]) (wf := fun d => wR L d e) rfl rfl rfl ?_
      refine tMO_lay (fun d_26 h => ⟨d_26, rfl, rfl, ?_⟩) (gF d_19 42 56) d_19 h
      refine vmWp.sub (lo' := [(0, .ref 42)]) ⟨rfl, trivial⟩ ?_
      exact tMO_layInstruction_192 hQ d_26 h
    · have h := Eq.mp (if_neg hc_25) h
      refine st_if (t := 192) (b := true) rfl (decide_eq_true hc_25) rfl ?_
      refine vmWp.sub (lo' := [(0, .ref 42)]) ⟨rfl, trivial⟩ ?_
      exact tMO_layInstruction_192 hQ d_19 h
set_option maxRecDepth 100000 in
def MO_layInstruction_148 (s0 : Int32) (s1 : Int32) (s2 : Int32) (d : vmD) (Q : Int32 → vmD → Prop) : Prop :=
  if (gF d 42 34) = 2 then
  (MO_layInstruction_166 (gF d 42 55) (s2 + (s1 * s0)) d Q)
  else
  (MO_layInstruction_166 0 (s2 + (s1 * s0)) d Q)
set_option maxRecDepth 100000 in
set_option maxHeartbeats 4000000 in
theorem tMO_layInstruction_148 {L : Nat} {e : vmD} {Qo : Option Value → vmW → Prop} {Q : Int32 → vmD → Prop} (hQ : ∀ r d, Q r d → Qo (some (.int r)) (wR L d e)) (s0 : Int32) (s1 : Int32) (s2 : Int32) (d : vmD) (h : MO_layInstruction_148 s0 s1 s2 d Q) : vmWp 309 148 [(0, .ref 42)] [.int s0, .int s1, .int s2, .ref 42] (wR L d e) Qo := by
  unfold MO_layInstruction_148 at h
  refine st_go 5 (pc' := 155) (lo' := [(0, .ref 42)]) (st' := [.int 2, .int (gF d 42 34), .int (s2 + (s1 * s0)), .ref 42]) rfl ?_
  by_cases hc_18 : (gF d 42 34) = 2
  · have h := Eq.mp (if_pos hc_18) h
    refine st_icmp (t := 158) (b := false) rfl (decide_eq_false (fun z => z hc_18)) rfl ?_
    refine st_go 3 (pc' := 166) (lo' := [(0, .ref 42)]) (st' := [.int (gF d 42 55), .int (s2 + (s1 * s0)), .ref 42]) rfl ?_
    refine vmWp.sub (lo' := [(0, .ref 42)]) ⟨rfl, trivial⟩ ?_
    exact tMO_layInstruction_166 hQ (gF d 42 55) (s2 + (s1 * s0)) d h
  · have h := Eq.mp (if_neg hc_18) h
    refine st_icmp (t := 165) (b := true) rfl (decide_eq_true hc_18) rfl ?_
    refine st_go 1 (pc' := 166) (lo' := [(0, .ref 42)]) (st' := [.int 0, .int (s2 + (s1 * s0)), .ref 42]) rfl ?_
    refine vmWp.sub (lo' := [(0, .ref 42)]) ⟨rfl, trivial⟩ ?_
    exact tMO_layInstruction_166 hQ 0 (s2 + (s1 * s0)) d h
set_option maxRecDepth 100000 in
def MO_layInstruction_123 (d : vmD) (Q : Int32 → vmD → Prop) : Prop :=
  if (gF d 42 34) = 2 then
  (MO_layInstruction_148 0 ((8 : Int32) * (gF d 42 55)) (gF d 42 31) d Q)
  else
  (MO_layInstruction_148 1 ((8 : Int32) * (gF d 42 55)) (gF d 42 31) d Q)
set_option maxRecDepth 100000 in
set_option maxHeartbeats 4000000 in
theorem tMO_layInstruction_123 {L : Nat} {e : vmD} {Qo : Option Value → vmW → Prop} {Q : Int32 → vmD → Prop} (hQ : ∀ r d, Q r d → Qo (some (.int r)) (wR L d e)) (d : vmD) (h : MO_layInstruction_123 d Q) : vmWp 309 123 [(0, .ref 42)] [] (wR L d e) Qo := by
  unfold MO_layInstruction_123 at h
  refine st_go 10 (pc' := 140) (lo' := [(0, .ref 42)]) (st' := [.int 2, .int (gF d 42 34), .int ((8 : Int32) * (gF d 42 55)), .int (gF d 42 31), .ref 42]) rfl ?_
  by_cases hc_17 : (gF d 42 34) = 2
  · have h := Eq.mp (if_pos hc_17) h
    refine st_icmp (t := 143) (b := false) rfl (decide_eq_false (fun z => z hc_17)) rfl ?_
    refine st_go 2 (pc' := 148) (lo' := [(0, .ref 42)]) (st' := [.int 0, .int ((8 : Int32) * (gF d 42 55)), .int (gF d 42 31), .ref 42]) rfl ?_
    refine vmWp.sub (lo' := [(0, .ref 42)]) ⟨rfl, trivial⟩ ?_
    exact tMO_layInstruction_148 hQ 0 ((8 : Int32) * (gF d 42 55)) (gF d 42 31) d h
  · have h := Eq.mp (if_neg hc_17) h
    refine st_icmp (t := 147) (b := true) rfl (decide_eq_true hc_17) rfl ?_
    refine st_go 1 (pc' := 148) (lo' := [(0, .ref 42)]) (st' := [.int 1, .int ((8 : Int32) * (gF d 42 55)), .int (gF d 42 31), .ref 42]) rfl ?_
    refine vmWp.sub (lo' := [(0, .ref 42)]) ⟨rfl, trivial⟩ ?_
    exact tMO_layInstruction_148 hQ 1 ((8 : Int32) * (gF d 42 55)) (gF d 42 31) d h
set_option maxRecDepth 100000 in
def MO_layInstruction_101 (d : vmD) (Q : Int32 → vmD → Prop) : Prop :=
  if (gF d 42 36) < 0 then
  (MO_layInstruction_123 d Q)
  else
  (if (0 : Int32) < (gF d 42 30) then
  (MO_lay (gF d 42 56) d fun d_28 =>
  MO_layInstruction_123 d_28 Q)
  else
  (MO_layInstruction_123 d Q))
set_option maxRecDepth 100000 in
set_option maxHeartbeats 4000000 in
theorem tMO_layInstruction_101 {L : Nat} {e : vmD} {Qo : Option Value → vmW → Prop} {Q : Int32 → vmD → Prop} (hQ : ∀ r d, Q r d → Qo (some (.int r)) (wR L d e)) (d : vmD) (h : MO_layInstruction_101 d Q) : vmWp 309 101 [(0, .ref 42)] [] (wR L d e) Qo := by
  unfold MO_layInstruction_101 at h
  refine st_go 2 (pc' := 105) (lo' := [(0, .ref 42)]) (st' := [.int (gF d 42 36)]) rfl ?_
  by_cases hc_16 : (gF d 42 36) < 0
  · have h := Eq.mp (if_pos hc_16) h
    refine st_if (t := 123) (b := true) rfl (decide_eq_true hc_16) rfl ?_
    refine vmWp.sub (lo' := [(0, .ref 42)]) ⟨rfl, trivial⟩ ?_
    exact tMO_layInstruction_123 hQ d h
  · have h := Eq.mp (if_neg hc_16) h
    refine st_if (t := 108) (b := false) rfl (decide_eq_false hc_16) rfl ?_
    refine st_go 2 (pc' := 112) (lo' := [(0, .ref 42)]) (st' := [.int (gF d 42 30)]) rfl ?_
    by_cases hc_27 : (0 : Int32) < (gF d 42 30)
    · have h := Eq.mp (if_pos hc_27) h
      refine st_if (t := 115) (b := false) rfl (decide_eq_false (Int32.not_le.mpr hc_27)) rfl ?_
      refine st_go 3 (pc' := 120) (lo' := [(0, .ref 42)]) (st' := [.int (gF d 42 56), .ref 42]) rfl ?_
      refine st_callv (k' := 300) (as := [.ref 42, .int (gF d 42 56)]) (rest := []) (lo' := [(0, .ref 42), (1, .int (gF d 42 56))]) (wf := fun d => wR L d e) rfl rfl rfl ?_
      refine tMO_lay (fun d_28 h => ⟨d_28, rfl, rfl, ?_⟩) (gF d 42 56) d h
      refine vmWp.sub (lo' := [(0, .ref 42)]) ⟨rfl, trivial⟩ ?_
      exact tMO_layInstruction_123 hQ d_28 h
    · have h := Eq.mp (if_neg hc_27) h
      refine st_if (t := 123) (b := true) rfl (decide_eq_true (Int32.not_lt.mp hc_27)) rfl ?_
      refine vmWp.sub (lo' := [(0, .ref 42)]) ⟨rfl, trivial⟩ ?_
      exact tMO_layInstruction_123 hQ d h
set_option maxRecDepth 100000 in
def MO_layInstruction_86 (d : vmD) (Q : Int32 → vmD → Prop) : Prop :=
  if (0 : Int32) < (gF d 42 30) then
  (MO_lay (gF d 42 30) d fun d_15 =>
  MO_layInstruction_101 d_15 Q)
  else
  (MO_layInstruction_101 d Q)
set_option maxRecDepth 100000 in
set_option maxHeartbeats 4000000 in
theorem tMO_layInstruction_86 {L : Nat} {e : vmD} {Qo : Option Value → vmW → Prop} {Q : Int32 → vmD → Prop} (hQ : ∀ r d, Q r d → Qo (some (.int r)) (wR L d e)) (d : vmD) (h : MO_layInstruction_86 d Q) : vmWp 309 86 [(0, .ref 42)] [] (wR L d e) Qo := by
  unfold MO_layInstruction_86 at h
  refine st_go 2 (pc' := 90) (lo' := [(0, .ref 42)]) (st' := [.int (gF d 42 30)]) rfl ?_
  by_cases hc_14 : (0 : Int32) < (gF d 42 30)
  · have h := Eq.mp (if_pos hc_14) h
    refine st_if (t := 93) (b := false) rfl (decide_eq_false (Int32.not_le.mpr hc_14)) rfl ?_
    refine st_go 3 (pc' := 98) (lo' := [(0, .ref 42)]) (st' := [.int (gF d 42 30), .ref 42]) rfl ?_
    refine st_callv (k' := 300) (as := [.ref 42, .int (gF d 42 30)]) (rest := []) (lo' := [(0, .ref 42), (1, .int (gF d 42 30))]) (wf := fun d => wR L d e) rfl rfl rfl ?_
    refine tMO_lay (fun d_15 h => ⟨d_15, rfl, rfl, ?_⟩) (gF d 42 30) d h
    refine vmWp.sub (lo' := [(0, .ref 42)]) ⟨rfl, trivial⟩ ?_
    exact tMO_layInstruction_101 hQ d_15 h
  · have h := Eq.mp (if_neg hc_14) h
    refine st_if (t := 101) (b := true) rfl (decide_eq_true (Int32.not_lt.mp hc_14)) rfl ?_
    refine vmWp.sub (lo' := [(0, .ref 42)]) ⟨rfl, trivial⟩ ?_
    exact tMO_layInstruction_101 hQ d h
set_option maxRecDepth 100000 in
def MO_layInstruction_71 (d : vmD) (Q : Int32 → vmD → Prop) : Prop :=
  if (0 : Int32) < (gF d 42 29) then
  (MO_lay (gF d 42 29) d fun d_13 =>
  MO_layInstruction_86 d_13 Q)
  else
  (MO_layInstruction_86 d Q)
set_option maxRecDepth 100000 in
set_option maxHeartbeats 4000000 in
theorem tMO_layInstruction_71 {L : Nat} {e : vmD} {Qo : Option Value → vmW → Prop} {Q : Int32 → vmD → Prop} (hQ : ∀ r d, Q r d → Qo (some (.int r)) (wR L d e)) (d : vmD) (h : MO_layInstruction_71 d Q) : vmWp 309 71 [(0, .ref 42)] [] (wR L d e) Qo := by
  unfold MO_layInstruction_71 at h
  refine st_go 2 (pc' := 75) (lo' := [(0, .ref 42)]) (st' := [.int (gF d 42 29)]) rfl ?_
  by_cases hc_12 : (0 : Int32) < (gF d 42 29)
  · have h := Eq.mp (if_pos hc_12) h
    refine st_if (t := 78) (b := false) rfl (decide_eq_false (Int32.not_le.mpr hc_12)) rfl ?_
    refine st_go 3 (pc' := 83) (lo' := [(0, .ref 42)]) (st' := [.int (gF d 42 29), .ref 42]) rfl ?_
    refine st_callv (k' := 300) (as := [.ref 42, .int (gF d 42 29)]) (rest := []) (lo' := [(0, .ref 42), (1, .int (gF d 42 29))]) (wf := fun d => wR L d e) rfl rfl rfl ?_
    refine tMO_lay (fun d_13 h => ⟨d_13, rfl, rfl, ?_⟩) (gF d 42 29) d h
    refine vmWp.sub (lo' := [(0, .ref 42)]) ⟨rfl, trivial⟩ ?_
    exact tMO_layInstruction_86 hQ d_13 h
  · have h := Eq.mp (if_neg hc_12) h
    refine st_if (t := 86) (b := true) rfl (decide_eq_true (Int32.not_lt.mp hc_12)) rfl ?_
    refine vmWp.sub (lo' := [(0, .ref 42)]) ⟨rfl, trivial⟩ ?_
    exact tMO_layInstruction_86 hQ d h
set_option maxRecDepth 100000 in
def MO_layInstruction_68 (s0 : Int32) (d : vmD) (Q : Int32 → vmD → Prop) : Prop :=
  bnd (sF d 42 55 s0) fun d_11 =>
  MO_layInstruction_71 d_11 Q
set_option maxRecDepth 100000 in
set_option maxHeartbeats 4000000 in
theorem tMO_layInstruction_68 {L : Nat} {e : vmD} {Qo : Option Value → vmW → Prop} {Q : Int32 → vmD → Prop} (hQ : ∀ r d, Q r d → Qo (some (.int r)) (wR L d e)) (s0 : Int32) (d : vmD) (h : MO_layInstruction_68 s0 d Q) : vmWp 309 68 [(0, .ref 42)] [.int s0, .ref 42] (wR L d e) Qo := by
  unfold MO_layInstruction_68 at h
  refine st_putIR (o := 42) (f := 55) rfl rfl rfl rfl rfl (fun d_11 hy_d_11 => ?_)
  have h := h d_11 hy_d_11
  refine vmWp.sub (lo' := [(0, .ref 42)]) ⟨rfl, trivial⟩ ?_
  exact tMO_layInstruction_71 hQ d_11 h
set_option maxRecDepth 100000 in
def MO_layInstruction_12 (Q : Int32 → vmD → Prop) : Nat → Int32 → Int32 → Int32 → vmD → Prop
  | 0, _, _, _, _ => False
  | n + 1, x1, x2, x3, d => if x3 < (gF d 42 28) then
  (MO_work x3 x1 d fun r_5 d_4 =>
  if r_5 = 0 then
  (Q 0 d_4)
  else
  (bnd (x3 + 1) fun x3_7 =>
  (MO_layInstruction_12 Q n) x1 x2 x3_7 d_4))
  else
  (bnd (sF d 42 2 x2) fun d_8 =>
  if (gF d_8 42 34) = 3 then
  (if (gF d_8 42 55) = 0 then
  (MO_layInstruction_68 0 d_8 Q)
  else
  (MO_layInstruction_68 ((gF d_8 42 55) + 1) d_8 Q))
  else
  (MO_layInstruction_71 d_8 Q))
set_option maxRecDepth 100000 in
set_option maxHeartbeats 4000000 in
theorem tMO_layInstruction_12 {L : Nat} {e : vmD} {Qo : Option Value → vmW → Prop} {Q : Int32 → vmD → Prop} (hQ : ∀ r d, Q r d → Qo (some (.int r)) (wR L d e)) : ∀ (n : Nat) (x1 : Int32) (x2 : Int32) (x3 : Int32) (d : vmD), MO_layInstruction_12 Q n x1 x2 x3 d → vmWp 309 12 [(0, .ref 42), (1, .int x1), (2, .int x2), (3, .int x3)] [] (wR L d e) Qo := by
  intro n
  induction n with
  | zero => intro x1 x2 x3 d h; exact h.elim
  | succ n ih =>
    intro x1 x2 x3 d h
    unfold MO_layInstruction_12 at h
    refine st_go 3 (pc' := 17) (lo' := [(0, .ref 42), (1, .int x1), (2, .int x2), (3, .int x3)]) (st' := [.int (gF d 42 28), .int x3]) rfl ?_
    by_cases hc_3 : x3 < (gF d 42 28)
    · have h := Eq.mp (if_pos hc_3) h
      refine st_icmp (t := 20) (b := false) rfl (decide_eq_false (Int32.not_le.mpr hc_3)) rfl ?_
      refine st_go 3 (pc' := 23) (lo' := [(0, .ref 42), (1, .int x1), (2, .int x2), (3, .int x3)]) (st' := [.int x1, .int x3, .ref 42]) rfl ?_
      refine st_calli (k' := 308) (as := [.ref 42, .int x3, .int x1]) (rest := []) (lo' := [(0, .ref 42), (1, .int x3), (2, .int x1)]) (wf := fun d => wR L d e) rfl rfl rfl ?_
      refine tMO_work (fun r_5 d_4 h => ⟨r_5, d_4, rfl, rfl, ?_⟩) x3 x1 d h
      by_cases hc_6 : r_5 = 0
      · have h := Eq.mp (if_pos hc_6) h
        refine st_if (t := 29) (b := false) rfl (decide_eq_false (fun z => z hc_6)) rfl ?_
        refine st_go 1 (pc' := 30) (lo' := [(0, .ref 42), (1, .int x1), (2, .int x2), (3, .int x3)]) (st' := [.int 0]) rfl ?_
        exact st_retZ rfl rfl (Or.inl rfl) (hQ _ _ h)
      · have h := Eq.mp (if_neg hc_6) h
        refine st_if (t := 31) (b := true) rfl (decide_eq_true hc_6) rfl ?_
        refine st_go 1 (pc' := 34) (lo' := [(3, .int (x3 + 1)), (0, .ref 42), (1, .int x1), (2, .int x2)]) (st' := []) rfl ?_
        refine st_locI (fun x3_7 hy_x3_7 => ?_)
        have h := h x3_7 hy_x3_7
        refine st_go 1 (pc' := 12) (lo' := [(3, .int x3_7), (0, .ref 42), (1, .int x1), (2, .int x2)]) (st' := []) rfl ?_
        refine vmWp.sub (lo' := [(0, .ref 42), (1, .int x1), (2, .int x2), (3, .int x3_7)]) ⟨rfl, rfl, rfl, rfl, trivial⟩ ?_
        exact ih x1 x2 x3_7 d_4 h
    · have h := Eq.mp (if_neg hc_3) h
      refine st_icmp (t := 37) (b := true) rfl (decide_eq_true (Int32.not_lt.mp hc_3)) rfl ?_
      refine st_go 2 (pc' := 39) (lo' := [(0, .ref 42), (1, .int x1), (2, .int x2), (3, .int x3)]) (st' := [.int x2, .ref 42]) rfl ?_
      refine st_putIR (o := 42) (f := 2) rfl rfl rfl rfl rfl (fun d_8 hy_d_8 => ?_)
      have h := h d_8 hy_d_8
      refine st_go 3 (pc' := 47) (lo' := [(0, .ref 42), (1, .int x1), (2, .int x2), (3, .int x3)]) (st' := [.int 3, .int (gF d_8 42 34)]) rfl ?_
      by_cases hc_9 : (gF d_8 42 34) = 3
      · have h := Eq.mp (if_pos hc_9) h
        refine st_icmp (t := 50) (b := false) rfl (decide_eq_false (fun z => z hc_9)) rfl ?_
        refine st_go 3 (pc' := 55) (lo' := [(0, .ref 42), (1, .int x1), (2, .int x2), (3, .int x3)]) (st' := [.int (gF d_8 42 55), .ref 42]) rfl ?_
        by_cases hc_10 : (gF d_8 42 55) = 0
        · have h := Eq.mp (if_pos hc_10) h
          refine st_if (t := 58) (b := false) rfl (decide_eq_false (fun z => z hc_10)) rfl ?_
          refine st_go 2 (pc' := 68) (lo' := [(0, .ref 42), (1, .int x1), (2, .int x2), (3, .int x3)]) (st' := [.int 0, .ref 42]) rfl ?_
          refine vmWp.sub (lo' := [(0, .ref 42)]) ⟨rfl, trivial⟩ ?_
          exact tMO_layInstruction_68 hQ 0 d_8 h
        · have h := Eq.mp (if_neg hc_10) h
          refine st_if (t := 62) (b := true) rfl (decide_eq_true hc_10) rfl ?_
          refine st_go 4 (pc' := 68) (lo' := [(0, .ref 42), (1, .int x1), (2, .int x2), (3, .int x3)]) (st' := [.int ((gF d_8 42 55) + 1), .ref 42]) rfl ?_
          refine vmWp.sub (lo' := [(0, .ref 42)]) ⟨rfl, trivial⟩ ?_
          exact tMO_layInstruction_68 hQ ((gF d_8 42 55) + 1) d_8 h
      · have h := Eq.mp (if_neg hc_9) h
        refine st_icmp (t := 71) (b := true) rfl (decide_eq_true hc_9) rfl ?_
        refine vmWp.sub (lo' := [(0, .ref 42)]) ⟨rfl, trivial⟩ ?_
        exact tMO_layInstruction_71 hQ d_8 h
set_option maxRecDepth 100000 in
def MO_layInstruction (x1 : Int32) (d : vmD) (Q : Int32 → vmD → Prop) : Prop :=
  bnd (gF d 42 2) fun x2_1 =>
  bnd (sF d 42 55 0) fun d_2 =>
  ∃ m12, MO_layInstruction_12 Q m12 x1 x2_1 0 d_2
set_option maxRecDepth 100000 in
set_option maxHeartbeats 4000000 in
theorem tMO_layInstruction {L : Nat} {e : vmD} {Qo : Option Value → vmW → Prop} {Q : Int32 → vmD → Prop} (hQ : ∀ r d, Q r d → Qo (some (.int r)) (wR L d e)) (x1 : Int32) (d : vmD) (h : MO_layInstruction x1 d Q) : vmWp 309 0 [(0, .ref 42), (1, .int x1)] [] (wR L d e) Qo := by
  unfold MO_layInstruction at h
  refine st_go 3 (pc' := 5) (lo' := [(2, .int (gF d 42 2)), (0, .ref 42), (1, .int x1)]) (st' := []) rfl ?_
  refine st_locI (fun x2_1 hy_x2_1 => ?_)
  have h := h x2_1 hy_x2_1
  refine st_go 2 (pc' := 7) (lo' := [(2, .int x2_1), (0, .ref 42), (1, .int x1)]) (st' := [.int 0, .ref 42]) rfl ?_
  refine st_putIR (o := 42) (f := 55) rfl rfl rfl rfl rfl (fun d_2 hy_d_2 => ?_)
  have h := h d_2 hy_d_2
  refine st_go 2 (pc' := 12) (lo' := [(3, .int 0), (2, .int x2_1), (0, .ref 42), (1, .int x1)]) (st' := []) rfl ?_
  obtain ⟨m12, h⟩ := h
  refine vmWp.sub (lo' := [(0, .ref 42), (1, .int x1), (2, .int x2_1), (3, .int 0)]) ⟨rfl, rfl, rfl, rfl, trivial⟩ ?_
  exact tMO_layInstruction_12 hQ m12 x1 x2_1 0 d_2 h
set_option maxRecDepth 100000 in
def MO_data_60 (b8 : Int32 → Int32 → Int32 → Int32 → vmD → Prop) (b28 : Int32 → Int32 → Int32 → Int32 → Int32 → vmD → Prop) (x1 : Int32) (x2 : Int32) (x3 : Int32) (x4 : Int32) (x5 : Int32) (d : vmD) (Q : Int32 → vmD → Prop) : Prop :=
  bnd (x5 + 1) fun x5_8 =>
  b28 x1 x2 x3 x4 x5_8 d
set_option maxRecDepth 100000 in
set_option maxHeartbeats 4000000 in
theorem tMO_data_60 {L : Nat} {e : vmD} {Qo : Option Value → vmW → Prop} {b8 : Int32 → Int32 → Int32 → Int32 → vmD → Prop} {b28 : Int32 → Int32 → Int32 → Int32 → Int32 → vmD → Prop} {Q : Int32 → vmD → Prop} (hb8 : ∀ x1 x2 x3 x4 d, b8 x1 x2 x3 x4 d → vmWp 312 8 [(0, .ref 42), (1, .int x1), (2, .int x2), (3, .int x3), (4, .int x4)] [] (wR L d e) Qo) (hb28 : ∀ x1 x2 x3 x4 x5 d, b28 x1 x2 x3 x4 x5 d → vmWp 312 28 [(0, .ref 42), (1, .int x1), (2, .int x2), (3, .int x3), (4, .int x4), (5, .int x5)] [] (wR L d e) Qo) (hQ : ∀ r d, Q r d → Qo (some (.int r)) (wR L d e)) (x1 : Int32) (x2 : Int32) (x3 : Int32) (x4 : Int32) (x5 : Int32) (d : vmD) (h : MO_data_60 b8 b28 x1 x2 x3 x4 x5 d Q) : vmWp 312 60 [(0, .ref 42), (1, .int x1), (2, .int x2), (3, .int x3), (4, .int x4), (5, .int x5)] [] (wR L d e) Qo := by
  unfold MO_data_60 at h
  refine st_go 1 (pc' := 63) (lo' := [(5, .int (x5 + 1)), (0, .ref 42), (1, .int x1), (2, .int x2), (3, .int x3), (4, .int x4)]) (st' := []) rfl ?_
  refine st_locI (fun x5_8 hy_x5_8 => ?_)
  have h := h x5_8 hy_x5_8
  refine st_go 1 (pc' := 28) (lo' := [(5, .int x5_8), (0, .ref 42), (1, .int x1), (2, .int x2), (3, .int x3), (4, .int x4)]) (st' := []) rfl ?_
  refine vmWp.sub (lo' := [(0, .ref 42), (1, .int x1), (2, .int x2), (3, .int x3), (4, .int x4), (5, .int x5_8)]) ⟨rfl, rfl, rfl, rfl, rfl, rfl, trivial⟩ ?_
  exact hb28 x1 x2 x3 x4 x5_8 d h
set_option maxRecDepth 100000 in
def MO_data_189 (b8 : Int32 → Int32 → Int32 → Int32 → vmD → Prop) (x1 : Int32) (x2 : Int32) (x3 : Int32) (x4 : Int32) (d : vmD) (Q : Int32 → vmD → Prop) : Prop :=
  if (gF d 42 3) = 1 then
  (if (65536 : Int32) < (x4 + x3) then
  (MO_wrong 8 x1 d fun r_16 d_15 =>
  (r_16 = 0 ∨ r_16 = 1) ∧ Q r_16 d_15)
  else
  (bnd (sF d 42 20 (x4 + x3)) fun d_17 =>
  Q 1 d_17))
  else
  (MO_isSign 44 d fun r_19 d_18 =>
  if r_19 = 0 then
  (MO_refuse d_18 fun r_22 d_21 =>
  (r_22 = 0 ∨ r_22 = 1) ∧ Q r_22 d_21)
  else
  (MO_next d_18 fun d_23 =>
  b8 x1 x2 x3 x4 d_23))
set_option maxRecDepth 100000 in
set_option maxHeartbeats 4000000 in
theorem tMO_data_189 {L : Nat} {e : vmD} {Qo : Option Value → vmW → Prop} {b8 : Int32 → Int32 → Int32 → Int32 → vmD → Prop} {Q : Int32 → vmD → Prop} (hb8 : ∀ x1 x2 x3 x4 d, b8 x1 x2 x3 x4 d → vmWp 312 8 [(0, .ref 42), (1, .int x1), (2, .int x2), (3, .int x3), (4, .int x4)] [] (wR L d e) Qo) (hQ : ∀ r d, Q r d → Qo (some (.int r)) (wR L d e)) (x1 : Int32) (x2 : Int32) (x3 : Int32) (x4 : Int32) (d : vmD) (h : MO_data_189 b8 x1 x2 x3 x4 d Q) : vmWp 312 189 [(0, .ref 42), (1, .int x1), (2, .int x2), (3, .int x3), (4, .int x4)] [] (wR L d e) Qo := by
  unfold MO_data_189 at h
  refine st_go 3 (pc' := 194) (lo' := [(0, .ref 42), (1, .int x1), (2, .int x2), (3, .int x3), (4, .int x4)]) (st' := [.int 1, .int (gF d 42 3)]) rfl ?_
  by_cases hc_13 : (gF d 42 3) = 1
  · have h := Eq.mp (if_pos hc_13) h
    refine st_icmp (t := 197) (b := false) rfl (decide_eq_false (fun z => z hc_13)) rfl ?_
    refine st_go 5 (pc' := 227) (lo' := [(0, .ref 42), (1, .int x1), (2, .int x2), (3, .int x3), (4, .int x4)]) (st' := [.int 65536, .int (x4 + x3)]) rfl ?_
    by_cases hc_14 : (65536 : Int32) < (x4 + x3)
    · have h := Eq.mp (if_pos hc_14) h
      refine st_icmp (t := 230) (b := false) rfl (decide_eq_false (Int32.not_le.mpr hc_14)) rfl ?_
      refine st_go 3 (pc' := 234) (lo' := [(0, .ref 42), (1, .int x1), (2, .int x2), (3, .int x3), (4, .int x4)]) (st' := [.int x1, .int 8, .ref 42]) rfl ?_
      refine st_calli (k' := 245) (as := [.ref 42, .int 8, .int x1]) (rest := []) (lo' := [(0, .ref 42), (1, .int 8), (2, .int x1)]) (wf := fun d => wR L d e) rfl rfl rfl ?_
      refine tMO_wrong (fun r_16 d_15 h => ⟨r_16, d_15, rfl, rfl, ?_⟩) 8 x1 d h
      exact st_retZ rfl rfl h.1 (hQ _ _ h.2)
    · have h := Eq.mp (if_neg hc_14) h
      refine st_icmp (t := 238) (b := true) rfl (decide_eq_true (Int32.not_lt.mp hc_14)) rfl ?_
      refine st_go 4 (pc' := 243) (lo' := [(0, .ref 42), (1, .int x1), (2, .int x2), (3, .int x3), (4, .int x4)]) (st' := [.int (x4 + x3), .ref 42]) rfl ?_
      refine st_putIR (o := 42) (f := 20) rfl rfl rfl rfl rfl (fun d_17 hy_d_17 => ?_)
      have h := h d_17 hy_d_17
      refine st_go 1 (pc' := 247) (lo' := [(0, .ref 42), (1, .int x1), (2, .int x2), (3, .int x3), (4, .int x4)]) (st' := [.int 1]) rfl ?_
      exact st_retZ rfl rfl (Or.inr rfl) (hQ _ _ h)
  · have h := Eq.mp (if_neg hc_13) h
    refine st_icmp (t := 200) (b := true) rfl (decide_eq_true hc_13) rfl ?_
    refine st_go 2 (pc' := 203) (lo' := [(0, .ref 42), (1, .int x1), (2, .int x2), (3, .int x3), (4, .int x4)]) (st' := [.int 44, .ref 42]) rfl ?_
    refine st_calli (k' := 257) (as := [.ref 42, .int 44]) (rest := []) (lo' := [(0, .ref 42), (1, .int 44)]) (wf := fun d => wR L d e) rfl rfl rfl ?_
    refine tMO_isSign (fun r_19 d_18 h => ⟨r_19, d_18, rfl, rfl, ?_⟩) 44 d h
    by_cases hc_20 : r_19 = 0
    · have h := Eq.mp (if_pos hc_20) h
      refine st_if (t := 209) (b := false) rfl (decide_eq_false (fun z => z hc_20)) rfl ?_
      refine st_go 1 (pc' := 210) (lo' := [(0, .ref 42), (1, .int x1), (2, .int x2), (3, .int x3), (4, .int x4)]) (st' := [.ref 42]) rfl ?_
      refine st_calli (k' := 246) (as := [.ref 42]) (rest := []) (lo' := [(0, .ref 42)]) (wf := fun d => wR L d e) rfl rfl rfl ?_
      refine tMO_refuse (fun r_22 d_21 h => ⟨r_22, d_21, rfl, rfl, ?_⟩) d_18 h
      exact st_retZ rfl rfl h.1 (hQ _ _ h.2)
    · have h := Eq.mp (if_neg hc_20) h
      refine st_if (t := 214) (b := true) rfl (decide_eq_true hc_20) rfl ?_
      refine st_go 1 (pc' := 215) (lo' := [(0, .ref 42), (1, .int x1), (2, .int x2), (3, .int x3), (4, .int x4)]) (st' := [.ref 42]) rfl ?_
      refine st_callv (k' := 252) (as := [.ref 42]) (rest := []) (lo' := [(0, .ref 42)]) (wf := fun d => wR L d e) rfl rfl rfl ?_
      refine tMO_next (fun d_23 h => ⟨d_23, rfl, rfl, ?_⟩) d_18 h
      refine st_go 1 (pc' := 8) (lo' := [(0, .ref 42), (1, .int x1), (2, .int x2), (3, .int x3), (4, .int x4)]) (st' := []) rfl ?_
      refine vmWp.sub (lo' := [(0, .ref 42), (1, .int x1), (2, .int x2), (3, .int x3), (4, .int x4)]) ⟨rfl, rfl, rfl, rfl, rfl, trivial⟩ ?_
      exact hb8 x1 x2 x3 x4 d_23 h
set_option maxRecDepth 100000 in
def MO_data_28 (b8 : Int32 → Int32 → Int32 → Int32 → vmD → Prop) (Q : Int32 → vmD → Prop) : Nat → Int32 → Int32 → Int32 → Int32 → Int32 → vmD → Prop
  | 0, _, _, _, _, _, _ => False
  | n + 1, x1, x2, x3, x4, x5, d => if x5 < ((gF d 42 5) - 1) then
  (bnd (x3 + 1) fun x3_6 =>
  if (gF d 42 42) = 0 then
  (MO_data_60 b8 (MO_data_28 b8 Q n) x1 x2 x3_6 x4 x5 d Q)
  else
  (ixOk x5 6000 ∧
  bnd (gA d 43 x5.toNatClampNeg) fun y_10 =>
  MO_lay y_10 d fun d_11 =>
  MO_data_60 b8 (MO_data_28 b8 Q n) x1 x2 x3_6 x4 x5 d_11 Q))
  else
  (MO_next d fun d_12 =>
  MO_data_189 b8 x1 x2 x3 x4 d_12 Q)
set_option maxRecDepth 100000 in
set_option maxHeartbeats 4000000 in
theorem tMO_data_28 {L : Nat} {e : vmD} {Qo : Option Value → vmW → Prop} {b8 : Int32 → Int32 → Int32 → Int32 → vmD → Prop} {Q : Int32 → vmD → Prop} (hb8 : ∀ x1 x2 x3 x4 d, b8 x1 x2 x3 x4 d → vmWp 312 8 [(0, .ref 42), (1, .int x1), (2, .int x2), (3, .int x3), (4, .int x4)] [] (wR L d e) Qo) (hQ : ∀ r d, Q r d → Qo (some (.int r)) (wR L d e)) : ∀ (n : Nat) (x1 : Int32) (x2 : Int32) (x3 : Int32) (x4 : Int32) (x5 : Int32) (d : vmD), MO_data_28 b8 Q n x1 x2 x3 x4 x5 d → vmWp 312 28 [(0, .ref 42), (1, .int x1), (2, .int x2), (3, .int x3), (4, .int x4), (5, .int x5)] [] (wR L d e) Qo := by
  intro n
  induction n with
  | zero => intro x1 x2 x3 x4 x5 d h; exact h.elim
  | succ n ih =>
    intro x1 x2 x3 x4 x5 d h
    unfold MO_data_28 at h
    refine st_go 5 (pc' := 36) (lo' := [(0, .ref 42), (1, .int x1), (2, .int x2), (3, .int x3), (4, .int x4), (5, .int x5)]) (st' := [.int ((gF d 42 5) - 1), .int x5]) rfl ?_
    by_cases hc_5 : x5 < ((gF d 42 5) - 1)
    · have h := Eq.mp (if_pos hc_5) h
      refine st_icmp (t := 39) (b := false) rfl (decide_eq_false (Int32.not_le.mpr hc_5)) rfl ?_
      refine st_go 1 (pc' := 42) (lo' := [(3, .int (x3 + 1)), (0, .ref 42), (1, .int x1), (2, .int x2), (4, .int x4), (5, .int x5)]) (st' := []) rfl ?_
      refine st_locI (fun x3_6 hy_x3_6 => ?_)
      have h := h x3_6 hy_x3_6
      refine st_go 2 (pc' := 46) (lo' := [(3, .int x3_6), (0, .ref 42), (1, .int x1), (2, .int x2), (4, .int x4), (5, .int x5)]) (st' := [.int (gF d 42 42)]) rfl ?_
      by_cases hc_7 : (gF d 42 42) = 0
      · have h := Eq.mp (if_pos hc_7) h
        refine st_if (t := 60) (b := true) rfl (decide_eq_true hc_7) rfl ?_
        refine vmWp.sub (lo' := [(0, .ref 42), (1, .int x1), (2, .int x2), (3, .int x3_6), (4, .int x4), (5, .int x5)]) ⟨rfl, rfl, rfl, rfl, rfl, rfl, trivial⟩ ?_
        exact tMO_data_60 hb8 ih hQ x1 x2 x3_6 x4 x5 d h
      · have h := Eq.mp (if_neg hc_7) h
        refine st_if (t := 49) (b := false) rfl (decide_eq_false hc_7) rfl ?_
        refine st_go 4 (pc' := 56) (lo' := [(3, .int x3_6), (0, .ref 42), (1, .int x1), (2, .int x2), (4, .int x4), (5, .int x5)]) (st' := [.int x5, .ref 43, .ref 42]) rfl ?_
        obtain ⟨hj_9, h⟩ := h
        refine st_ialdR (o := 43) rfl rfl hj_9 rfl (fun y_10 hy_y_10 => ?_)
        have h := h y_10 hy_y_10
        refine st_callv (k' := 300) (as := [.ref 42, .int y_10]) (rest := []) (lo' := [(0, .ref 42), (1, .int y_10)]) (wf := fun d => wR L d e) rfl rfl rfl ?_
        refine tMO_lay (fun d_11 h => ⟨d_11, rfl, rfl, ?_⟩) y_10 d h
        refine vmWp.sub (lo' := [(0, .ref 42), (1, .int x1), (2, .int x2), (3, .int x3_6), (4, .int x4), (5, .int x5)]) ⟨rfl, rfl, rfl, rfl, rfl, rfl, trivial⟩ ?_
        exact tMO_data_60 hb8 ih hQ x1 x2 x3_6 x4 x5 d_11 h
    · have h := Eq.mp (if_neg hc_5) h
      refine st_icmp (t := 66) (b := true) rfl (decide_eq_true (Int32.not_lt.mp hc_5)) rfl ?_
      refine st_go 1 (pc' := 67) (lo' := [(0, .ref 42), (1, .int x1), (2, .int x2), (3, .int x3), (4, .int x4), (5, .int x5)]) (st' := [.ref 42]) rfl ?_
      refine st_callv (k' := 252) (as := [.ref 42]) (rest := []) (lo' := [(0, .ref 42)]) (wf := fun d => wR L d e) rfl rfl rfl ?_
      refine tMO_next (fun d_12 h => ⟨d_12, rfl, rfl, ?_⟩) d h
      refine st_go 1 (pc' := 189) (lo' := [(0, .ref 42), (1, .int x1), (2, .int x2), (3, .int x3), (4, .int x4), (5, .int x5)]) (st' := []) rfl ?_
      refine vmWp.sub (lo' := [(0, .ref 42), (1, .int x1), (2, .int x2), (3, .int x3), (4, .int x4)]) ⟨rfl, rfl, rfl, rfl, rfl, trivial⟩ ?_
      exact tMO_data_189 hb8 hQ x1 x2 x3 x4 d_12 h
set_option maxRecDepth 100000 in
def MO_data_156 (x5 : Int32) (d : vmD) (Q : Int32 → vmD → Prop) : Prop :=
  MO_wrong 5 x5 d fun r_34 d_33 =>
  (r_34 = 0 ∨ r_34 = 1) ∧ Q r_34 d_33
set_option maxRecDepth 100000 in
set_option maxHeartbeats 4000000 in
theorem tMO_data_156 {L : Nat} {e : vmD} {Qo : Option Value → vmW → Prop} {Q : Int32 → vmD → Prop} (hQ : ∀ r d, Q r d → Qo (some (.int r)) (wR L d e)) (x5 : Int32) (d : vmD) (h : MO_data_156 x5 d Q) : vmWp 312 156 [(0, .ref 42), (5, .int x5)] [] (wR L d e) Qo := by
  unfold MO_data_156 at h
  refine st_go 3 (pc' := 160) (lo' := [(0, .ref 42), (5, .int x5)]) (st' := [.int x5, .int 5, .ref 42]) rfl ?_
  refine st_calli (k' := 245) (as := [.ref 42, .int 5, .int x5]) (rest := []) (lo' := [(0, .ref 42), (1, .int 5), (2, .int x5)]) (wf := fun d => wR L d e) rfl rfl rfl ?_
  refine tMO_wrong (fun r_34 d_33 h => ⟨r_34, d_33, rfl, rfl, ?_⟩) 5 x5 d h
  exact st_retZ rfl rfl h.1 (hQ _ _ h.2)
set_option maxRecDepth 100000 in
def MO_data_164 (b8 : Int32 → Int32 → Int32 → Int32 → vmD → Prop) (x1 : Int32) (x2 : Int32) (x3 : Int32) (x4 : Int32) (d : vmD) (Q : Int32 → vmD → Prop) : Prop :=
  bnd (gF d 42 22) fun x6_36 =>
  MO_lay x6_36 d fun d_37 =>
  if x2 = 0 then
  (MO_data_189 b8 x1 x2 x3 x4 d_37 Q)
  else
  (MO_lay (x6_36 >>> ((8 : Int32) &&& 31)) d_37 fun d_39 =>
  MO_data_189 b8 x1 x2 x3 x4 d_39 Q)
set_option maxRecDepth 100000 in
set_option maxHeartbeats 4000000 in
theorem tMO_data_164 {L : Nat} {e : vmD} {Qo : Option Value → vmW → Prop} {b8 : Int32 → Int32 → Int32 → Int32 → vmD → Prop} {Q : Int32 → vmD → Prop} (hb8 : ∀ x1 x2 x3 x4 d, b8 x1 x2 x3 x4 d → vmWp 312 8 [(0, .ref 42), (1, .int x1), (2, .int x2), (3, .int x3), (4, .int x4)] [] (wR L d e) Qo) (hQ : ∀ r d, Q r d → Qo (some (.int r)) (wR L d e)) (x1 : Int32) (x2 : Int32) (x3 : Int32) (x4 : Int32) (d : vmD) (h : MO_data_164 b8 x1 x2 x3 x4 d Q) : vmWp 312 164 [(0, .ref 42), (1, .int x1), (2, .int x2), (3, .int x3), (4, .int x4)] [] (wR L d e) Qo := by
  unfold MO_data_164 at h
  refine st_go 3 (pc' := 170) (lo' := [(6, .int (gF d 42 22)), (0, .ref 42), (1, .int x1), (2, .int x2), (3, .int x3), (4, .int x4)]) (st' := []) rfl ?_
  refine st_locI (fun x6_36 hy_x6_36 => ?_)
  have h := h x6_36 hy_x6_36
  refine st_go 2 (pc' := 173) (lo' := [(6, .int x6_36), (0, .ref 42), (1, .int x1), (2, .int x2), (3, .int x3), (4, .int x4)]) (st' := [.int x6_36, .ref 42]) rfl ?_
  refine st_callv (k' := 300) (as := [.ref 42, .int x6_36]) (rest := []) (lo' := [(0, .ref 42), (1, .int x6_36)]) (wf := fun d => wR L d e) rfl rfl rfl ?_
  refine tMO_lay (fun d_37 h => ⟨d_37, rfl, rfl, ?_⟩) x6_36 d h
  refine st_go 1 (pc' := 177) (lo' := [(6, .int x6_36), (0, .ref 42), (1, .int x1), (2, .int x2), (3, .int x3), (4, .int x4)]) (st' := [.int x2]) rfl ?_
  by_cases hc_38 : x2 = 0
  · have h := Eq.mp (if_pos hc_38) h
    refine st_if (t := 189) (b := true) rfl (decide_eq_true hc_38) rfl ?_
    refine vmWp.sub (lo' := [(0, .ref 42), (1, .int x1), (2, .int x2), (3, .int x3), (4, .int x4)]) ⟨rfl, rfl, rfl, rfl, rfl, trivial⟩ ?_
    exact tMO_data_189 hb8 hQ x1 x2 x3 x4 d_37 h
  · have h := Eq.mp (if_neg hc_38) h
    refine st_if (t := 180) (b := false) rfl (decide_eq_false hc_38) rfl ?_
    refine st_go 4 (pc' := 186) (lo' := [(6, .int x6_36), (0, .ref 42), (1, .int x1), (2, .int x2), (3, .int x3), (4, .int x4)]) (st' := [.int (x6_36 >>> ((8 : Int32) &&& 31)), .ref 42]) rfl ?_
    refine st_callv (k' := 300) (as := [.ref 42, .int (x6_36 >>> ((8 : Int32) &&& 31))]) (rest := []) (lo' := [(0, .ref 42), (1, .int (x6_36 >>> ((8 : Int32) &&& 31)))]) (wf := fun d => wR L d e) rfl rfl rfl ?_
    refine tMO_lay (fun d_39 h => ⟨d_39, rfl, rfl, ?_⟩) (x6_36 >>> ((8 : Int32) &&& 31)) d_37 h
    refine vmWp.sub (lo' := [(0, .ref 42), (1, .int x1), (2, .int x2), (3, .int x3), (4, .int x4)]) ⟨rfl, rfl, rfl, rfl, rfl, trivial⟩ ?_
    exact tMO_data_189 hb8 hQ x1 x2 x3 x4 d_39 h
set_option maxRecDepth 100000 in
def MO_data_102 (b8 : Int32 → Int32 → Int32 → Int32 → vmD → Prop) (x1 : Int32) (x2 : Int32) (x4 : Int32) (x5 : Int32) (s0 : Int32) (s1 : Int32) (d : vmD) (Q : Int32 → vmD → Prop) : Prop :=
  bnd (s1 + s0) fun x3_29 =>
  if (gF d 42 42) = 0 then
  (MO_data_189 b8 x1 x2 x3_29 x4 d Q)
  else
  (if x2 = 0 then
  (if (gF d 42 22) < (-128) then
  (MO_data_156 x5 d Q)
  else
  (if (255 : Int32) < (gF d 42 22) then
  (MO_data_156 x5 d Q)
  else
  (MO_data_164 b8 x1 x2 x3_29 x4 d Q)))
  else
  (if (gF d 42 22) < (-32768) then
  (MO_data_156 x5 d Q)
  else
  (if (65535 : Int32) < (gF d 42 22) then
  (MO_data_156 x5 d Q)
  else
  (MO_data_164 b8 x1 x2 x3_29 x4 d Q))))
set_option maxRecDepth 100000 in
set_option maxHeartbeats 4000000 in
theorem tMO_data_102 {L : Nat} {e : vmD} {Qo : Option Value → vmW → Prop} {b8 : Int32 → Int32 → Int32 → Int32 → vmD → Prop} {Q : Int32 → vmD → Prop} (hb8 : ∀ x1 x2 x3 x4 d, b8 x1 x2 x3 x4 d → vmWp 312 8 [(0, .ref 42), (1, .int x1), (2, .int x2), (3, .int x3), (4, .int x4)] [] (wR L d e) Qo) (hQ : ∀ r d, Q r d → Qo (some (.int r)) (wR L d e)) (x1 : Int32) (x2 : Int32) (x4 : Int32) (x5 : Int32) (s0 : Int32) (s1 : Int32) (d : vmD) (h : MO_data_102 b8 x1 x2 x4 x5 s0 s1 d Q) : vmWp 312 102 [(0, .ref 42), (1, .int x1), (2, .int x2), (4, .int x4), (5, .int x5)] [.int s0, .int s1] (wR L d e) Qo := by
  unfold MO_data_102 at h
  refine st_go 2 (pc' := 104) (lo' := [(3, .int (s1 + s0)), (0, .ref 42), (1, .int x1), (2, .int x2), (4, .int x4), (5, .int x5)]) (st' := []) rfl ?_
  refine st_locI (fun x3_29 hy_x3_29 => ?_)
  have h := h x3_29 hy_x3_29
  refine st_go 2 (pc' := 108) (lo' := [(3, .int x3_29), (0, .ref 42), (1, .int x1), (2, .int x2), (4, .int x4), (5, .int x5)]) (st' := [.int (gF d 42 42)]) rfl ?_
  by_cases hc_30 : (gF d 42 42) = 0
  · have h := Eq.mp (if_pos hc_30) h
    refine st_if (t := 189) (b := true) rfl (decide_eq_true hc_30) rfl ?_
    refine vmWp.sub (lo' := [(0, .ref 42), (1, .int x1), (2, .int x2), (3, .int x3_29), (4, .int x4)]) ⟨rfl, rfl, rfl, rfl, rfl, trivial⟩ ?_
    exact tMO_data_189 hb8 hQ x1 x2 x3_29 x4 d h
  · have h := Eq.mp (if_neg hc_30) h
    refine st_if (t := 111) (b := false) rfl (decide_eq_false hc_30) rfl ?_
    refine st_go 1 (pc' := 112) (lo' := [(3, .int x3_29), (0, .ref 42), (1, .int x1), (2, .int x2), (4, .int x4), (5, .int x5)]) (st' := [.int x2]) rfl ?_
    by_cases hc_31 : x2 = 0
    · have h := Eq.mp (if_pos hc_31) h
      refine st_if (t := 137) (b := true) rfl (decide_eq_true hc_31) rfl ?_
      refine st_go 3 (pc' := 143) (lo' := [(3, .int x3_29), (0, .ref 42), (1, .int x1), (2, .int x2), (4, .int x4), (5, .int x5)]) (st' := [.int (-128), .int (gF d 42 22)]) rfl ?_
      by_cases hc_32 : (gF d 42 22) < (-128)
      · have h := Eq.mp (if_pos hc_32) h
        refine st_icmp (t := 156) (b := true) rfl (decide_eq_true hc_32) rfl ?_
        refine vmWp.sub (lo' := [(0, .ref 42), (5, .int x5)]) ⟨rfl, rfl, trivial⟩ ?_
        exact tMO_data_156 hQ x5 d h
      · have h := Eq.mp (if_neg hc_32) h
        refine st_icmp (t := 146) (b := false) rfl (decide_eq_false hc_32) rfl ?_
        refine st_go 3 (pc' := 153) (lo' := [(3, .int x3_29), (0, .ref 42), (1, .int x1), (2, .int x2), (4, .int x4), (5, .int x5)]) (st' := [.int 255, .int (gF d 42 22)]) rfl ?_
        by_cases hc_35 : (255 : Int32) < (gF d 42 22)
        · have h := Eq.mp (if_pos hc_35) h
          refine st_icmp (t := 156) (b := false) rfl (decide_eq_false (Int32.not_le.mpr hc_35)) rfl ?_
          refine vmWp.sub (lo' := [(0, .ref 42), (5, .int x5)]) ⟨rfl, rfl, trivial⟩ ?_
          exact tMO_data_156 hQ x5 d h
        · have h := Eq.mp (if_neg hc_35) h
          refine st_icmp (t := 164) (b := true) rfl (decide_eq_true (Int32.not_lt.mp hc_35)) rfl ?_
          refine vmWp.sub (lo' := [(0, .ref 42), (1, .int x1), (2, .int x2), (3, .int x3_29), (4, .int x4)]) ⟨rfl, rfl, rfl, rfl, rfl, trivial⟩ ?_
          exact tMO_data_164 hb8 hQ x1 x2 x3_29 x4 d h
    · have h := Eq.mp (if_neg hc_31) h
      refine st_if (t := 115) (b := false) rfl (decide_eq_false hc_31) rfl ?_
      refine st_go 3 (pc' := 122) (lo' := [(3, .int x3_29), (0, .ref 42), (1, .int x1), (2, .int x2), (4, .int x4), (5, .int x5)]) (st' := [.int (-32768), .int (gF d 42 22)]) rfl ?_
      by_cases hc_40 : (gF d 42 22) < (-32768)
      · have h := Eq.mp (if_pos hc_40) h
        refine st_icmp (t := 156) (b := true) rfl (decide_eq_true hc_40) rfl ?_
        refine vmWp.sub (lo' := [(0, .ref 42), (5, .int x5)]) ⟨rfl, rfl, trivial⟩ ?_
        exact tMO_data_156 hQ x5 d h
      · have h := Eq.mp (if_neg hc_40) h
        refine st_icmp (t := 125) (b := false) rfl (decide_eq_false hc_40) rfl ?_
        refine st_go 3 (pc' := 131) (lo' := [(3, .int x3_29), (0, .ref 42), (1, .int x1), (2, .int x2), (4, .int x4), (5, .int x5)]) (st' := [.int 65535, .int (gF d 42 22)]) rfl ?_
        by_cases hc_41 : (65535 : Int32) < (gF d 42 22)
        · have h := Eq.mp (if_pos hc_41) h
          refine st_icmp (t := 134) (b := false) rfl (decide_eq_false (Int32.not_le.mpr hc_41)) rfl ?_
          refine st_go 1 (pc' := 156) (lo' := [(3, .int x3_29), (0, .ref 42), (1, .int x1), (2, .int x2), (4, .int x4), (5, .int x5)]) (st' := []) rfl ?_
          refine vmWp.sub (lo' := [(0, .ref 42), (5, .int x5)]) ⟨rfl, rfl, trivial⟩ ?_
          exact tMO_data_156 hQ x5 d h
        · have h := Eq.mp (if_neg hc_41) h
          refine st_icmp (t := 164) (b := true) rfl (decide_eq_true (Int32.not_lt.mp hc_41)) rfl ?_
          refine vmWp.sub (lo' := [(0, .ref 42), (1, .int x1), (2, .int x2), (3, .int x3_29), (4, .int x4)]) ⟨rfl, rfl, rfl, rfl, rfl, trivial⟩ ?_
          exact tMO_data_164 hb8 hQ x1 x2 x3_29 x4 d h
set_option maxRecDepth 100000 in
def MO_data_73 (b8 : Int32 → Int32 → Int32 → Int32 → vmD → Prop) (x1 : Int32) (x2 : Int32) (x3 : Int32) (x4 : Int32) (d : vmD) (Q : Int32 → vmD → Prop) : Prop :=
  bnd (gF d 42 4) fun x5_24 =>
  MO_expression (gF d 42 42) d fun r_26 d_25 =>
  if r_26 = 0 then
  (Q 0 d_25)
  else
  (if x2 = 0 then
  (MO_data_102 b8 x1 x2 x4 x5_24 1 x3 d_25 Q)
  else
  (MO_data_102 b8 x1 x2 x4 x5_24 2 x3 d_25 Q))
set_option maxRecDepth 100000 in
set_option maxHeartbeats 4000000 in
theorem tMO_data_73 {L : Nat} {e : vmD} {Qo : Option Value → vmW → Prop} {b8 : Int32 → Int32 → Int32 → Int32 → vmD → Prop} {Q : Int32 → vmD → Prop} (hb8 : ∀ x1 x2 x3 x4 d, b8 x1 x2 x3 x4 d → vmWp 312 8 [(0, .ref 42), (1, .int x1), (2, .int x2), (3, .int x3), (4, .int x4)] [] (wR L d e) Qo) (hQ : ∀ r d, Q r d → Qo (some (.int r)) (wR L d e)) (x1 : Int32) (x2 : Int32) (x3 : Int32) (x4 : Int32) (d : vmD) (h : MO_data_73 b8 x1 x2 x3 x4 d Q) : vmWp 312 73 [(0, .ref 42), (1, .int x1), (2, .int x2), (3, .int x3), (4, .int x4)] [] (wR L d e) Qo := by
  unfold MO_data_73 at h
  refine st_go 3 (pc' := 79) (lo' := [(5, .int (gF d 42 4)), (0, .ref 42), (1, .int x1), (2, .int x2), (3, .int x3), (4, .int x4)]) (st' := []) rfl ?_
  refine st_locI (fun x5_24 hy_x5_24 => ?_)
  have h := h x5_24 hy_x5_24
  refine st_go 3 (pc' := 84) (lo' := [(5, .int x5_24), (0, .ref 42), (1, .int x1), (2, .int x2), (3, .int x3), (4, .int x4)]) (st' := [.int (gF d 42 42), .ref 42]) rfl ?_
  refine st_calli (k' := 269) (as := [.ref 42, .int (gF d 42 42)]) (rest := []) (lo' := [(0, .ref 42), (1, .int (gF d 42 42))]) (wf := fun d => wR L d e) rfl rfl rfl ?_
  refine tMO_expression (fun r_26 d_25 h => ⟨r_26, d_25, rfl, rfl, ?_⟩) (gF d 42 42) d h
  by_cases hc_27 : r_26 = 0
  · have h := Eq.mp (if_pos hc_27) h
    refine st_if (t := 90) (b := false) rfl (decide_eq_false (fun z => z hc_27)) rfl ?_
    refine st_go 1 (pc' := 91) (lo' := [(5, .int x5_24), (0, .ref 42), (1, .int x1), (2, .int x2), (3, .int x3), (4, .int x4)]) (st' := [.int 0]) rfl ?_
    exact st_retZ rfl rfl (Or.inl rfl) (hQ _ _ h)
  · have h := Eq.mp (if_neg hc_27) h
    refine st_if (t := 92) (b := true) rfl (decide_eq_true hc_27) rfl ?_
    refine st_go 2 (pc' := 94) (lo' := [(5, .int x5_24), (0, .ref 42), (1, .int x1), (2, .int x2), (3, .int x3), (4, .int x4)]) (st' := [.int x2, .int x3]) rfl ?_
    by_cases hc_28 : x2 = 0
    · have h := Eq.mp (if_pos hc_28) h
      refine st_if (t := 101) (b := true) rfl (decide_eq_true hc_28) rfl ?_
      refine st_go 1 (pc' := 102) (lo' := [(5, .int x5_24), (0, .ref 42), (1, .int x1), (2, .int x2), (3, .int x3), (4, .int x4)]) (st' := [.int 1, .int x3]) rfl ?_
      refine vmWp.sub (lo' := [(0, .ref 42), (1, .int x1), (2, .int x2), (4, .int x4), (5, .int x5_24)]) ⟨rfl, rfl, rfl, rfl, rfl, trivial⟩ ?_
      exact tMO_data_102 hb8 hQ x1 x2 x4 x5_24 1 x3 d_25 h
    · have h := Eq.mp (if_neg hc_28) h
      refine st_if (t := 97) (b := false) rfl (decide_eq_false hc_28) rfl ?_
      refine st_go 2 (pc' := 102) (lo' := [(5, .int x5_24), (0, .ref 42), (1, .int x1), (2, .int x2), (3, .int x3), (4, .int x4)]) (st' := [.int 2, .int x3]) rfl ?_
      refine vmWp.sub (lo' := [(0, .ref 42), (1, .int x1), (2, .int x2), (4, .int x4), (5, .int x5_24)]) ⟨rfl, rfl, rfl, rfl, rfl, trivial⟩ ?_
      exact tMO_data_102 hb8 hQ x1 x2 x4 x5_24 2 x3 d_25 h
set_option maxRecDepth 100000 in
def MO_data_8 (Q : Int32 → vmD → Prop) : Nat → Int32 → Int32 → Int32 → Int32 → vmD → Prop
  | 0, _, _, _, _, _ => False
  | n + 1, x1, x2, x3, x4, d => if x2 = 0 then
  (if (gF d 42 3) = 4 then
  (bnd ((gF d 42 4) + 1) fun x5_4 =>
  ∃ m28, MO_data_28 (MO_data_8 Q n) Q m28 x1 x2 x3 x4 x5_4 d)
  else
  (MO_data_73 (MO_data_8 Q n) x1 x2 x3 x4 d Q))
  else
  (MO_data_73 (MO_data_8 Q n) x1 x2 x3 x4 d Q)
set_option maxRecDepth 100000 in
set_option maxHeartbeats 4000000 in
theorem tMO_data_8 {L : Nat} {e : vmD} {Qo : Option Value → vmW → Prop} {Q : Int32 → vmD → Prop} (hQ : ∀ r d, Q r d → Qo (some (.int r)) (wR L d e)) : ∀ (n : Nat) (x1 : Int32) (x2 : Int32) (x3 : Int32) (x4 : Int32) (d : vmD), MO_data_8 Q n x1 x2 x3 x4 d → vmWp 312 8 [(0, .ref 42), (1, .int x1), (2, .int x2), (3, .int x3), (4, .int x4)] [] (wR L d e) Qo := by
  intro n
  induction n with
  | zero => intro x1 x2 x3 x4 d h; exact h.elim
  | succ n ih =>
    intro x1 x2 x3 x4 d h
    unfold MO_data_8 at h
    refine st_go 1 (pc' := 9) (lo' := [(0, .ref 42), (1, .int x1), (2, .int x2), (3, .int x3), (4, .int x4)]) (st' := [.int x2]) rfl ?_
    by_cases hc_2 : x2 = 0
    · have h := Eq.mp (if_pos hc_2) h
      refine st_if (t := 12) (b := false) rfl (decide_eq_false (fun z => z hc_2)) rfl ?_
      refine st_go 3 (pc' := 17) (lo' := [(0, .ref 42), (1, .int x1), (2, .int x2), (3, .int x3), (4, .int x4)]) (st' := [.int 4, .int (gF d 42 3)]) rfl ?_
      by_cases hc_3 : (gF d 42 3) = 4
      · have h := Eq.mp (if_pos hc_3) h
        refine st_icmp (t := 20) (b := false) rfl (decide_eq_false (fun z => z hc_3)) rfl ?_
        refine st_go 5 (pc' := 28) (lo' := [(5, .int ((gF d 42 4) + 1)), (0, .ref 42), (1, .int x1), (2, .int x2), (3, .int x3), (4, .int x4)]) (st' := []) rfl ?_
        refine st_locI (fun x5_4 hy_x5_4 => ?_)
        have h := h x5_4 hy_x5_4
        obtain ⟨m28, h⟩ := h
        refine vmWp.sub (lo' := [(0, .ref 42), (1, .int x1), (2, .int x2), (3, .int x3), (4, .int x4), (5, .int x5_4)]) ⟨rfl, rfl, rfl, rfl, rfl, rfl, trivial⟩ ?_
        exact tMO_data_28 ih hQ m28 x1 x2 x3 x4 x5_4 d h
      · have h := Eq.mp (if_neg hc_3) h
        refine st_icmp (t := 73) (b := true) rfl (decide_eq_true hc_3) rfl ?_
        refine vmWp.sub (lo' := [(0, .ref 42), (1, .int x1), (2, .int x2), (3, .int x3), (4, .int x4)]) ⟨rfl, rfl, rfl, rfl, rfl, trivial⟩ ?_
        exact tMO_data_73 ih hQ x1 x2 x3 x4 d h
    · have h := Eq.mp (if_neg hc_2) h
      refine st_if (t := 73) (b := true) rfl (decide_eq_true hc_2) rfl ?_
      refine vmWp.sub (lo' := [(0, .ref 42), (1, .int x1), (2, .int x2), (3, .int x3), (4, .int x4)]) ⟨rfl, rfl, rfl, rfl, rfl, trivial⟩ ?_
      exact tMO_data_73 ih hQ x1 x2 x3 x4 d h
set_option maxRecDepth 100000 in
def MO_data (x1 : Int32) (x2 : Int32) (d : vmD) (Q : Int32 → vmD → Prop) : Prop :=
  bnd (gF d 42 20) fun x4_1 =>
  ∃ m8, MO_data_8 Q m8 x1 x2 0 x4_1 d
set_option maxRecDepth 100000 in
set_option maxHeartbeats 4000000 in
theorem tMO_data {L : Nat} {e : vmD} {Qo : Option Value → vmW → Prop} {Q : Int32 → vmD → Prop} (hQ : ∀ r d, Q r d → Qo (some (.int r)) (wR L d e)) (x1 : Int32) (x2 : Int32) (d : vmD) (h : MO_data x1 x2 d Q) : vmWp 312 0 [(0, .ref 42), (1, .int x1), (2, .int x2)] [] (wR L d e) Qo := by
  unfold MO_data at h
  refine st_go 5 (pc' := 8) (lo' := [(4, .int (gF d 42 20)), (3, .int 0), (0, .ref 42), (1, .int x1), (2, .int x2)]) (st' := []) rfl ?_
  refine st_locI (fun x4_1 hy_x4_1 => ?_)
  have h := h x4_1 hy_x4_1
  obtain ⟨m8, h⟩ := h
  refine vmWp.sub (lo' := [(0, .ref 42), (1, .int x1), (2, .int x2), (3, .int 0), (4, .int x4_1)]) ⟨rfl, rfl, rfl, rfl, rfl, trivial⟩ ?_
  exact tMO_data_8 hQ m8 x1 x2 0 x4_1 d h
set_option maxRecDepth 100000 in
def MO_space_30 (x2 : Int32) (d : vmD) (Q : Int32 → vmD → Prop) : Prop :=
  MO_wrong 5 x2 d fun r_8 d_7 =>
  (r_8 = 0 ∨ r_8 = 1) ∧ Q r_8 d_7
set_option maxRecDepth 100000 in
set_option maxHeartbeats 4000000 in
theorem tMO_space_30 {L : Nat} {e : vmD} {Qo : Option Value → vmW → Prop} {Q : Int32 → vmD → Prop} (hQ : ∀ r d, Q r d → Qo (some (.int r)) (wR L d e)) (x2 : Int32) (d : vmD) (h : MO_space_30 x2 d Q) : vmWp 313 30 [(0, .ref 42), (2, .int x2)] [] (wR L d e) Qo := by
  unfold MO_space_30 at h
  refine st_go 3 (pc' := 33) (lo' := [(0, .ref 42), (2, .int x2)]) (st' := [.int x2, .int 5, .ref 42]) rfl ?_
  refine st_calli (k' := 245) (as := [.ref 42, .int 5, .int x2]) (rest := []) (lo' := [(0, .ref 42), (1, .int 5), (2, .int x2)]) (wf := fun d => wR L d e) rfl rfl rfl ?_
  refine tMO_wrong (fun r_8 d_7 h => ⟨r_8, d_7, rfl, rfl, ?_⟩) 5 x2 d h
  exact st_retZ rfl rfl h.1 (hQ _ _ h.2)
set_option maxRecDepth 100000 in
def MO_space_160 (Q : Int32 → vmD → Prop) : Nat → Int32 → Int32 → Int32 → vmD → Prop
  | 0, _, _, _, _ => False
  | n + 1, x3, x4, x5, d => if x5 < x3 then
  (MO_lay x4 d fun d_20 =>
  bnd (x5 + 1) fun x5_21 =>
  (MO_space_160 Q n) x3 x4 x5_21 d_20)
  else
  (Q 1 d)
set_option maxRecDepth 100000 in
set_option maxHeartbeats 4000000 in
theorem tMO_space_160 {L : Nat} {e : vmD} {Qo : Option Value → vmW → Prop} {Q : Int32 → vmD → Prop} (hQ : ∀ r d, Q r d → Qo (some (.int r)) (wR L d e)) : ∀ (n : Nat) (x3 : Int32) (x4 : Int32) (x5 : Int32) (d : vmD), MO_space_160 Q n x3 x4 x5 d → vmWp 313 160 [(0, .ref 42), (3, .int x3), (4, .int x4), (5, .int x5)] [] (wR L d e) Qo := by
  intro n
  induction n with
  | zero => intro x3 x4 x5 d h; exact h.elim
  | succ n ih =>
    intro x3 x4 x5 d h
    unfold MO_space_160 at h
    refine st_go 2 (pc' := 163) (lo' := [(0, .ref 42), (3, .int x3), (4, .int x4), (5, .int x5)]) (st' := [.int x3, .int x5]) rfl ?_
    by_cases hc_19 : x5 < x3
    · have h := Eq.mp (if_pos hc_19) h
      refine st_icmp (t := 166) (b := false) rfl (decide_eq_false (Int32.not_le.mpr hc_19)) rfl ?_
      refine st_go 2 (pc' := 169) (lo' := [(0, .ref 42), (3, .int x3), (4, .int x4), (5, .int x5)]) (st' := [.int x4, .ref 42]) rfl ?_
      refine st_callv (k' := 300) (as := [.ref 42, .int x4]) (rest := []) (lo' := [(0, .ref 42), (1, .int x4)]) (wf := fun d => wR L d e) rfl rfl rfl ?_
      refine tMO_lay (fun d_20 h => ⟨d_20, rfl, rfl, ?_⟩) x4 d h
      refine st_go 1 (pc' := 175) (lo' := [(5, .int (x5 + 1)), (0, .ref 42), (3, .int x3), (4, .int x4)]) (st' := []) rfl ?_
      refine st_locI (fun x5_21 hy_x5_21 => ?_)
      have h := h x5_21 hy_x5_21
      refine st_go 1 (pc' := 160) (lo' := [(5, .int x5_21), (0, .ref 42), (3, .int x3), (4, .int x4)]) (st' := []) rfl ?_
      refine vmWp.sub (lo' := [(0, .ref 42), (3, .int x3), (4, .int x4), (5, .int x5_21)]) ⟨rfl, rfl, rfl, rfl, trivial⟩ ?_
      exact ih x3 x4 x5_21 d_20 h
    · have h := Eq.mp (if_neg hc_19) h
      refine st_icmp (t := 178) (b := true) rfl (decide_eq_true (Int32.not_lt.mp hc_19)) rfl ?_
      refine st_go 1 (pc' := 179) (lo' := [(0, .ref 42), (3, .int x3), (4, .int x4), (5, .int x5)]) (st' := [.int 1]) rfl ?_
      exact st_retZ rfl rfl (Or.inr rfl) (hQ _ _ h)
set_option maxRecDepth 100000 in
def MO_space_106 (x1 : Int32) (x3 : Int32) (x4 : Int32) (d : vmD) (Q : Int32 → vmD → Prop) : Prop :=
  if (gF d 42 3) = 1 then
  (if (65536 : Int32) < ((gF d 42 20) + x3) then
  (MO_wrong 8 x1 d fun r_16 d_15 =>
  (r_16 = 0 ∨ r_16 = 1) ∧ Q r_16 d_15)
  else
  (if (gF d 42 42) = 0 then
  (bnd (sF d 42 20 ((gF d 42 20) + x3)) fun d_18 =>
  Q 1 d_18)
  else
  (∃ m160, MO_space_160 Q m160 x3 x4 0 d)))
  else
  (MO_refuse d fun r_23 d_22 =>
  (r_23 = 0 ∨ r_23 = 1) ∧ Q r_23 d_22)
set_option maxRecDepth 100000 in
set_option maxHeartbeats 4000000 in
theorem tMO_space_106 {L : Nat} {e : vmD} {Qo : Option Value → vmW → Prop} {Q : Int32 → vmD → Prop} (hQ : ∀ r d, Q r d → Qo (some (.int r)) (wR L d e)) (x1 : Int32) (x3 : Int32) (x4 : Int32) (d : vmD) (h : MO_space_106 x1 x3 x4 d Q) : vmWp 313 106 [(0, .ref 42), (1, .int x1), (3, .int x3), (4, .int x4)] [] (wR L d e) Qo := by
  unfold MO_space_106 at h
  refine st_go 3 (pc' := 111) (lo' := [(0, .ref 42), (1, .int x1), (3, .int x3), (4, .int x4)]) (st' := [.int 1, .int (gF d 42 3)]) rfl ?_
  by_cases hc_13 : (gF d 42 3) = 1
  · have h := Eq.mp (if_pos hc_13) h
    refine st_icmp (t := 119) (b := true) rfl (decide_eq_true hc_13) rfl ?_
    refine st_go 5 (pc' := 127) (lo' := [(0, .ref 42), (1, .int x1), (3, .int x3), (4, .int x4)]) (st' := [.int 65536, .int ((gF d 42 20) + x3)]) rfl ?_
    by_cases hc_14 : (65536 : Int32) < ((gF d 42 20) + x3)
    · have h := Eq.mp (if_pos hc_14) h
      refine st_icmp (t := 130) (b := false) rfl (decide_eq_false (Int32.not_le.mpr hc_14)) rfl ?_
      refine st_go 3 (pc' := 134) (lo' := [(0, .ref 42), (1, .int x1), (3, .int x3), (4, .int x4)]) (st' := [.int x1, .int 8, .ref 42]) rfl ?_
      refine st_calli (k' := 245) (as := [.ref 42, .int 8, .int x1]) (rest := []) (lo' := [(0, .ref 42), (1, .int 8), (2, .int x1)]) (wf := fun d => wR L d e) rfl rfl rfl ?_
      refine tMO_wrong (fun r_16 d_15 h => ⟨r_16, d_15, rfl, rfl, ?_⟩) 8 x1 d h
      exact st_retZ rfl rfl h.1 (hQ _ _ h.2)
    · have h := Eq.mp (if_neg hc_14) h
      refine st_icmp (t := 138) (b := true) rfl (decide_eq_true (Int32.not_lt.mp hc_14)) rfl ?_
      refine st_go 2 (pc' := 142) (lo' := [(0, .ref 42), (1, .int x1), (3, .int x3), (4, .int x4)]) (st' := [.int (gF d 42 42)]) rfl ?_
      by_cases hc_17 : (gF d 42 42) = 0
      · have h := Eq.mp (if_pos hc_17) h
        refine st_if (t := 145) (b := false) rfl (decide_eq_false (fun z => z hc_17)) rfl ?_
        refine st_go 5 (pc' := 152) (lo' := [(0, .ref 42), (1, .int x1), (3, .int x3), (4, .int x4)]) (st' := [.int ((gF d 42 20) + x3), .ref 42]) rfl ?_
        refine st_putIR (o := 42) (f := 20) rfl rfl rfl rfl rfl (fun d_18 hy_d_18 => ?_)
        have h := h d_18 hy_d_18
        refine st_go 1 (pc' := 156) (lo' := [(0, .ref 42), (1, .int x1), (3, .int x3), (4, .int x4)]) (st' := [.int 1]) rfl ?_
        exact st_retZ rfl rfl (Or.inr rfl) (hQ _ _ h)
      · have h := Eq.mp (if_neg hc_17) h
        refine st_if (t := 157) (b := true) rfl (decide_eq_true hc_17) rfl ?_
        refine st_go 2 (pc' := 160) (lo' := [(5, .int 0), (0, .ref 42), (1, .int x1), (3, .int x3), (4, .int x4)]) (st' := []) rfl ?_
        obtain ⟨m160, h⟩ := h
        refine vmWp.sub (lo' := [(0, .ref 42), (3, .int x3), (4, .int x4), (5, .int 0)]) ⟨rfl, rfl, rfl, rfl, trivial⟩ ?_
        exact tMO_space_160 hQ m160 x3 x4 0 d h
  · have h := Eq.mp (if_neg hc_13) h
    refine st_icmp (t := 114) (b := false) rfl (decide_eq_false hc_13) rfl ?_
    refine st_go 1 (pc' := 115) (lo' := [(0, .ref 42), (1, .int x1), (3, .int x3), (4, .int x4)]) (st' := [.ref 42]) rfl ?_
    refine st_calli (k' := 246) (as := [.ref 42]) (rest := []) (lo' := [(0, .ref 42)]) (wf := fun d => wR L d e) rfl rfl rfl ?_
    refine tMO_refuse (fun r_23 d_22 h => ⟨r_23, d_22, rfl, rfl, ?_⟩) d h
    exact st_retZ rfl rfl h.1 (hQ _ _ h.2)
set_option maxRecDepth 100000 in
def MO_space_99 (x2 : Int32) (d : vmD) (Q : Int32 → vmD → Prop) : Prop :=
  MO_wrong 5 x2 d fun r_33 d_32 =>
  (r_33 = 0 ∨ r_33 = 1) ∧ Q r_33 d_32
set_option maxRecDepth 100000 in
set_option maxHeartbeats 4000000 in
theorem tMO_space_99 {L : Nat} {e : vmD} {Qo : Option Value → vmW → Prop} {Q : Int32 → vmD → Prop} (hQ : ∀ r d, Q r d → Qo (some (.int r)) (wR L d e)) (x2 : Int32) (d : vmD) (h : MO_space_99 x2 d Q) : vmWp 313 99 [(0, .ref 42), (2, .int x2)] [] (wR L d e) Qo := by
  unfold MO_space_99 at h
  refine st_go 3 (pc' := 102) (lo' := [(0, .ref 42), (2, .int x2)]) (st' := [.int x2, .int 5, .ref 42]) rfl ?_
  refine st_calli (k' := 245) (as := [.ref 42, .int 5, .int x2]) (rest := []) (lo' := [(0, .ref 42), (1, .int 5), (2, .int x2)]) (wf := fun d => wR L d e) rfl rfl rfl ?_
  refine tMO_wrong (fun r_33 d_32 h => ⟨r_33, d_32, rfl, rfl, ?_⟩) 5 x2 d h
  exact st_retZ rfl rfl h.1 (hQ _ _ h.2)
set_option maxRecDepth 100000 in
def MO_space (x1 : Int32) (d : vmD) (Q : Int32 → vmD → Prop) : Prop :=
  bnd (gF d 42 4) fun x2_1 =>
  MO_expression 1 d fun r_3 d_2 =>
  if r_3 = 0 then
  (Q 0 d_2)
  else
  (bnd (gF d_2 42 22) fun x3_5 =>
  if x3_5 < 0 then
  (MO_space_30 x2_1 d_2 Q)
  else
  (if (65535 : Int32) < x3_5 then
  (MO_space_30 x2_1 d_2 Q)
  else
  (MO_isSign 44 d_2 fun r_11 d_10 =>
  if r_11 = 0 then
  (MO_space_106 x1 x3_5 0 d_10 Q)
  else
  (MO_next d_10 fun d_24 =>
  bnd (gF d_24 42 4) fun x2_25 =>
  MO_expression (gF d_24 42 42) d_24 fun r_27 d_26 =>
  if r_27 = 0 then
  (Q 0 d_26)
  else
  (bnd (gF d_26 42 22) fun x4_29 =>
  if (gF d_26 42 42) = 0 then
  (MO_space_106 x1 x3_5 x4_29 d_26 Q)
  else
  (if x4_29 < (-128) then
  (MO_space_99 x2_25 d_26 Q)
  else
  (if (255 : Int32) < x4_29 then
  (MO_space_99 x2_25 d_26 Q)
  else
  (MO_space_106 x1 x3_5 x4_29 d_26 Q))))))))
set_option maxRecDepth 100000 in
set_option maxHeartbeats 4000000 in
theorem tMO_space {L : Nat} {e : vmD} {Qo : Option Value → vmW → Prop} {Q : Int32 → vmD → Prop} (hQ : ∀ r d, Q r d → Qo (some (.int r)) (wR L d e)) (x1 : Int32) (d : vmD) (h : MO_space x1 d Q) : vmWp 313 0 [(0, .ref 42), (1, .int x1)] [] (wR L d e) Qo := by
  unfold MO_space at h
  refine st_go 3 (pc' := 5) (lo' := [(2, .int (gF d 42 4)), (0, .ref 42), (1, .int x1)]) (st' := []) rfl ?_
  refine st_locI (fun x2_1 hy_x2_1 => ?_)
  have h := h x2_1 hy_x2_1
  refine st_go 2 (pc' := 7) (lo' := [(2, .int x2_1), (0, .ref 42), (1, .int x1)]) (st' := [.int 1, .ref 42]) rfl ?_
  refine st_calli (k' := 269) (as := [.ref 42, .int 1]) (rest := []) (lo' := [(0, .ref 42), (1, .int 1)]) (wf := fun d => wR L d e) rfl rfl rfl ?_
  refine tMO_expression (fun r_3 d_2 h => ⟨r_3, d_2, rfl, rfl, ?_⟩) 1 d h
  by_cases hc_4 : r_3 = 0
  · have h := Eq.mp (if_pos hc_4) h
    refine st_if (t := 13) (b := false) rfl (decide_eq_false (fun z => z hc_4)) rfl ?_
    refine st_go 1 (pc' := 14) (lo' := [(2, .int x2_1), (0, .ref 42), (1, .int x1)]) (st' := [.int 0]) rfl ?_
    exact st_retZ rfl rfl (Or.inl rfl) (hQ _ _ h)
  · have h := Eq.mp (if_neg hc_4) h
    refine st_if (t := 15) (b := true) rfl (decide_eq_true hc_4) rfl ?_
    refine st_go 3 (pc' := 20) (lo' := [(3, .int (gF d_2 42 22)), (2, .int x2_1), (0, .ref 42), (1, .int x1)]) (st' := []) rfl ?_
    refine st_locI (fun x3_5 hy_x3_5 => ?_)
    have h := h x3_5 hy_x3_5
    refine st_go 1 (pc' := 21) (lo' := [(3, .int x3_5), (2, .int x2_1), (0, .ref 42), (1, .int x1)]) (st' := [.int x3_5]) rfl ?_
    by_cases hc_6 : x3_5 < 0
    · have h := Eq.mp (if_pos hc_6) h
      refine st_if (t := 30) (b := true) rfl (decide_eq_true hc_6) rfl ?_
      refine vmWp.sub (lo' := [(0, .ref 42), (2, .int x2_1)]) ⟨rfl, rfl, trivial⟩ ?_
      exact tMO_space_30 hQ x2_1 d_2 h
    · have h := Eq.mp (if_neg hc_6) h
      refine st_if (t := 24) (b := false) rfl (decide_eq_false hc_6) rfl ?_
      refine st_go 2 (pc' := 27) (lo' := [(3, .int x3_5), (2, .int x2_1), (0, .ref 42), (1, .int x1)]) (st' := [.int 65535, .int x3_5]) rfl ?_
      by_cases hc_9 : (65535 : Int32) < x3_5
      · have h := Eq.mp (if_pos hc_9) h
        refine st_icmp (t := 30) (b := false) rfl (decide_eq_false (Int32.not_le.mpr hc_9)) rfl ?_
        refine vmWp.sub (lo' := [(0, .ref 42), (2, .int x2_1)]) ⟨rfl, rfl, trivial⟩ ?_
        exact tMO_space_30 hQ x2_1 d_2 h
      · have h := Eq.mp (if_neg hc_9) h
        refine st_icmp (t := 37) (b := true) rfl (decide_eq_true (Int32.not_lt.mp hc_9)) rfl ?_
        refine st_go 4 (pc' := 43) (lo' := [(4, .int 0), (3, .int x3_5), (2, .int x2_1), (0, .ref 42), (1, .int x1)]) (st' := [.int 44, .ref 42]) rfl ?_
        refine st_calli (k' := 257) (as := [.ref 42, .int 44]) (rest := []) (lo' := [(0, .ref 42), (1, .int 44)]) (wf := fun d => wR L d e) rfl rfl rfl ?_
        refine tMO_isSign (fun r_11 d_10 h => ⟨r_11, d_10, rfl, rfl, ?_⟩) 44 d_2 h
        by_cases hc_12 : r_11 = 0
        · have h := Eq.mp (if_pos hc_12) h
          refine st_if (t := 106) (b := true) rfl (decide_eq_true hc_12) rfl ?_
          refine vmWp.sub (lo' := [(0, .ref 42), (1, .int x1), (3, .int x3_5), (4, .int 0)]) ⟨rfl, rfl, rfl, rfl, trivial⟩ ?_
          exact tMO_space_106 hQ x1 x3_5 0 d_10 h
        · have h := Eq.mp (if_neg hc_12) h
          refine st_if (t := 49) (b := false) rfl (decide_eq_false hc_12) rfl ?_
          refine st_go 1 (pc' := 50) (lo' := [(4, .int 0), (3, .int x3_5), (2, .int x2_1), (0, .ref 42), (1, .int x1)]) (st' := [.ref 42]) rfl ?_
          refine st_callv (k' := 252) (as := [.ref 42]) (rest := []) (lo' := [(0, .ref 42)]) (wf := fun d => wR L d e) rfl rfl rfl ?_
          refine tMO_next (fun d_24 h => ⟨d_24, rfl, rfl, ?_⟩) d_10 h
          refine st_go 3 (pc' := 58) (lo' := [(2, .int (gF d_24 42 4)), (4, .int 0), (3, .int x3_5), (0, .ref 42), (1, .int x1)]) (st' := []) rfl ?_
          refine st_locI (fun x2_25 hy_x2_25 => ?_)
          have h := h x2_25 hy_x2_25
          refine st_go 3 (pc' := 63) (lo' := [(2, .int x2_25), (4, .int 0), (3, .int x3_5), (0, .ref 42), (1, .int x1)]) (st' := [.int (gF d_24 42 42), .ref 42]) rfl ?_
          refine st_calli (k' := 269) (as := [.ref 42, .int (gF d_24 42 42)]) (rest := []) (lo' := [(0, .ref 42), (1, .int (gF d_24 42 42))]) (wf := fun d => wR L d e) rfl rfl rfl ?_
          refine tMO_expression (fun r_27 d_26 h => ⟨r_27, d_26, rfl, rfl, ?_⟩) (gF d_24 42 42) d_24 h
          by_cases hc_28 : r_27 = 0
          · have h := Eq.mp (if_pos hc_28) h
            refine st_if (t := 69) (b := false) rfl (decide_eq_false (fun z => z hc_28)) rfl ?_
            refine st_go 1 (pc' := 70) (lo' := [(2, .int x2_25), (4, .int 0), (3, .int x3_5), (0, .ref 42), (1, .int x1)]) (st' := [.int 0]) rfl ?_
            exact st_retZ rfl rfl (Or.inl rfl) (hQ _ _ h)
          · have h := Eq.mp (if_neg hc_28) h
            refine st_if (t := 71) (b := true) rfl (decide_eq_true hc_28) rfl ?_
            refine st_go 3 (pc' := 77) (lo' := [(4, .int (gF d_26 42 22)), (2, .int x2_25), (3, .int x3_5), (0, .ref 42), (1, .int x1)]) (st' := []) rfl ?_
            refine st_locI (fun x4_29 hy_x4_29 => ?_)
            have h := h x4_29 hy_x4_29
            refine st_go 2 (pc' := 81) (lo' := [(4, .int x4_29), (2, .int x2_25), (3, .int x3_5), (0, .ref 42), (1, .int x1)]) (st' := [.int (gF d_26 42 42)]) rfl ?_
            by_cases hc_30 : (gF d_26 42 42) = 0
            · have h := Eq.mp (if_pos hc_30) h
              refine st_if (t := 106) (b := true) rfl (decide_eq_true hc_30) rfl ?_
              refine vmWp.sub (lo' := [(0, .ref 42), (1, .int x1), (3, .int x3_5), (4, .int x4_29)]) ⟨rfl, rfl, rfl, rfl, trivial⟩ ?_
              exact tMO_space_106 hQ x1 x3_5 x4_29 d_26 h
            · have h := Eq.mp (if_neg hc_30) h
              refine st_if (t := 84) (b := false) rfl (decide_eq_false hc_30) rfl ?_
              refine st_go 2 (pc' := 88) (lo' := [(4, .int x4_29), (2, .int x2_25), (3, .int x3_5), (0, .ref 42), (1, .int x1)]) (st' := [.int (-128), .int x4_29]) rfl ?_
              by_cases hc_31 : x4_29 < (-128)
              · have h := Eq.mp (if_pos hc_31) h
                refine st_icmp (t := 99) (b := true) rfl (decide_eq_true hc_31) rfl ?_
                refine vmWp.sub (lo' := [(0, .ref 42), (2, .int x2_25)]) ⟨rfl, rfl, trivial⟩ ?_
                exact tMO_space_99 hQ x2_25 d_26 h
              · have h := Eq.mp (if_neg hc_31) h
                refine st_icmp (t := 91) (b := false) rfl (decide_eq_false hc_31) rfl ?_
                refine st_go 2 (pc' := 96) (lo' := [(4, .int x4_29), (2, .int x2_25), (3, .int x3_5), (0, .ref 42), (1, .int x1)]) (st' := [.int 255, .int x4_29]) rfl ?_
                by_cases hc_34 : (255 : Int32) < x4_29
                · have h := Eq.mp (if_pos hc_34) h
                  refine st_icmp (t := 99) (b := false) rfl (decide_eq_false (Int32.not_le.mpr hc_34)) rfl ?_
                  refine vmWp.sub (lo' := [(0, .ref 42), (2, .int x2_25)]) ⟨rfl, rfl, trivial⟩ ?_
                  exact tMO_space_99 hQ x2_25 d_26 h
                · have h := Eq.mp (if_neg hc_34) h
                  refine st_icmp (t := 106) (b := true) rfl (decide_eq_true (Int32.not_lt.mp hc_34)) rfl ?_
                  refine vmWp.sub (lo' := [(0, .ref 42), (1, .int x1), (3, .int x3_5), (4, .int x4_29)]) ⟨rfl, rfl, rfl, rfl, trivial⟩ ?_
                  exact tMO_space_106 hQ x1 x3_5 x4_29 d_26 h
set_option maxRecDepth 100000 in
def MO_directive_31 (s0 : Int32) (s1 : Int32) (d : vmD) (Q : Int32 → vmD → Prop) : Prop :=
  MO_data s1 s0 d fun r_4 d_3 =>
  (r_4 = 0 ∨ r_4 = 1) ∧ Q r_4 d_3
set_option maxRecDepth 100000 in
set_option maxHeartbeats 4000000 in
theorem tMO_directive_31 {L : Nat} {e : vmD} {Qo : Option Value → vmW → Prop} {Q : Int32 → vmD → Prop} (hQ : ∀ r d, Q r d → Qo (some (.int r)) (wR L d e)) (s0 : Int32) (s1 : Int32) (d : vmD) (h : MO_directive_31 s0 s1 d Q) : vmWp 310 31 [] [.int s0, .int s1, .ref 42] (wR L d e) Qo := by
  unfold MO_directive_31 at h
  refine st_calli (k' := 312) (as := [.ref 42, .int s1, .int s0]) (rest := []) (lo' := [(0, .ref 42), (1, .int s1), (2, .int s0)]) (wf := fun d => wR L d e) rfl rfl rfl ?_
  refine tMO_data (fun r_4 d_3 h => ⟨r_4, d_3, rfl, rfl, ?_⟩) s1 s0 d h
  exact st_retZ rfl rfl h.1 (hQ _ _ h.2)
set_option maxRecDepth 100000 in
def MO_directive_16 (x1 : Int32) (x2 : Int64) (d : vmD) (Q : Int32 → vmD → Prop) : Prop :=
  if (lg_cmp x2 17495) = 0 then
  (MO_directive_31 1 x1 d Q)
  else
  (MO_directive_31 0 x1 d Q)
set_option maxRecDepth 100000 in
set_option maxHeartbeats 4000000 in
theorem tMO_directive_16 {L : Nat} {e : vmD} {Qo : Option Value → vmW → Prop} {Q : Int32 → vmD → Prop} (hQ : ∀ r d, Q r d → Qo (some (.int r)) (wR L d e)) (x1 : Int32) (x2 : Int64) (d : vmD) (h : MO_directive_16 x1 x2 d Q) : vmWp 310 16 [(0, .ref 42), (1, .int x1), (2, .long x2)] [] (wR L d e) Qo := by
  unfold MO_directive_16 at h
  refine st_go 5 (pc' := 23) (lo' := [(0, .ref 42), (1, .int x1), (2, .long x2)]) (st' := [.int (lg_cmp x2 17495), .int x1, .ref 42]) rfl ?_
  by_cases hc_2 : (lg_cmp x2 17495) = 0
  · have h := Eq.mp (if_pos hc_2) h
    refine st_if (t := 26) (b := false) rfl (decide_eq_false (fun z => z hc_2)) rfl ?_
    refine st_go 2 (pc' := 31) (lo' := [(0, .ref 42), (1, .int x1), (2, .long x2)]) (st' := [.int 1, .int x1, .ref 42]) rfl ?_
    refine vmWp.sub (lo' := []) trivial ?_
    exact tMO_directive_31 hQ 1 x1 d h
  · have h := Eq.mp (if_neg hc_2) h
    refine st_if (t := 30) (b := true) rfl (decide_eq_true hc_2) rfl ?_
    refine st_go 1 (pc' := 31) (lo' := [(0, .ref 42), (1, .int x1), (2, .long x2)]) (st' := [.int 0, .int x1, .ref 42]) rfl ?_
    refine vmWp.sub (lo' := []) trivial ?_
    exact tMO_directive_31 hQ 0 x1 d h
set_option maxRecDepth 100000 in
def MO_directive_75 (x4 : Int32) (d : vmD) (Q : Int32 → vmD → Prop) : Prop :=
  MO_wrong 5 x4 d fun r_13 d_12 =>
  (r_13 = 0 ∨ r_13 = 1) ∧ Q r_13 d_12
set_option maxRecDepth 100000 in
set_option maxHeartbeats 4000000 in
theorem tMO_directive_75 {L : Nat} {e : vmD} {Qo : Option Value → vmW → Prop} {Q : Int32 → vmD → Prop} (hQ : ∀ r d, Q r d → Qo (some (.int r)) (wR L d e)) (x4 : Int32) (d : vmD) (h : MO_directive_75 x4 d Q) : vmWp 310 75 [(0, .ref 42), (4, .int x4)] [] (wR L d e) Qo := by
  unfold MO_directive_75 at h
  refine st_go 3 (pc' := 79) (lo' := [(0, .ref 42), (4, .int x4)]) (st' := [.int x4, .int 5, .ref 42]) rfl ?_
  refine st_calli (k' := 245) (as := [.ref 42, .int 5, .int x4]) (rest := []) (lo' := [(0, .ref 42), (1, .int 5), (2, .int x4)]) (wf := fun d => wR L d e) rfl rfl rfl ?_
  refine tMO_wrong (fun r_13 d_12 h => ⟨r_13, d_12, rfl, rfl, ?_⟩) 5 x4 d h
  exact st_retZ rfl rfl h.1 (hQ _ _ h.2)
set_option maxRecDepth 100000 in
def MO_directive_167 (s0 : Int32) (d : vmD) (Q : Int32 → vmD → Prop) : Prop :=
  if (gF d 42 3) = 1 then
  (ixOk (gF d 42 45) 9 ∧
  bnd (sA d 57 (gF d 42 45).toNatClampNeg (s0 &&& 1)) fun d_32 =>
  ixOk (gF d_32 42 45) 9 ∧
  bnd (sA d_32 58 (gF d_32 42 45).toNatClampNeg ((0 : Int32) &&& 1)) fun d_34 =>
  bnd (sF d_34 42 45 ((gF d_34 42 45) + 1)) fun d_35 =>
  Q 1 d_35)
  else
  (MO_refuse d fun r_37 d_36 =>
  (r_37 = 0 ∨ r_37 = 1) ∧ Q r_37 d_36)
set_option maxRecDepth 100000 in
set_option maxHeartbeats 4000000 in
theorem tMO_directive_167 {L : Nat} {e : vmD} {Qo : Option Value → vmW → Prop} {Q : Int32 → vmD → Prop} (hQ : ∀ r d, Q r d → Qo (some (.int r)) (wR L d e)) (s0 : Int32) (d : vmD) (h : MO_directive_167 s0 d Q) : vmWp 310 167 [(0, .ref 42)] [.int s0] (wR L d e) Qo := by
  unfold MO_directive_167 at h
  refine st_go 4 (pc' := 174) (lo' := [(4, .int s0), (0, .ref 42)]) (st' := [.int 1, .int (gF d 42 3)]) rfl ?_
  by_cases hc_30 : (gF d 42 3) = 1
  · have h := Eq.mp (if_pos hc_30) h
    refine st_icmp (t := 182) (b := true) rfl (decide_eq_true hc_30) rfl ?_
    refine st_go 5 (pc' := 192) (lo' := [(4, .int s0), (0, .ref 42)]) (st' := [.int s0, .int (gF d 42 45), .ref 57]) rfl ?_
    obtain ⟨hj_31, h⟩ := h
    refine st_zastR (o := 57) rfl rfl rfl hj_31 rfl (fun d_32 hy_d_32 => ?_)
    have h := h d_32 hy_d_32
    refine st_go 5 (pc' := 202) (lo' := [(4, .int s0), (0, .ref 42)]) (st' := [.int 0, .int (gF d_32 42 45), .ref 58]) rfl ?_
    obtain ⟨hj_33, h⟩ := h
    refine st_zastR (o := 58) rfl rfl rfl hj_33 rfl (fun d_34 hy_d_34 => ?_)
    have h := h d_34 hy_d_34
    refine st_go 5 (pc' := 210) (lo' := [(4, .int s0), (0, .ref 42)]) (st' := [.int ((gF d_34 42 45) + 1), .ref 42]) rfl ?_
    refine st_putIR (o := 42) (f := 45) rfl rfl rfl rfl rfl (fun d_35 hy_d_35 => ?_)
    have h := h d_35 hy_d_35
    refine st_go 1 (pc' := 214) (lo' := [(4, .int s0), (0, .ref 42)]) (st' := [.int 1]) rfl ?_
    exact st_retZ rfl rfl (Or.inr rfl) (hQ _ _ h)
  · have h := Eq.mp (if_neg hc_30) h
    refine st_icmp (t := 177) (b := false) rfl (decide_eq_false hc_30) rfl ?_
    refine st_go 1 (pc' := 178) (lo' := [(4, .int s0), (0, .ref 42)]) (st' := [.ref 42]) rfl ?_
    refine st_calli (k' := 246) (as := [.ref 42]) (rest := []) (lo' := [(0, .ref 42)]) (wf := fun d => wR L d e) rfl rfl rfl ?_
    refine tMO_refuse (fun r_37 d_36 h => ⟨r_37, d_36, rfl, rfl, ?_⟩) d h
    exact st_retZ rfl rfl h.1 (hQ _ _ h.2)
set_option maxRecDepth 100000 in
def MO_directive (x1 : Int32) (x2 : Int64) (d : vmD) (Q : Int32 → vmD → Prop) : Prop :=
  if (lg_cmp x2 17474) = 0 then
  (MO_directive_16 x1 x2 d Q)
  else
  (if (lg_cmp x2 17495) = 0 then
  (MO_directive_16 x1 x2 d Q)
  else
  (if (lg_cmp x2 5198407) = 0 then
  (bnd (gF d 42 4) fun x4_7 =>
  MO_expression 1 d fun r_9 d_8 =>
  if r_9 = 0 then
  (Q 0 d_8)
  else
  (if (gF d_8 42 22) < 0 then
  (MO_directive_75 x4_7 d_8 Q)
  else
  (if (65535 : Int32) < (gF d_8 42 22) then
  (MO_directive_75 x4_7 d_8 Q)
  else
  (if (gF d_8 42 3) = 1 then
  (bnd (sF d_8 42 20 (gF d_8 42 22)) fun d_16 =>
  Q 1 d_16)
  else
  (MO_refuse d_8 fun r_18 d_17 =>
  (r_18 = 0 ∨ r_18 = 1) ∧ Q r_18 d_17)))))
  else
  (if (lg_cmp x2 17491) = 0 then
  (MO_space x1 d fun r_21 d_20 =>
  (r_21 = 0 ∨ r_21 = 1) ∧ Q r_21 d_20)
  else
  (if (lg_cmp x2 18758) = 0 then
  (if (gF d 42 45) = 8 then
  (MO_wrong 7 x1 d fun r_25 d_24 =>
  (r_25 = 0 ∨ r_25 = 1) ∧ Q r_25 d_24)
  else
  (MO_expression 1 d fun r_27 d_26 =>
  if r_27 = 0 then
  (Q 0 d_26)
  else
  (if (gF d_26 42 22) = 0 then
  (MO_directive_167 0 d_26 Q)
  else
  (MO_directive_167 1 d_26 Q))))
  else
  (MO_turn x1 x2 0 d fun r_39 d_38 =>
  (r_39 = 0 ∨ r_39 = 1) ∧ Q r_39 d_38)))))
set_option maxRecDepth 100000 in
set_option maxHeartbeats 4000000 in
theorem tMO_directive {L : Nat} {e : vmD} {Qo : Option Value → vmW → Prop} {Q : Int32 → vmD → Prop} (hQ : ∀ r d, Q r d → Qo (some (.int r)) (wR L d e)) (x1 : Int32) (x2 : Int64) (d : vmD) (h : MO_directive x1 x2 d Q) : vmWp 310 0 [(0, .ref 42), (1, .int x1), (2, .long x2)] [] (wR L d e) Qo := by
  unfold MO_directive at h
  refine st_go 3 (pc' := 5) (lo' := [(0, .ref 42), (1, .int x1), (2, .long x2)]) (st' := [.int (lg_cmp x2 17474)]) rfl ?_
  by_cases hc_1 : (lg_cmp x2 17474) = 0
  · have h := Eq.mp (if_pos hc_1) h
    refine st_if (t := 16) (b := true) rfl (decide_eq_true hc_1) rfl ?_
    refine vmWp.sub (lo' := [(0, .ref 42), (1, .int x1), (2, .long x2)]) ⟨rfl, rfl, rfl, trivial⟩ ?_
    exact tMO_directive_16 hQ x1 x2 d h
  · have h := Eq.mp (if_neg hc_1) h
    refine st_if (t := 8) (b := false) rfl (decide_eq_false hc_1) rfl ?_
    refine st_go 3 (pc' := 13) (lo' := [(0, .ref 42), (1, .int x1), (2, .long x2)]) (st' := [.int (lg_cmp x2 17495)]) rfl ?_
    by_cases hc_5 : (lg_cmp x2 17495) = 0
    · have h := Eq.mp (if_pos hc_5) h
      refine st_if (t := 16) (b := false) rfl (decide_eq_false (fun z => z hc_5)) rfl ?_
      refine vmWp.sub (lo' := [(0, .ref 42), (1, .int x1), (2, .long x2)]) ⟨rfl, rfl, rfl, trivial⟩ ?_
      exact tMO_directive_16 hQ x1 x2 d h
    · have h := Eq.mp (if_neg hc_5) h
      refine st_if (t := 35) (b := true) rfl (decide_eq_true hc_5) rfl ?_
      refine st_go 3 (pc' := 40) (lo' := [(0, .ref 42), (1, .int x1), (2, .long x2)]) (st' := [.int (lg_cmp x2 5198407)]) rfl ?_
      by_cases hc_6 : (lg_cmp x2 5198407) = 0
      · have h := Eq.mp (if_pos hc_6) h
        refine st_if (t := 43) (b := false) rfl (decide_eq_false (fun z => z hc_6)) rfl ?_
        refine st_go 3 (pc' := 49) (lo' := [(4, .int (gF d 42 4)), (0, .ref 42), (1, .int x1), (2, .long x2)]) (st' := []) rfl ?_
        refine st_locI (fun x4_7 hy_x4_7 => ?_)
        have h := h x4_7 hy_x4_7
        refine st_go 2 (pc' := 51) (lo' := [(4, .int x4_7), (0, .ref 42), (1, .int x1), (2, .long x2)]) (st' := [.int 1, .ref 42]) rfl ?_
        refine st_calli (k' := 269) (as := [.ref 42, .int 1]) (rest := []) (lo' := [(0, .ref 42), (1, .int 1)]) (wf := fun d => wR L d e) rfl rfl rfl ?_
        refine tMO_expression (fun r_9 d_8 h => ⟨r_9, d_8, rfl, rfl, ?_⟩) 1 d h
        by_cases hc_10 : r_9 = 0
        · have h := Eq.mp (if_pos hc_10) h
          refine st_if (t := 57) (b := false) rfl (decide_eq_false (fun z => z hc_10)) rfl ?_
          refine st_go 1 (pc' := 58) (lo' := [(4, .int x4_7), (0, .ref 42), (1, .int x1), (2, .long x2)]) (st' := [.int 0]) rfl ?_
          exact st_retZ rfl rfl (Or.inl rfl) (hQ _ _ h)
        · have h := Eq.mp (if_neg hc_10) h
          refine st_if (t := 59) (b := true) rfl (decide_eq_true hc_10) rfl ?_
          refine st_go 2 (pc' := 63) (lo' := [(4, .int x4_7), (0, .ref 42), (1, .int x1), (2, .long x2)]) (st' := [.int (gF d_8 42 22)]) rfl ?_
          by_cases hc_11 : (gF d_8 42 22) < 0
          · have h := Eq.mp (if_pos hc_11) h
            refine st_if (t := 75) (b := true) rfl (decide_eq_true hc_11) rfl ?_
            refine vmWp.sub (lo' := [(0, .ref 42), (4, .int x4_7)]) ⟨rfl, rfl, trivial⟩ ?_
            exact tMO_directive_75 hQ x4_7 d_8 h
          · have h := Eq.mp (if_neg hc_11) h
            refine st_if (t := 66) (b := false) rfl (decide_eq_false hc_11) rfl ?_
            refine st_go 3 (pc' := 72) (lo' := [(4, .int x4_7), (0, .ref 42), (1, .int x1), (2, .long x2)]) (st' := [.int 65535, .int (gF d_8 42 22)]) rfl ?_
            by_cases hc_14 : (65535 : Int32) < (gF d_8 42 22)
            · have h := Eq.mp (if_pos hc_14) h
              refine st_icmp (t := 75) (b := false) rfl (decide_eq_false (Int32.not_le.mpr hc_14)) rfl ?_
              refine vmWp.sub (lo' := [(0, .ref 42), (4, .int x4_7)]) ⟨rfl, rfl, trivial⟩ ?_
              exact tMO_directive_75 hQ x4_7 d_8 h
            · have h := Eq.mp (if_neg hc_14) h
              refine st_icmp (t := 83) (b := true) rfl (decide_eq_true (Int32.not_lt.mp hc_14)) rfl ?_
              refine st_go 3 (pc' := 88) (lo' := [(4, .int x4_7), (0, .ref 42), (1, .int x1), (2, .long x2)]) (st' := [.int 1, .int (gF d_8 42 3)]) rfl ?_
              by_cases hc_15 : (gF d_8 42 3) = 1
              · have h := Eq.mp (if_pos hc_15) h
                refine st_icmp (t := 96) (b := true) rfl (decide_eq_true hc_15) rfl ?_
                refine st_go 3 (pc' := 101) (lo' := [(4, .int x4_7), (0, .ref 42), (1, .int x1), (2, .long x2)]) (st' := [.int (gF d_8 42 22), .ref 42]) rfl ?_
                refine st_putIR (o := 42) (f := 20) rfl rfl rfl rfl rfl (fun d_16 hy_d_16 => ?_)
                have h := h d_16 hy_d_16
                refine st_go 1 (pc' := 105) (lo' := [(4, .int x4_7), (0, .ref 42), (1, .int x1), (2, .long x2)]) (st' := [.int 1]) rfl ?_
                exact st_retZ rfl rfl (Or.inr rfl) (hQ _ _ h)
              · have h := Eq.mp (if_neg hc_15) h
                refine st_icmp (t := 91) (b := false) rfl (decide_eq_false hc_15) rfl ?_
                refine st_go 1 (pc' := 92) (lo' := [(4, .int x4_7), (0, .ref 42), (1, .int x1), (2, .long x2)]) (st' := [.ref 42]) rfl ?_
                refine st_calli (k' := 246) (as := [.ref 42]) (rest := []) (lo' := [(0, .ref 42)]) (wf := fun d => wR L d e) rfl rfl rfl ?_
                refine tMO_refuse (fun r_18 d_17 h => ⟨r_18, d_17, rfl, rfl, ?_⟩) d_8 h
                exact st_retZ rfl rfl h.1 (hQ _ _ h.2)
      · have h := Eq.mp (if_neg hc_6) h
        refine st_if (t := 106) (b := true) rfl (decide_eq_true hc_6) rfl ?_
        refine st_go 3 (pc' := 111) (lo' := [(0, .ref 42), (1, .int x1), (2, .long x2)]) (st' := [.int (lg_cmp x2 17491)]) rfl ?_
        by_cases hc_19 : (lg_cmp x2 17491) = 0
        · have h := Eq.mp (if_pos hc_19) h
          refine st_if (t := 114) (b := false) rfl (decide_eq_false (fun z => z hc_19)) rfl ?_
          refine st_go 2 (pc' := 116) (lo' := [(0, .ref 42), (1, .int x1), (2, .long x2)]) (st' := [.int x1, .ref 42]) rfl ?_
          refine st_calli (k' := 313) (as := [.ref 42, .int x1]) (rest := []) (lo' := [(0, .ref 42), (1, .int x1)]) (wf := fun d => wR L d e) rfl rfl rfl ?_
          refine tMO_space (fun r_21 d_20 h => ⟨r_21, d_20, rfl, rfl, ?_⟩) x1 d h
          exact st_retZ rfl rfl h.1 (hQ _ _ h.2)
        · have h := Eq.mp (if_neg hc_19) h
          refine st_if (t := 120) (b := true) rfl (decide_eq_true hc_19) rfl ?_
          refine st_go 3 (pc' := 125) (lo' := [(0, .ref 42), (1, .int x1), (2, .long x2)]) (st' := [.int (lg_cmp x2 18758)]) rfl ?_
          by_cases hc_22 : (lg_cmp x2 18758) = 0
          · have h := Eq.mp (if_pos hc_22) h
            refine st_if (t := 128) (b := false) rfl (decide_eq_false (fun z => z hc_22)) rfl ?_
            refine st_go 3 (pc' := 134) (lo' := [(0, .ref 42), (1, .int x1), (2, .long x2)]) (st' := [.int 8, .int (gF d 42 45)]) rfl ?_
            by_cases hc_23 : (gF d 42 45) = 8
            · have h := Eq.mp (if_pos hc_23) h
              refine st_icmp (t := 137) (b := false) rfl (decide_eq_false (fun z => z hc_23)) rfl ?_
              refine st_go 3 (pc' := 141) (lo' := [(0, .ref 42), (1, .int x1), (2, .long x2)]) (st' := [.int x1, .int 7, .ref 42]) rfl ?_
              refine st_calli (k' := 245) (as := [.ref 42, .int 7, .int x1]) (rest := []) (lo' := [(0, .ref 42), (1, .int 7), (2, .int x1)]) (wf := fun d => wR L d e) rfl rfl rfl ?_
              refine tMO_wrong (fun r_25 d_24 h => ⟨r_25, d_24, rfl, rfl, ?_⟩) 7 x1 d h
              exact st_retZ rfl rfl h.1 (hQ _ _ h.2)
            · have h := Eq.mp (if_neg hc_23) h
              refine st_icmp (t := 145) (b := true) rfl (decide_eq_true hc_23) rfl ?_
              refine st_go 2 (pc' := 147) (lo' := [(0, .ref 42), (1, .int x1), (2, .long x2)]) (st' := [.int 1, .ref 42]) rfl ?_
              refine st_calli (k' := 269) (as := [.ref 42, .int 1]) (rest := []) (lo' := [(0, .ref 42), (1, .int 1)]) (wf := fun d => wR L d e) rfl rfl rfl ?_
              refine tMO_expression (fun r_27 d_26 h => ⟨r_27, d_26, rfl, rfl, ?_⟩) 1 d h
              by_cases hc_28 : r_27 = 0
              · have h := Eq.mp (if_pos hc_28) h
                refine st_if (t := 153) (b := false) rfl (decide_eq_false (fun z => z hc_28)) rfl ?_
                refine st_go 1 (pc' := 154) (lo' := [(0, .ref 42), (1, .int x1), (2, .long x2)]) (st' := [.int 0]) rfl ?_
                exact st_retZ rfl rfl (Or.inl rfl) (hQ _ _ h)
              · have h := Eq.mp (if_neg hc_28) h
                refine st_if (t := 155) (b := true) rfl (decide_eq_true hc_28) rfl ?_
                refine st_go 2 (pc' := 159) (lo' := [(0, .ref 42), (1, .int x1), (2, .long x2)]) (st' := [.int (gF d_26 42 22)]) rfl ?_
                by_cases hc_29 : (gF d_26 42 22) = 0
                · have h := Eq.mp (if_pos hc_29) h
                  refine st_if (t := 166) (b := true) rfl (decide_eq_true hc_29) rfl ?_
                  refine st_go 1 (pc' := 167) (lo' := [(0, .ref 42), (1, .int x1), (2, .long x2)]) (st' := [.int 0]) rfl ?_
                  refine vmWp.sub (lo' := [(0, .ref 42)]) ⟨rfl, trivial⟩ ?_
                  exact tMO_directive_167 hQ 0 d_26 h
                · have h := Eq.mp (if_neg hc_29) h
                  refine st_if (t := 162) (b := false) rfl (decide_eq_false hc_29) rfl ?_
                  refine st_go 2 (pc' := 167) (lo' := [(0, .ref 42), (1, .int x1), (2, .long x2)]) (st' := [.int 1]) rfl ?_
                  refine vmWp.sub (lo' := [(0, .ref 42)]) ⟨rfl, trivial⟩ ?_
                  exact tMO_directive_167 hQ 1 d_26 h
          · have h := Eq.mp (if_neg hc_22) h
            refine st_if (t := 215) (b := true) rfl (decide_eq_true hc_22) rfl ?_
            refine st_go 4 (pc' := 219) (lo' := [(0, .ref 42), (1, .int x1), (2, .long x2)]) (st' := [.int 0, .long x2, .int x1, .ref 42]) rfl ?_
            refine st_calli (k' := 311) (as := [.ref 42, .int x1, .long x2, .int 0]) (rest := []) (lo' := [(0, .ref 42), (1, .int x1), (2, .long x2), (4, .int 0)]) (wf := fun d => wR L d e) rfl rfl rfl ?_
            refine tMO_turn (fun r_39 d_38 h => ⟨r_39, d_38, rfl, rfl, ?_⟩) x1 x2 0 d h
            exact st_retZ rfl rfl h.1 (hQ _ _ h.2)
set_option maxRecDepth 100000 in
def MO_statement_39 (x1 : Int32) (x2 : Int64) (d : vmD) (Q : Int32 → vmD → Prop) : Prop :=
  MO_readOperands d fun r_13 d_12 =>
  if r_13 = 0 then
  (Q 0 d_12)
  else
  (MO_encode x2 d_12 fun r_16 d_15 =>
  if r_16 = 0 then
  (MO_wrong 6 x1 d_15 fun r_19 d_18 =>
  (r_19 = 0 ∨ r_19 = 1) ∧ Q r_19 d_18)
  else
  (MO_lengthOf d_15 fun r_21 d_20 =>
  if (65536 : Int32) < ((gF d_20 42 20) + r_21) then
  (MO_wrong 8 x1 d_20 fun r_24 d_23 =>
  (r_24 = 0 ∨ r_24 = 1) ∧ Q r_24 d_23)
  else
  (if (gF d_20 42 42) = 0 then
  (bnd (sF d_20 42 20 ((gF d_20 42 20) + r_21)) fun d_26 =>
  Q 1 d_26)
  else
  (MO_layInstruction r_21 d_20 fun r_28 d_27 =>
  (r_28 = 0 ∨ r_28 = 1) ∧ Q r_28 d_27))))
set_option maxRecDepth 100000 in
set_option maxHeartbeats 4000000 in
theorem tMO_statement_39 {L : Nat} {e : vmD} {Qo : Option Value → vmW → Prop} {Q : Int32 → vmD → Prop} (hQ : ∀ r d, Q r d → Qo (some (.int r)) (wR L d e)) (x1 : Int32) (x2 : Int64) (d : vmD) (h : MO_statement_39 x1 x2 d Q) : vmWp 306 39 [(0, .ref 42), (1, .int x1), (2, .long x2)] [] (wR L d e) Qo := by
  unfold MO_statement_39 at h
  refine st_go 1 (pc' := 40) (lo' := [(0, .ref 42), (1, .int x1), (2, .long x2)]) (st' := [.ref 42]) rfl ?_
  refine st_calli (k' := 282) (as := [.ref 42]) (rest := []) (lo' := [(0, .ref 42)]) (wf := fun d => wR L d e) rfl rfl rfl ?_
  refine tMO_readOperands (fun r_13 d_12 h => ⟨r_13, d_12, rfl, rfl, ?_⟩) d h
  by_cases hc_14 : r_13 = 0
  · have h := Eq.mp (if_pos hc_14) h
    refine st_if (t := 46) (b := false) rfl (decide_eq_false (fun z => z hc_14)) rfl ?_
    refine st_go 1 (pc' := 47) (lo' := [(0, .ref 42), (1, .int x1), (2, .long x2)]) (st' := [.int 0]) rfl ?_
    exact st_retZ rfl rfl (Or.inl rfl) (hQ _ _ h)
  · have h := Eq.mp (if_neg hc_14) h
    refine st_if (t := 48) (b := true) rfl (decide_eq_true hc_14) rfl ?_
    refine st_go 2 (pc' := 50) (lo' := [(0, .ref 42), (1, .int x1), (2, .long x2)]) (st' := [.long x2, .ref 42]) rfl ?_
    refine st_calli (k' := 292) (as := [.ref 42, .long x2]) (rest := []) (lo' := [(0, .ref 42), (1, .long x2)]) (wf := fun d => wR L d e) rfl rfl rfl ?_
    refine tMO_encode (fun r_16 d_15 h => ⟨r_16, d_15, rfl, rfl, ?_⟩) x2 d_12 h
    by_cases hc_17 : r_16 = 0
    · have h := Eq.mp (if_pos hc_17) h
      refine st_if (t := 56) (b := false) rfl (decide_eq_false (fun z => z hc_17)) rfl ?_
      refine st_go 3 (pc' := 60) (lo' := [(0, .ref 42), (1, .int x1), (2, .long x2)]) (st' := [.int x1, .int 6, .ref 42]) rfl ?_
      refine st_calli (k' := 245) (as := [.ref 42, .int 6, .int x1]) (rest := []) (lo' := [(0, .ref 42), (1, .int 6), (2, .int x1)]) (wf := fun d => wR L d e) rfl rfl rfl ?_
      refine tMO_wrong (fun r_19 d_18 h => ⟨r_19, d_18, rfl, rfl, ?_⟩) 6 x1 d_15 h
      exact st_retZ rfl rfl h.1 (hQ _ _ h.2)
    · have h := Eq.mp (if_neg hc_17) h
      refine st_if (t := 64) (b := true) rfl (decide_eq_true hc_17) rfl ?_
      refine st_go 1 (pc' := 65) (lo' := [(0, .ref 42), (1, .int x1), (2, .long x2)]) (st' := [.ref 42]) rfl ?_
      refine st_calli (k' := 299) (as := [.ref 42]) (rest := []) (lo' := [(0, .ref 42)]) (wf := fun d => wR L d e) rfl rfl rfl ?_
      refine tMO_lengthOf (fun r_21 d_20 h => ⟨r_21, d_20, rfl, rfl, ?_⟩) d_15 h
      refine st_go 6 (pc' := 79) (lo' := [(4, .int r_21), (0, .ref 42), (1, .int x1), (2, .long x2)]) (st' := [.int 65536, .int ((gF d_20 42 20) + r_21)]) rfl ?_
      by_cases hc_22 : (65536 : Int32) < ((gF d_20 42 20) + r_21)
      · have h := Eq.mp (if_pos hc_22) h
        refine st_icmp (t := 82) (b := false) rfl (decide_eq_false (Int32.not_le.mpr hc_22)) rfl ?_
        refine st_go 3 (pc' := 86) (lo' := [(4, .int r_21), (0, .ref 42), (1, .int x1), (2, .long x2)]) (st' := [.int x1, .int 8, .ref 42]) rfl ?_
        refine st_calli (k' := 245) (as := [.ref 42, .int 8, .int x1]) (rest := []) (lo' := [(0, .ref 42), (1, .int 8), (2, .int x1)]) (wf := fun d => wR L d e) rfl rfl rfl ?_
        refine tMO_wrong (fun r_24 d_23 h => ⟨r_24, d_23, rfl, rfl, ?_⟩) 8 x1 d_20 h
        exact st_retZ rfl rfl h.1 (hQ _ _ h.2)
      · have h := Eq.mp (if_neg hc_22) h
        refine st_icmp (t := 90) (b := true) rfl (decide_eq_true (Int32.not_lt.mp hc_22)) rfl ?_
        refine st_go 2 (pc' := 94) (lo' := [(4, .int r_21), (0, .ref 42), (1, .int x1), (2, .long x2)]) (st' := [.int (gF d_20 42 42)]) rfl ?_
        by_cases hc_25 : (gF d_20 42 42) = 0
        · have h := Eq.mp (if_pos hc_25) h
          refine st_if (t := 97) (b := false) rfl (decide_eq_false (fun z => z hc_25)) rfl ?_
          refine st_go 5 (pc' := 105) (lo' := [(4, .int r_21), (0, .ref 42), (1, .int x1), (2, .long x2)]) (st' := [.int ((gF d_20 42 20) + r_21), .ref 42]) rfl ?_
          refine st_putIR (o := 42) (f := 20) rfl rfl rfl rfl rfl (fun d_26 hy_d_26 => ?_)
          have h := h d_26 hy_d_26
          refine st_go 1 (pc' := 109) (lo' := [(4, .int r_21), (0, .ref 42), (1, .int x1), (2, .long x2)]) (st' := [.int 1]) rfl ?_
          exact st_retZ rfl rfl (Or.inr rfl) (hQ _ _ h)
        · have h := Eq.mp (if_neg hc_25) h
          refine st_if (t := 110) (b := true) rfl (decide_eq_true hc_25) rfl ?_
          refine st_go 2 (pc' := 113) (lo' := [(4, .int r_21), (0, .ref 42), (1, .int x1), (2, .long x2)]) (st' := [.int r_21, .ref 42]) rfl ?_
          refine st_calli (k' := 309) (as := [.ref 42, .int r_21]) (rest := []) (lo' := [(0, .ref 42), (1, .int r_21)]) (wf := fun d => wR L d e) rfl rfl rfl ?_
          refine tMO_layInstruction (fun r_28 d_27 h => ⟨r_28, d_27, rfl, rfl, ?_⟩) r_21 d_20 h
          exact st_retZ rfl rfl h.1 (hQ _ _ h.2)
set_option maxRecDepth 100000 in
def MO_statement (x1 : Int32) (x2 : Int64) (d : vmD) (Q : Int32 → vmD → Prop) : Prop :=
  MO_isStatement x2 d fun r_2 d_1 =>
  if r_2 = 0 then
  (MO_plain x2 d_1 fun r_5 d_4 =>
  if r_5 < 0 then
  (MO_isMany x2 d_4 fun r_8 d_7 =>
  if r_8 = 0 then
  (MO_wrong 6 x1 d_7 fun r_11 d_10 =>
  (r_11 = 0 ∨ r_11 = 1) ∧ Q r_11 d_10)
  else
  (MO_statement_39 x1 x2 d_7 Q))
  else
  (MO_statement_39 x1 x2 d_4 Q))
  else
  (MO_directive x1 x2 d_1 fun r_30 d_29 =>
  (r_30 = 0 ∨ r_30 = 1) ∧ Q r_30 d_29)
set_option maxRecDepth 100000 in
set_option maxHeartbeats 4000000 in
theorem tMO_statement {L : Nat} {e : vmD} {Qo : Option Value → vmW → Prop} {Q : Int32 → vmD → Prop} (hQ : ∀ r d, Q r d → Qo (some (.int r)) (wR L d e)) (x1 : Int32) (x2 : Int64) (d : vmD) (h : MO_statement x1 x2 d Q) : vmWp 306 0 [(0, .ref 42), (1, .int x1), (2, .long x2)] [] (wR L d e) Qo := by
  unfold MO_statement at h
  refine st_go 2 (pc' := 2) (lo' := [(0, .ref 42), (1, .int x1), (2, .long x2)]) (st' := [.long x2, .ref 42]) rfl ?_
  refine st_calli (k' := 263) (as := [.ref 42, .long x2]) (rest := []) (lo' := [(0, .ref 42), (1, .long x2)]) (wf := fun d => wR L d e) rfl rfl rfl ?_
  refine tMO_isStatement (fun r_2 d_1 h => ⟨r_2, d_1, rfl, rfl, ?_⟩) x2 d h
  by_cases hc_3 : r_2 = 0
  · have h := Eq.mp (if_pos hc_3) h
    refine st_if (t := 15) (b := true) rfl (decide_eq_true hc_3) rfl ?_
    refine st_go 2 (pc' := 17) (lo' := [(0, .ref 42), (1, .int x1), (2, .long x2)]) (st' := [.long x2, .ref 42]) rfl ?_
    refine st_calli (k' := 265) (as := [.ref 42, .long x2]) (rest := []) (lo' := [(0, .ref 42), (1, .long x2)]) (wf := fun d => wR L d e) rfl rfl rfl ?_
    refine tMO_plain (fun r_5 d_4 h => ⟨r_5, d_4, rfl, rfl, ?_⟩) x2 d_1 h
    by_cases hc_6 : r_5 < 0
    · have h := Eq.mp (if_pos hc_6) h
      refine st_if (t := 23) (b := false) rfl (decide_eq_false (Int32.not_le.mpr hc_6)) rfl ?_
      refine st_go 2 (pc' := 25) (lo' := [(0, .ref 42), (1, .int x1), (2, .long x2)]) (st' := [.long x2, .ref 42]) rfl ?_
      refine st_calli (k' := 264) (as := [.ref 42, .long x2]) (rest := []) (lo' := [(0, .ref 42), (1, .long x2)]) (wf := fun d => wR L d e) rfl rfl rfl ?_
      refine tMO_isMany (fun r_8 d_7 h => ⟨r_8, d_7, rfl, rfl, ?_⟩) x2 d_4 h
      by_cases hc_9 : r_8 = 0
      · have h := Eq.mp (if_pos hc_9) h
        refine st_if (t := 31) (b := false) rfl (decide_eq_false (fun z => z hc_9)) rfl ?_
        refine st_go 3 (pc' := 35) (lo' := [(0, .ref 42), (1, .int x1), (2, .long x2)]) (st' := [.int x1, .int 6, .ref 42]) rfl ?_
        refine st_calli (k' := 245) (as := [.ref 42, .int 6, .int x1]) (rest := []) (lo' := [(0, .ref 42), (1, .int 6), (2, .int x1)]) (wf := fun d => wR L d e) rfl rfl rfl ?_
        refine tMO_wrong (fun r_11 d_10 h => ⟨r_11, d_10, rfl, rfl, ?_⟩) 6 x1 d_7 h
        exact st_retZ rfl rfl h.1 (hQ _ _ h.2)
      · have h := Eq.mp (if_neg hc_9) h
        refine st_if (t := 39) (b := true) rfl (decide_eq_true hc_9) rfl ?_
        refine vmWp.sub (lo' := [(0, .ref 42), (1, .int x1), (2, .long x2)]) ⟨rfl, rfl, rfl, trivial⟩ ?_
        exact tMO_statement_39 hQ x1 x2 d_7 h
    · have h := Eq.mp (if_neg hc_6) h
      refine st_if (t := 39) (b := true) rfl (decide_eq_true (Int32.not_lt.mp hc_6)) rfl ?_
      refine vmWp.sub (lo' := [(0, .ref 42), (1, .int x1), (2, .long x2)]) ⟨rfl, rfl, rfl, trivial⟩ ?_
      exact tMO_statement_39 hQ x1 x2 d_4 h
  · have h := Eq.mp (if_neg hc_3) h
    refine st_if (t := 8) (b := false) rfl (decide_eq_false hc_3) rfl ?_
    refine st_go 3 (pc' := 11) (lo' := [(0, .ref 42), (1, .int x1), (2, .long x2)]) (st' := [.long x2, .int x1, .ref 42]) rfl ?_
    refine st_calli (k' := 310) (as := [.ref 42, .int x1, .long x2]) (rest := []) (lo' := [(0, .ref 42), (1, .int x1), (2, .long x2)]) (wf := fun d => wR L d e) rfl rfl rfl ?_
    refine tMO_directive (fun r_30 d_29 h => ⟨r_30, d_29, rfl, rfl, ?_⟩) x1 x2 d_1 h
    exact st_retZ rfl rfl h.1 (hQ _ _ h.2)
set_option maxRecDepth 100000 in
def MO_tell_36 (x1 : Int32) (d : vmD) (Q : Int32 → vmD → Prop) : Prop :=
  MO_wrong 3 x1 d fun r_10 d_9 =>
  (r_10 = 0 ∨ r_10 = 1) ∧ Q r_10 d_9
set_option maxRecDepth 100000 in
set_option maxHeartbeats 4000000 in
theorem tMO_tell_36 {L : Nat} {e : vmD} {Qo : Option Value → vmW → Prop} {Q : Int32 → vmD → Prop} (hQ : ∀ r d, Q r d → Qo (some (.int r)) (wR L d e)) (x1 : Int32) (d : vmD) (h : MO_tell_36 x1 d Q) : vmWp 304 36 [(0, .ref 42), (1, .int x1)] [] (wR L d e) Qo := by
  unfold MO_tell_36 at h
  refine st_go 3 (pc' := 39) (lo' := [(0, .ref 42), (1, .int x1)]) (st' := [.int x1, .int 3, .ref 42]) rfl ?_
  refine st_calli (k' := 245) (as := [.ref 42, .int 3, .int x1]) (rest := []) (lo' := [(0, .ref 42), (1, .int 3), (2, .int x1)]) (wf := fun d => wR L d e) rfl rfl rfl ?_
  refine tMO_wrong (fun r_10 d_9 h => ⟨r_10, d_9, rfl, rfl, ?_⟩) 3 x1 d h
  exact st_retZ rfl rfl h.1 (hQ _ _ h.2)
set_option maxRecDepth 100000 in
def MO_tell (x1 : Int32) (x2 : Int32) (x3 : Int64) (x5 : Int32) (d : vmD) (Q : Int32 → vmD → Prop) : Prop :=
  if (gF d 42 42) = 0 then
  (MO_isReserved x3 d fun r_3 d_2 =>
  if r_3 = 0 then
  (MO_find x1 x2 d_2 fun r_6 d_5 =>
  if r_6 < 0 then
  (if (gF d_5 42 13) = 200 then
  (MO_tell_36 x1 d_5 Q)
  else
  (MO_addName x1 x2 x5 d_5 fun d_11 =>
  Q 1 d_11))
  else
  (MO_tell_36 x1 d_5 Q))
  else
  (MO_tell_36 x1 d_2 Q))
  else
  (Q 1 d)
set_option maxRecDepth 100000 in
set_option maxHeartbeats 4000000 in
theorem tMO_tell {L : Nat} {e : vmD} {Qo : Option Value → vmW → Prop} {Q : Int32 → vmD → Prop} (hQ : ∀ r d, Q r d → Qo (some (.int r)) (wR L d e)) (x1 : Int32) (x2 : Int32) (x3 : Int64) (x5 : Int32) (d : vmD) (h : MO_tell x1 x2 x3 x5 d Q) : vmWp 304 0 [(0, .ref 42), (1, .int x1), (2, .int x2), (3, .long x3), (5, .int x5)] [] (wR L d e) Qo := by
  unfold MO_tell at h
  refine st_go 2 (pc' := 4) (lo' := [(0, .ref 42), (1, .int x1), (2, .int x2), (3, .long x3), (5, .int x5)]) (st' := [.int (gF d 42 42)]) rfl ?_
  by_cases hc_1 : (gF d 42 42) = 0
  · have h := Eq.mp (if_pos hc_1) h
    refine st_if (t := 9) (b := true) rfl (decide_eq_true hc_1) rfl ?_
    refine st_go 2 (pc' := 11) (lo' := [(0, .ref 42), (1, .int x1), (2, .int x2), (3, .long x3), (5, .int x5)]) (st' := [.long x3, .ref 42]) rfl ?_
    refine st_calli (k' := 262) (as := [.ref 42, .long x3]) (rest := []) (lo' := [(0, .ref 42), (1, .long x3)]) (wf := fun d => wR L d e) rfl rfl rfl ?_
    refine tMO_isReserved (fun r_3 d_2 h => ⟨r_3, d_2, rfl, rfl, ?_⟩) x3 d h
    by_cases hc_4 : r_3 = 0
    · have h := Eq.mp (if_pos hc_4) h
      refine st_if (t := 17) (b := false) rfl (decide_eq_false (fun z => z hc_4)) rfl ?_
      refine st_go 3 (pc' := 20) (lo' := [(0, .ref 42), (1, .int x1), (2, .int x2), (3, .long x3), (5, .int x5)]) (st' := [.int x2, .int x1, .ref 42]) rfl ?_
      refine st_calli (k' := 259) (as := [.ref 42, .int x1, .int x2]) (rest := []) (lo' := [(0, .ref 42), (1, .int x1), (2, .int x2)]) (wf := fun d => wR L d e) rfl rfl rfl ?_
      refine tMO_find (fun r_6 d_5 h => ⟨r_6, d_5, rfl, rfl, ?_⟩) x1 x2 d_2 h
      by_cases hc_7 : r_6 < 0
      · have h := Eq.mp (if_pos hc_7) h
        refine st_if (t := 26) (b := false) rfl (decide_eq_false (Int32.not_le.mpr hc_7)) rfl ?_
        refine st_go 3 (pc' := 33) (lo' := [(0, .ref 42), (1, .int x1), (2, .int x2), (3, .long x3), (5, .int x5)]) (st' := [.int 200, .int (gF d_5 42 13)]) rfl ?_
        by_cases hc_8 : (gF d_5 42 13) = 200
        · have h := Eq.mp (if_pos hc_8) h
          refine st_icmp (t := 36) (b := false) rfl (decide_eq_false (fun z => z hc_8)) rfl ?_
          refine vmWp.sub (lo' := [(0, .ref 42), (1, .int x1)]) ⟨rfl, rfl, trivial⟩ ?_
          exact tMO_tell_36 hQ x1 d_5 h
        · have h := Eq.mp (if_neg hc_8) h
          refine st_icmp (t := 43) (b := true) rfl (decide_eq_true hc_8) rfl ?_
          refine st_go 4 (pc' := 48) (lo' := [(0, .ref 42), (1, .int x1), (2, .int x2), (3, .long x3), (5, .int x5)]) (st' := [.int x5, .int x2, .int x1, .ref 42]) rfl ?_
          refine st_callv (k' := 260) (as := [.ref 42, .int x1, .int x2, .int x5]) (rest := []) (lo' := [(0, .ref 42), (1, .int x1), (2, .int x2), (3, .int x5)]) (wf := fun d => wR L d e) rfl rfl rfl ?_
          refine tMO_addName (fun d_11 h => ⟨d_11, rfl, rfl, ?_⟩) x1 x2 x5 d_5 h
          refine st_go 1 (pc' := 52) (lo' := [(0, .ref 42), (1, .int x1), (2, .int x2), (3, .long x3), (5, .int x5)]) (st' := [.int 1]) rfl ?_
          exact st_retZ rfl rfl (Or.inr rfl) (hQ _ _ h)
      · have h := Eq.mp (if_neg hc_7) h
        refine st_if (t := 36) (b := true) rfl (decide_eq_true (Int32.not_lt.mp hc_7)) rfl ?_
        refine vmWp.sub (lo' := [(0, .ref 42), (1, .int x1)]) ⟨rfl, rfl, trivial⟩ ?_
        exact tMO_tell_36 hQ x1 d_5 h
    · have h := Eq.mp (if_neg hc_4) h
      refine st_if (t := 36) (b := true) rfl (decide_eq_true hc_4) rfl ?_
      refine vmWp.sub (lo' := [(0, .ref 42), (1, .int x1)]) ⟨rfl, rfl, trivial⟩ ?_
      exact tMO_tell_36 hQ x1 d_2 h
  · have h := Eq.mp (if_neg hc_1) h
    refine st_if (t := 7) (b := false) rfl (decide_eq_false hc_1) rfl ?_
    refine st_go 1 (pc' := 8) (lo' := [(0, .ref 42), (1, .int x1), (2, .int x2), (3, .long x3), (5, .int x5)]) (st' := [.int 1]) rfl ?_
    exact st_retZ rfl rfl (Or.inr rfl) (hQ _ _ h)
set_option maxRecDepth 100000 in
def MO_readLine_174 (x1 : Int32) (x3 : Int64) (d : vmD) (Q : Int32 → vmD → Prop) : Prop :=
  MO_statement x1 x3 d fun r_22 d_21 =>
  (r_22 = 0 ∨ r_22 = 1) ∧ Q r_22 d_21
set_option maxRecDepth 100000 in
set_option maxHeartbeats 4000000 in
theorem tMO_readLine_174 {L : Nat} {e : vmD} {Qo : Option Value → vmW → Prop} {Q : Int32 → vmD → Prop} (hQ : ∀ r d, Q r d → Qo (some (.int r)) (wR L d e)) (x1 : Int32) (x3 : Int64) (d : vmD) (h : MO_readLine_174 x1 x3 d Q) : vmWp 303 174 [(0, .ref 42), (1, .int x1), (3, .long x3)] [] (wR L d e) Qo := by
  unfold MO_readLine_174 at h
  refine st_go 3 (pc' := 177) (lo' := [(0, .ref 42), (1, .int x1), (3, .long x3)]) (st' := [.long x3, .int x1, .ref 42]) rfl ?_
  refine st_calli (k' := 306) (as := [.ref 42, .int x1, .long x3]) (rest := []) (lo' := [(0, .ref 42), (1, .int x1), (2, .long x3)]) (wf := fun d => wR L d e) rfl rfl rfl ?_
  refine tMO_statement (fun r_22 d_21 h => ⟨r_22, d_21, rfl, rfl, ?_⟩) x1 x3 d h
  exact st_retZ rfl rfl h.1 (hQ _ _ h.2)
set_option maxRecDepth 100000 in
def MO_readLine_143 (x1 : Int32) (x2 : Int32) (x3 : Int64) (d : vmD) (Q : Int32 → vmD → Prop) : Prop :=
  if (gF d 42 3) = 2 then
  (if (lg_cmp (gG d 42 7) 4542805) = 0 then
  (MO_next d fun d_18 =>
  MO_equal x1 x2 x3 d_18 fun r_20 d_19 =>
  (r_20 = 0 ∨ r_20 = 1) ∧ Q r_20 d_19)
  else
  (MO_readLine_174 x1 x3 d Q))
  else
  (MO_readLine_174 x1 x3 d Q)
set_option maxRecDepth 100000 in
set_option maxHeartbeats 4000000 in
theorem tMO_readLine_143 {L : Nat} {e : vmD} {Qo : Option Value → vmW → Prop} {Q : Int32 → vmD → Prop} (hQ : ∀ r d, Q r d → Qo (some (.int r)) (wR L d e)) (x1 : Int32) (x2 : Int32) (x3 : Int64) (d : vmD) (h : MO_readLine_143 x1 x2 x3 d Q) : vmWp 303 143 [(0, .ref 42), (1, .int x1), (2, .int x2), (3, .long x3)] [] (wR L d e) Qo := by
  unfold MO_readLine_143 at h
  refine st_go 3 (pc' := 148) (lo' := [(0, .ref 42), (1, .int x1), (2, .int x2), (3, .long x3)]) (st' := [.int 2, .int (gF d 42 3)]) rfl ?_
  by_cases hc_16 : (gF d 42 3) = 2
  · have h := Eq.mp (if_pos hc_16) h
    refine st_icmp (t := 151) (b := false) rfl (decide_eq_false (fun z => z hc_16)) rfl ?_
    refine st_go 4 (pc' := 159) (lo' := [(0, .ref 42), (1, .int x1), (2, .int x2), (3, .long x3)]) (st' := [.int (lg_cmp (gG d 42 7) 4542805)]) rfl ?_
    by_cases hc_17 : (lg_cmp (gG d 42 7) 4542805) = 0
    · have h := Eq.mp (if_pos hc_17) h
      refine st_if (t := 162) (b := false) rfl (decide_eq_false (fun z => z hc_17)) rfl ?_
      refine st_go 1 (pc' := 163) (lo' := [(0, .ref 42), (1, .int x1), (2, .int x2), (3, .long x3)]) (st' := [.ref 42]) rfl ?_
      refine st_callv (k' := 252) (as := [.ref 42]) (rest := []) (lo' := [(0, .ref 42)]) (wf := fun d => wR L d e) rfl rfl rfl ?_
      refine tMO_next (fun d_18 h => ⟨d_18, rfl, rfl, ?_⟩) d h
      refine st_go 4 (pc' := 170) (lo' := [(0, .ref 42), (1, .int x1), (2, .int x2), (3, .long x3)]) (st' := [.long x3, .int x2, .int x1, .ref 42]) rfl ?_
      refine st_calli (k' := 305) (as := [.ref 42, .int x1, .int x2, .long x3]) (rest := []) (lo' := [(0, .ref 42), (1, .int x1), (2, .int x2), (3, .long x3)]) (wf := fun d => wR L d e) rfl rfl rfl ?_
      refine tMO_equal (fun r_20 d_19 h => ⟨r_20, d_19, rfl, rfl, ?_⟩) x1 x2 x3 d_18 h
      exact st_retZ rfl rfl h.1 (hQ _ _ h.2)
    · have h := Eq.mp (if_neg hc_17) h
      refine st_if (t := 174) (b := true) rfl (decide_eq_true hc_17) rfl ?_
      refine vmWp.sub (lo' := [(0, .ref 42), (1, .int x1), (3, .long x3)]) ⟨rfl, rfl, rfl, trivial⟩ ?_
      exact tMO_readLine_174 hQ x1 x3 d h
  · have h := Eq.mp (if_neg hc_16) h
    refine st_icmp (t := 174) (b := true) rfl (decide_eq_true hc_16) rfl ?_
    refine vmWp.sub (lo' := [(0, .ref 42), (1, .int x1), (3, .long x3)]) ⟨rfl, rfl, rfl, trivial⟩ ?_
    exact tMO_readLine_174 hQ x1 x3 d h
set_option maxRecDepth 100000 in
def MO_readLine (d : vmD) (Q : Int32 → vmD → Prop) : Prop :=
  bnd (sF d 42 21 (gF d 42 20)) fun d_1 =>
  MO_isDone d_1 fun r_3 d_2 =>
  if r_3 = 0 then
  (MO_skipLine d_2 fun r_6 d_5 =>
  (r_6 = 0 ∨ r_6 = 1) ∧ Q r_6 d_5)
  else
  (MO_next d_2 fun d_7 =>
  if (gF d_7 42 3) = 2 then
  (bnd (gF d_7 42 4) fun x1_9 =>
  bnd (gF d_7 42 5) fun x2_10 =>
  bnd (gG d_7 42 7) fun x3_11 =>
  MO_next d_7 fun d_12 =>
  MO_isSign 58 d_12 fun r_14 d_13 =>
  if r_14 = 0 then
  (MO_readLine_143 x1_9 x2_10 x3_11 d_13 Q)
  else
  (MO_tell x1_9 x2_10 x3_11 (gF d_13 42 20) d_13 fun r_24 d_23 =>
  if r_24 = 0 then
  (Q 0 d_23)
  else
  (MO_next d_23 fun d_26 =>
  if (gF d_26 42 3) = 1 then
  (Q 1 d_26)
  else
  (if (gF d_26 42 3) = 2 then
  (bnd (gF d_26 42 4) fun x1_29 =>
  bnd (gF d_26 42 5) fun x2_30 =>
  bnd (gG d_26 42 7) fun x3_31 =>
  MO_next d_26 fun d_32 =>
  MO_readLine_143 x1_29 x2_30 x3_31 d_32 Q)
  else
  (MO_refuse d_26 fun r_34 d_33 =>
  (r_34 = 0 ∨ r_34 = 1) ∧ Q r_34 d_33)))))
  else
  (if (gF d_7 42 3) = 1 then
  (Q 1 d_7)
  else
  (MO_refuse d_7 fun r_37 d_36 =>
  if r_37 = 0 then
  (Q 0 d_36)
  else
  (Q 1 d_36))))
set_option maxRecDepth 100000 in
set_option maxHeartbeats 4000000 in
theorem tMO_readLine {L : Nat} {e : vmD} {Qo : Option Value → vmW → Prop} {Q : Int32 → vmD → Prop} (hQ : ∀ r d, Q r d → Qo (some (.int r)) (wR L d e)) (d : vmD) (h : MO_readLine d Q) : vmWp 303 0 [(0, .ref 42)] [] (wR L d e) Qo := by
  unfold MO_readLine at h
  refine st_go 3 (pc' := 5) (lo' := [(0, .ref 42)]) (st' := [.int (gF d 42 20), .ref 42]) rfl ?_
  refine st_putIR (o := 42) (f := 21) rfl rfl rfl rfl rfl (fun d_1 hy_d_1 => ?_)
  have h := h d_1 hy_d_1
  refine st_go 1 (pc' := 9) (lo' := [(0, .ref 42)]) (st' := [.ref 42]) rfl ?_
  refine st_calli (k' := 301) (as := [.ref 42]) (rest := []) (lo' := [(0, .ref 42)]) (wf := fun d => wR L d e) rfl rfl rfl ?_
  refine tMO_isDone (fun r_3 d_2 h => ⟨r_3, d_2, rfl, rfl, ?_⟩) d_1 h
  by_cases hc_4 : r_3 = 0
  · have h := Eq.mp (if_pos hc_4) h
    refine st_if (t := 15) (b := false) rfl (decide_eq_false (fun z => z hc_4)) rfl ?_
    refine st_go 1 (pc' := 16) (lo' := [(0, .ref 42)]) (st' := [.ref 42]) rfl ?_
    refine st_calli (k' := 315) (as := [.ref 42]) (rest := []) (lo' := [(0, .ref 42)]) (wf := fun d => wR L d e) rfl rfl rfl ?_
    refine tMO_skipLine (fun r_6 d_5 h => ⟨r_6, d_5, rfl, rfl, ?_⟩) d_2 h
    exact st_retZ rfl rfl h.1 (hQ _ _ h.2)
  · have h := Eq.mp (if_neg hc_4) h
    refine st_if (t := 20) (b := true) rfl (decide_eq_true hc_4) rfl ?_
    refine st_go 1 (pc' := 21) (lo' := [(0, .ref 42)]) (st' := [.ref 42]) rfl ?_
    refine st_callv (k' := 252) (as := [.ref 42]) (rest := []) (lo' := [(0, .ref 42)]) (wf := fun d => wR L d e) rfl rfl rfl ?_
    refine tMO_next (fun d_7 h => ⟨d_7, rfl, rfl, ?_⟩) d_2 h
    refine st_go 3 (pc' := 29) (lo' := [(0, .ref 42)]) (st' := [.int 2, .int (gF d_7 42 3)]) rfl ?_
    by_cases hc_8 : (gF d_7 42 3) = 2
    · have h := Eq.mp (if_pos hc_8) h
      refine st_icmp (t := 53) (b := true) rfl (decide_eq_true hc_8) rfl ?_
      refine st_go 3 (pc' := 58) (lo' := [(1, .int (gF d_7 42 4)), (0, .ref 42)]) (st' := []) rfl ?_
      refine st_locI (fun x1_9 hy_x1_9 => ?_)
      have h := h x1_9 hy_x1_9
      refine st_go 3 (pc' := 63) (lo' := [(2, .int (gF d_7 42 5)), (1, .int x1_9), (0, .ref 42)]) (st' := []) rfl ?_
      refine st_locI (fun x2_10 hy_x2_10 => ?_)
      have h := h x2_10 hy_x2_10
      refine st_go 3 (pc' := 68) (lo' := [(3, .long (gG d_7 42 7)), (2, .int x2_10), (1, .int x1_9), (0, .ref 42)]) (st' := []) rfl ?_
      refine st_locJ (fun x3_11 hy_x3_11 => ?_)
      have h := h x3_11 hy_x3_11
      refine st_go 1 (pc' := 69) (lo' := [(3, .long x3_11), (2, .int x2_10), (1, .int x1_9), (0, .ref 42)]) (st' := [.ref 42]) rfl ?_
      refine st_callv (k' := 252) (as := [.ref 42]) (rest := []) (lo' := [(0, .ref 42)]) (wf := fun d => wR L d e) rfl rfl rfl ?_
      refine tMO_next (fun d_12 h => ⟨d_12, rfl, rfl, ?_⟩) d_7 h
      refine st_go 2 (pc' := 75) (lo' := [(3, .long x3_11), (2, .int x2_10), (1, .int x1_9), (0, .ref 42)]) (st' := [.int 58, .ref 42]) rfl ?_
      refine st_calli (k' := 257) (as := [.ref 42, .int 58]) (rest := []) (lo' := [(0, .ref 42), (1, .int 58)]) (wf := fun d => wR L d e) rfl rfl rfl ?_
      refine tMO_isSign (fun r_14 d_13 h => ⟨r_14, d_13, rfl, rfl, ?_⟩) 58 d_12 h
      by_cases hc_15 : r_14 = 0
      · have h := Eq.mp (if_pos hc_15) h
        refine st_if (t := 143) (b := true) rfl (decide_eq_true hc_15) rfl ?_
        refine vmWp.sub (lo' := [(0, .ref 42), (1, .int x1_9), (2, .int x2_10), (3, .long x3_11)]) ⟨rfl, rfl, rfl, rfl, trivial⟩ ?_
        exact tMO_readLine_143 hQ x1_9 x2_10 x3_11 d_13 h
      · have h := Eq.mp (if_neg hc_15) h
        refine st_if (t := 81) (b := false) rfl (decide_eq_false hc_15) rfl ?_
        refine st_go 6 (pc' := 89) (lo' := [(3, .long x3_11), (2, .int x2_10), (1, .int x1_9), (0, .ref 42)]) (st' := [.int (gF d_13 42 20), .long x3_11, .int x2_10, .int x1_9, .ref 42]) rfl ?_
        refine st_calli (k' := 304) (as := [.ref 42, .int x1_9, .int x2_10, .long x3_11, .int (gF d_13 42 20)]) (rest := []) (lo' := [(0, .ref 42), (1, .int x1_9), (2, .int x2_10), (3, .long x3_11), (5, .int (gF d_13 42 20))]) (wf := fun d => wR L d e) rfl rfl rfl ?_
        refine tMO_tell (fun r_24 d_23 h => ⟨r_24, d_23, rfl, rfl, ?_⟩) x1_9 x2_10 x3_11 (gF d_13 42 20) d_13 h
        by_cases hc_25 : r_24 = 0
        · have h := Eq.mp (if_pos hc_25) h
          refine st_if (t := 95) (b := false) rfl (decide_eq_false (fun z => z hc_25)) rfl ?_
          refine st_go 1 (pc' := 96) (lo' := [(3, .long x3_11), (2, .int x2_10), (1, .int x1_9), (0, .ref 42)]) (st' := [.int 0]) rfl ?_
          exact st_retZ rfl rfl (Or.inl rfl) (hQ _ _ h)
        · have h := Eq.mp (if_neg hc_25) h
          refine st_if (t := 97) (b := true) rfl (decide_eq_true hc_25) rfl ?_
          refine st_go 1 (pc' := 98) (lo' := [(3, .long x3_11), (2, .int x2_10), (1, .int x1_9), (0, .ref 42)]) (st' := [.ref 42]) rfl ?_
          refine st_callv (k' := 252) (as := [.ref 42]) (rest := []) (lo' := [(0, .ref 42)]) (wf := fun d => wR L d e) rfl rfl rfl ?_
          refine tMO_next (fun d_26 h => ⟨d_26, rfl, rfl, ?_⟩) d_23 h
          refine st_go 3 (pc' := 106) (lo' := [(3, .long x3_11), (2, .int x2_10), (1, .int x1_9), (0, .ref 42)]) (st' := [.int 1, .int (gF d_26 42 3)]) rfl ?_
          by_cases hc_27 : (gF d_26 42 3) = 1
          · have h := Eq.mp (if_pos hc_27) h
            refine st_icmp (t := 109) (b := false) rfl (decide_eq_false (fun z => z hc_27)) rfl ?_
            refine st_go 1 (pc' := 110) (lo' := [(3, .long x3_11), (2, .int x2_10), (1, .int x1_9), (0, .ref 42)]) (st' := [.int 1]) rfl ?_
            exact st_retZ rfl rfl (Or.inr rfl) (hQ _ _ h)
          · have h := Eq.mp (if_neg hc_27) h
            refine st_icmp (t := 111) (b := true) rfl (decide_eq_true hc_27) rfl ?_
            refine st_go 3 (pc' := 116) (lo' := [(3, .long x3_11), (2, .int x2_10), (1, .int x1_9), (0, .ref 42)]) (st' := [.int 2, .int (gF d_26 42 3)]) rfl ?_
            by_cases hc_28 : (gF d_26 42 3) = 2
            · have h := Eq.mp (if_pos hc_28) h
              refine st_icmp (t := 124) (b := true) rfl (decide_eq_true hc_28) rfl ?_
              refine st_go 3 (pc' := 129) (lo' := [(1, .int (gF d_26 42 4)), (3, .long x3_11), (2, .int x2_10), (0, .ref 42)]) (st' := []) rfl ?_
              refine st_locI (fun x1_29 hy_x1_29 => ?_)
              have h := h x1_29 hy_x1_29
              refine st_go 3 (pc' := 134) (lo' := [(2, .int (gF d_26 42 5)), (1, .int x1_29), (3, .long x3_11), (0, .ref 42)]) (st' := []) rfl ?_
              refine st_locI (fun x2_30 hy_x2_30 => ?_)
              have h := h x2_30 hy_x2_30
              refine st_go 3 (pc' := 139) (lo' := [(3, .long (gG d_26 42 7)), (2, .int x2_30), (1, .int x1_29), (0, .ref 42)]) (st' := []) rfl ?_
              refine st_locJ (fun x3_31 hy_x3_31 => ?_)
              have h := h x3_31 hy_x3_31
              refine st_go 1 (pc' := 140) (lo' := [(3, .long x3_31), (2, .int x2_30), (1, .int x1_29), (0, .ref 42)]) (st' := [.ref 42]) rfl ?_
              refine st_callv (k' := 252) (as := [.ref 42]) (rest := []) (lo' := [(0, .ref 42)]) (wf := fun d => wR L d e) rfl rfl rfl ?_
              refine tMO_next (fun d_32 h => ⟨d_32, rfl, rfl, ?_⟩) d_26 h
              refine vmWp.sub (lo' := [(0, .ref 42), (1, .int x1_29), (2, .int x2_30), (3, .long x3_31)]) ⟨rfl, rfl, rfl, rfl, trivial⟩ ?_
              exact tMO_readLine_143 hQ x1_29 x2_30 x3_31 d_32 h
            · have h := Eq.mp (if_neg hc_28) h
              refine st_icmp (t := 119) (b := false) rfl (decide_eq_false hc_28) rfl ?_
              refine st_go 1 (pc' := 120) (lo' := [(3, .long x3_11), (2, .int x2_10), (1, .int x1_9), (0, .ref 42)]) (st' := [.ref 42]) rfl ?_
              refine st_calli (k' := 246) (as := [.ref 42]) (rest := []) (lo' := [(0, .ref 42)]) (wf := fun d => wR L d e) rfl rfl rfl ?_
              refine tMO_refuse (fun r_34 d_33 h => ⟨r_34, d_33, rfl, rfl, ?_⟩) d_26 h
              exact st_retZ rfl rfl h.1 (hQ _ _ h.2)
    · have h := Eq.mp (if_neg hc_8) h
      refine st_icmp (t := 32) (b := false) rfl (decide_eq_false hc_8) rfl ?_
      refine st_go 3 (pc' := 37) (lo' := [(0, .ref 42)]) (st' := [.int 1, .int (gF d_7 42 3)]) rfl ?_
      by_cases hc_35 : (gF d_7 42 3) = 1
      · have h := Eq.mp (if_pos hc_35) h
        refine st_icmp (t := 47) (b := true) rfl (decide_eq_true hc_35) rfl ?_
        refine st_go 2 (pc' := 52) (lo' := [(0, .ref 42)]) (st' := [.int 1]) rfl ?_
        exact st_retZ rfl rfl (Or.inr rfl) (hQ _ _ h)
      · have h := Eq.mp (if_neg hc_35) h
        refine st_icmp (t := 40) (b := false) rfl (decide_eq_false hc_35) rfl ?_
        refine st_go 1 (pc' := 41) (lo' := [(0, .ref 42)]) (st' := [.ref 42]) rfl ?_
        refine st_calli (k' := 246) (as := [.ref 42]) (rest := []) (lo' := [(0, .ref 42)]) (wf := fun d => wR L d e) rfl rfl rfl ?_
        refine tMO_refuse (fun r_37 d_36 h => ⟨r_37, d_36, rfl, rfl, ?_⟩) d_7 h
        by_cases hc_38 : r_37 = 0
        · have h := Eq.mp (if_pos hc_38) h
          refine st_if (t := 51) (b := true) rfl (decide_eq_true hc_38) rfl ?_
          refine st_go 1 (pc' := 52) (lo' := [(0, .ref 42)]) (st' := [.int 0]) rfl ?_
          exact st_retZ rfl rfl (Or.inl rfl) (hQ _ _ h)
        · have h := Eq.mp (if_neg hc_38) h
          refine st_if (t := 47) (b := false) rfl (decide_eq_false hc_38) rfl ?_
          refine st_go 2 (pc' := 52) (lo' := [(0, .ref 42)]) (st' := [.int 1]) rfl ?_
          exact st_retZ rfl rfl (Or.inr rfl) (hQ _ _ h)
set_option maxRecDepth 100000 in
def MO_pass_71 (b20 : vmD → Prop) (Q : Int32 → vmD → Prop) : Nat → vmD → Prop
  | 0, _ => False
  | n + 1, d => MO_byteAt (gF d 42 2) d fun r_14 d_13 =>
  if r_14 = 10 then
  (bnd (sF d_13 42 2 ((gF d_13 42 2) + 1)) fun d_16 =>
  b20 d_16)
  else
  (bnd (sF d_13 42 2 ((gF d_13 42 2) + 1)) fun d_17 =>
  (MO_pass_71 b20 Q n) d_17)
set_option maxRecDepth 100000 in
set_option maxHeartbeats 4000000 in
theorem tMO_pass_71 {L : Nat} {e : vmD} {Qo : Option Value → vmW → Prop} {b20 : vmD → Prop} {Q : Int32 → vmD → Prop} (hb20 : ∀  d, b20  d → vmWp 302 20 [(0, .ref 42)] [] (wR L d e) Qo) (hQ : ∀ r d, Q r d → Qo (some (.int r)) (wR L d e)) : ∀ (n : Nat) (d : vmD), MO_pass_71 b20 Q n d → vmWp 302 71 [(0, .ref 42)] [] (wR L d e) Qo := by
  intro n
  induction n with
  | zero => intro d h; exact h.elim
  | succ n ih =>
    intro d h
    unfold MO_pass_71 at h
    refine st_go 3 (pc' := 76) (lo' := [(0, .ref 42)]) (st' := [.int (gF d 42 2), .ref 42]) rfl ?_
    refine st_calli (k' := 247) (as := [.ref 42, .int (gF d 42 2)]) (rest := []) (lo' := [(0, .ref 42), (1, .int (gF d 42 2))]) (wf := fun d => wR L d e) rfl rfl rfl ?_
    refine tMO_byteAt (fun r_14 d_13 h => ⟨r_14, d_13, rfl, rfl, ?_⟩) (gF d 42 2) d h
    refine st_go 1 (pc' := 81) (lo' := [(0, .ref 42)]) (st' := [.int 10, .int r_14]) rfl ?_
    by_cases hc_15 : r_14 = 10
    · have h := Eq.mp (if_pos hc_15) h
      refine st_icmp (t := 97) (b := true) rfl (decide_eq_true hc_15) rfl ?_
      refine st_go 5 (pc' := 104) (lo' := [(0, .ref 42)]) (st' := [.int ((gF d_13 42 2) + 1), .ref 42]) rfl ?_
      refine st_putIR (o := 42) (f := 2) rfl rfl rfl rfl rfl (fun d_16 hy_d_16 => ?_)
      have h := h d_16 hy_d_16
      refine st_go 1 (pc' := 20) (lo' := [(0, .ref 42)]) (st' := []) rfl ?_
      refine vmWp.sub (lo' := [(0, .ref 42)]) ⟨rfl, trivial⟩ ?_
      exact hb20 d_16 h
    · have h := Eq.mp (if_neg hc_15) h
      refine st_icmp (t := 84) (b := false) rfl (decide_eq_false hc_15) rfl ?_
      refine st_go 5 (pc' := 91) (lo' := [(0, .ref 42)]) (st' := [.int ((gF d_13 42 2) + 1), .ref 42]) rfl ?_
      refine st_putIR (o := 42) (f := 2) rfl rfl rfl rfl rfl (fun d_17 hy_d_17 => ?_)
      have h := h d_17 hy_d_17
      refine st_go 1 (pc' := 71) (lo' := [(0, .ref 42)]) (st' := []) rfl ?_
      refine vmWp.sub (lo' := [(0, .ref 42)]) ⟨rfl, trivial⟩ ?_
      exact ih d_17 h
set_option maxRecDepth 100000 in
def MO_pass_20 (Q : Int32 → vmD → Prop) : Nat → vmD → Prop
  | 0, _ => False
  | n + 1, d => if (gF d 42 2) < (gF d 42 1) then
  (bnd (sF d 42 41 ((gF d 42 41) + 1)) fun d_6 =>
  if (300 : Int32) < (gF d_6 42 41) then
  (MO_wrong 9 (gF d_6 42 2) d_6 fun r_9 d_8 =>
  (r_9 = 0 ∨ r_9 = 1) ∧ Q r_9 d_8)
  else
  (MO_readLine d_6 fun r_11 d_10 =>
  if r_11 = 0 then
  (Q 0 d_10)
  else
  (∃ m71, MO_pass_71 (MO_pass_20 Q n) Q m71 d_10)))
  else
  (if (0 : Int32) < (gF d 42 45) then
  (MO_wrong 7 (gF d 42 1) d fun r_20 d_19 =>
  (r_20 = 0 ∨ r_20 = 1) ∧ Q r_20 d_19)
  else
  (Q 1 d))
set_option maxRecDepth 100000 in
set_option maxHeartbeats 4000000 in
theorem tMO_pass_20 {L : Nat} {e : vmD} {Qo : Option Value → vmW → Prop} {Q : Int32 → vmD → Prop} (hQ : ∀ r d, Q r d → Qo (some (.int r)) (wR L d e)) : ∀ (n : Nat) (d : vmD), MO_pass_20 Q n d → vmWp 302 20 [(0, .ref 42)] [] (wR L d e) Qo := by
  intro n
  induction n with
  | zero => intro d h; exact h.elim
  | succ n ih =>
    intro d h
    unfold MO_pass_20 at h
    refine st_go 4 (pc' := 28) (lo' := [(0, .ref 42)]) (st' := [.int (gF d 42 1), .int (gF d 42 2)]) rfl ?_
    by_cases hc_5 : (gF d 42 2) < (gF d 42 1)
    · have h := Eq.mp (if_pos hc_5) h
      refine st_icmp (t := 31) (b := false) rfl (decide_eq_false (Int32.not_le.mpr hc_5)) rfl ?_
      refine st_go 5 (pc' := 38) (lo' := [(0, .ref 42)]) (st' := [.int ((gF d 42 41) + 1), .ref 42]) rfl ?_
      refine st_putIR (o := 42) (f := 41) rfl rfl rfl rfl rfl (fun d_6 hy_d_6 => ?_)
      have h := h d_6 hy_d_6
      refine st_go 3 (pc' := 48) (lo' := [(0, .ref 42)]) (st' := [.int 300, .int (gF d_6 42 41)]) rfl ?_
      by_cases hc_7 : (300 : Int32) < (gF d_6 42 41)
      · have h := Eq.mp (if_pos hc_7) h
        refine st_icmp (t := 51) (b := false) rfl (decide_eq_false (Int32.not_le.mpr hc_7)) rfl ?_
        refine st_go 4 (pc' := 58) (lo' := [(0, .ref 42)]) (st' := [.int (gF d_6 42 2), .int 9, .ref 42]) rfl ?_
        refine st_calli (k' := 245) (as := [.ref 42, .int 9, .int (gF d_6 42 2)]) (rest := []) (lo' := [(0, .ref 42), (1, .int 9), (2, .int (gF d_6 42 2))]) (wf := fun d => wR L d e) rfl rfl rfl ?_
        refine tMO_wrong (fun r_9 d_8 h => ⟨r_9, d_8, rfl, rfl, ?_⟩) 9 (gF d_6 42 2) d_6 h
        exact st_retZ rfl rfl h.1 (hQ _ _ h.2)
      · have h := Eq.mp (if_neg hc_7) h
        refine st_icmp (t := 62) (b := true) rfl (decide_eq_true (Int32.not_lt.mp hc_7)) rfl ?_
        refine st_go 1 (pc' := 63) (lo' := [(0, .ref 42)]) (st' := [.ref 42]) rfl ?_
        refine st_calli (k' := 303) (as := [.ref 42]) (rest := []) (lo' := [(0, .ref 42)]) (wf := fun d => wR L d e) rfl rfl rfl ?_
        refine tMO_readLine (fun r_11 d_10 h => ⟨r_11, d_10, rfl, rfl, ?_⟩) d_6 h
        by_cases hc_12 : r_11 = 0
        · have h := Eq.mp (if_pos hc_12) h
          refine st_if (t := 69) (b := false) rfl (decide_eq_false (fun z => z hc_12)) rfl ?_
          refine st_go 1 (pc' := 70) (lo' := [(0, .ref 42)]) (st' := [.int 0]) rfl ?_
          exact st_retZ rfl rfl (Or.inl rfl) (hQ _ _ h)
        · have h := Eq.mp (if_neg hc_12) h
          refine st_if (t := 71) (b := true) rfl (decide_eq_true hc_12) rfl ?_
          obtain ⟨m71, h⟩ := h
          refine vmWp.sub (lo' := [(0, .ref 42)]) ⟨rfl, trivial⟩ ?_
          exact tMO_pass_71 ih hQ m71 d_10 h
    · have h := Eq.mp (if_neg hc_5) h
      refine st_icmp (t := 110) (b := true) rfl (decide_eq_true (Int32.not_lt.mp hc_5)) rfl ?_
      refine st_go 2 (pc' := 114) (lo' := [(0, .ref 42)]) (st' := [.int (gF d 42 45)]) rfl ?_
      by_cases hc_18 : (0 : Int32) < (gF d 42 45)
      · have h := Eq.mp (if_pos hc_18) h
        refine st_if (t := 117) (b := false) rfl (decide_eq_false (Int32.not_le.mpr hc_18)) rfl ?_
        refine st_go 4 (pc' := 124) (lo' := [(0, .ref 42)]) (st' := [.int (gF d 42 1), .int 7, .ref 42]) rfl ?_
        refine st_calli (k' := 245) (as := [.ref 42, .int 7, .int (gF d 42 1)]) (rest := []) (lo' := [(0, .ref 42), (1, .int 7), (2, .int (gF d 42 1))]) (wf := fun d => wR L d e) rfl rfl rfl ?_
        refine tMO_wrong (fun r_20 d_19 h => ⟨r_20, d_19, rfl, rfl, ?_⟩) 7 (gF d 42 1) d h
        exact st_retZ rfl rfl h.1 (hQ _ _ h.2)
      · have h := Eq.mp (if_neg hc_18) h
        refine st_if (t := 128) (b := true) rfl (decide_eq_true (Int32.not_lt.mp hc_18)) rfl ?_
        refine st_go 1 (pc' := 129) (lo' := [(0, .ref 42)]) (st' := [.int 1]) rfl ?_
        exact st_retZ rfl rfl (Or.inr rfl) (hQ _ _ h)
set_option maxRecDepth 100000 in
def MO_pass (d : vmD) (Q : Int32 → vmD → Prop) : Prop :=
  bnd (sF d 42 20 0) fun d_1 =>
  bnd (sF d_1 42 45 0) fun d_2 =>
  bnd (sF d_2 42 41 0) fun d_3 =>
  bnd (sF d_3 42 2 0) fun d_4 =>
  ∃ m20, MO_pass_20 Q m20 d_4
set_option maxRecDepth 100000 in
set_option maxHeartbeats 4000000 in
theorem tMO_pass {L : Nat} {e : vmD} {Qo : Option Value → vmW → Prop} {Q : Int32 → vmD → Prop} (hQ : ∀ r d, Q r d → Qo (some (.int r)) (wR L d e)) (d : vmD) (h : MO_pass d Q) : vmWp 302 0 [(0, .ref 42)] [] (wR L d e) Qo := by
  unfold MO_pass at h
  refine st_go 2 (pc' := 2) (lo' := [(0, .ref 42)]) (st' := [.int 0, .ref 42]) rfl ?_
  refine st_putIR (o := 42) (f := 20) rfl rfl rfl rfl rfl (fun d_1 hy_d_1 => ?_)
  have h := h d_1 hy_d_1
  refine st_go 2 (pc' := 7) (lo' := [(0, .ref 42)]) (st' := [.int 0, .ref 42]) rfl ?_
  refine st_putIR (o := 42) (f := 45) rfl rfl rfl rfl rfl (fun d_2 hy_d_2 => ?_)
  have h := h d_2 hy_d_2
  refine st_go 2 (pc' := 12) (lo' := [(0, .ref 42)]) (st' := [.int 0, .ref 42]) rfl ?_
  refine st_putIR (o := 42) (f := 41) rfl rfl rfl rfl rfl (fun d_3 hy_d_3 => ?_)
  have h := h d_3 hy_d_3
  refine st_go 2 (pc' := 17) (lo' := [(0, .ref 42)]) (st' := [.int 0, .ref 42]) rfl ?_
  refine st_putIR (o := 42) (f := 2) rfl rfl rfl rfl rfl (fun d_4 hy_d_4 => ?_)
  have h := h d_4 hy_d_4
  obtain ⟨m20, h⟩ := h
  refine vmWp.sub (lo' := [(0, .ref 42)]) ⟨rfl, trivial⟩ ?_
  exact tMO_pass_20 hQ m20 d_4 h
set_option maxRecDepth 100000 in
def MO_forge_202 (b168 : Int32 → vmD → Prop) (Q : Int32 → vmD → Prop) : Nat → Int32 → Int32 → vmD → Prop
  | 0, _, _, _ => False
  | n + 1, x2, x3, d => if x3 < 12 then
  (ixOk (((12 : Int32) * x2) + x3) 2400 ∧
  bnd (gA d 44 (((12 : Int32) * x2) + x3).toNatClampNeg) fun y_39 =>
  ixOk (((12 : Int32) * x2) + x3) 2400 ∧
  bnd (sA d 59 (((12 : Int32) * x2) + x3).toNatClampNeg y_39) fun d_41 =>
  bnd (x3 + 1) fun x3_42 =>
  (MO_forge_202 b168 Q n) x2 x3_42 d_41)
  else
  (bnd (x2 + 1) fun x2_43 =>
  b168 x2_43 d)
set_option maxRecDepth 100000 in
set_option maxHeartbeats 4000000 in
theorem tMO_forge_202 {L : Nat} {e : vmD} {Qo : Option Value → vmW → Prop} {b168 : Int32 → vmD → Prop} {Q : Int32 → vmD → Prop} (hb168 : ∀ x2 d, b168 x2 d → vmWp 316 168 [(0, .ref 42), (2, .int x2)] [] (wR L d e) Qo) (hQ : ∀ r d, Q r d → Qo (some (.int r)) (wR L d e)) : ∀ (n : Nat) (x2 : Int32) (x3 : Int32) (d : vmD), MO_forge_202 b168 Q n x2 x3 d → vmWp 316 202 [(0, .ref 42), (2, .int x2), (3, .int x3)] [] (wR L d e) Qo := by
  intro n
  induction n with
  | zero => intro x2 x3 d h; exact h.elim
  | succ n ih =>
    intro x2 x3 d h
    unfold MO_forge_202 at h
    refine st_go 2 (pc' := 205) (lo' := [(0, .ref 42), (2, .int x2), (3, .int x3)]) (st' := [.int 12, .int x3]) rfl ?_
    by_cases hc_37 : x3 < 12
    · have h := Eq.mp (if_pos hc_37) h
      refine st_icmp (t := 208) (b := false) rfl (decide_eq_false (Int32.not_le.mpr hc_37)) rfl ?_
      refine st_go 14 (pc' := 228) (lo' := [(0, .ref 42), (2, .int x2), (3, .int x3)]) (st' := [.int (((12 : Int32) * x2) + x3), .ref 44, .int (((12 : Int32) * x2) + x3), .ref 59]) rfl ?_
      obtain ⟨hj_38, h⟩ := h
      refine st_ialdR (o := 44) rfl rfl hj_38 rfl (fun y_39 hy_y_39 => ?_)
      have h := h y_39 hy_y_39
      obtain ⟨hj_40, h⟩ := h
      refine st_iastR (o := 59) rfl rfl hj_40 rfl (fun d_41 hy_d_41 => ?_)
      have h := h d_41 hy_d_41
      refine st_go 1 (pc' := 233) (lo' := [(3, .int (x3 + 1)), (0, .ref 42), (2, .int x2)]) (st' := []) rfl ?_
      refine st_locI (fun x3_42 hy_x3_42 => ?_)
      have h := h x3_42 hy_x3_42
      refine st_go 1 (pc' := 202) (lo' := [(3, .int x3_42), (0, .ref 42), (2, .int x2)]) (st' := []) rfl ?_
      refine vmWp.sub (lo' := [(0, .ref 42), (2, .int x2), (3, .int x3_42)]) ⟨rfl, rfl, rfl, trivial⟩ ?_
      exact ih x2 x3_42 d_41 h
    · have h := Eq.mp (if_neg hc_37) h
      refine st_icmp (t := 236) (b := true) rfl (decide_eq_true (Int32.not_lt.mp hc_37)) rfl ?_
      refine st_go 1 (pc' := 239) (lo' := [(2, .int (x2 + 1)), (0, .ref 42), (3, .int x3)]) (st' := []) rfl ?_
      refine st_locI (fun x2_43 hy_x2_43 => ?_)
      have h := h x2_43 hy_x2_43
      refine st_go 1 (pc' := 168) (lo' := [(2, .int x2_43), (0, .ref 42), (3, .int x3)]) (st' := []) rfl ?_
      refine vmWp.sub (lo' := [(0, .ref 42), (2, .int x2_43)]) ⟨rfl, rfl, trivial⟩ ?_
      exact hb168 x2_43 d h
set_option maxRecDepth 100000 in
def MO_forge_168 (Q : Int32 → vmD → Prop) : Nat → Int32 → vmD → Prop
  | 0, _, _ => False
  | n + 1, x2, d => if x2 < (gF d 42 13) then
  (ixOk x2 200 ∧
  bnd (gA d 45 x2.toNatClampNeg) fun y_30 =>
  ixOk x2 200 ∧
  bnd (sA d 60 x2.toNatClampNeg y_30) fun d_32 =>
  ixOk x2 200 ∧
  bnd (gA d_32 46 x2.toNatClampNeg) fun y_34 =>
  ixOk x2 200 ∧
  bnd (sA d_32 61 x2.toNatClampNeg y_34) fun d_36 =>
  ∃ m202, MO_forge_202 (MO_forge_168 Q n) Q m202 x2 0 d_36)
  else
  (Q (gF d 42 39) d)
set_option maxRecDepth 100000 in
set_option maxHeartbeats 4000000 in
theorem tMO_forge_168 {L : Nat} {e : vmD} {Qo : Option Value → vmW → Prop} {Q : Int32 → vmD → Prop} (hQ : ∀ r d, Q r d → Qo (some (.int r)) (wR L d e)) : ∀ (n : Nat) (x2 : Int32) (d : vmD), MO_forge_168 Q n x2 d → vmWp 316 168 [(0, .ref 42), (2, .int x2)] [] (wR L d e) Qo := by
  intro n
  induction n with
  | zero => intro x2 d h; exact h.elim
  | succ n ih =>
    intro x2 d h
    unfold MO_forge_168 at h
    refine st_go 3 (pc' := 173) (lo' := [(0, .ref 42), (2, .int x2)]) (st' := [.int (gF d 42 13), .int x2]) rfl ?_
    by_cases hc_28 : x2 < (gF d 42 13)
    · have h := Eq.mp (if_pos hc_28) h
      refine st_icmp (t := 176) (b := false) rfl (decide_eq_false (Int32.not_le.mpr hc_28)) rfl ?_
      refine st_go 6 (pc' := 186) (lo' := [(0, .ref 42), (2, .int x2)]) (st' := [.int x2, .ref 45, .int x2, .ref 60]) rfl ?_
      obtain ⟨hj_29, h⟩ := h
      refine st_ialdR (o := 45) rfl rfl hj_29 rfl (fun y_30 hy_y_30 => ?_)
      have h := h y_30 hy_y_30
      obtain ⟨hj_31, h⟩ := h
      refine st_iastR (o := 60) rfl rfl hj_31 rfl (fun d_32 hy_d_32 => ?_)
      have h := h d_32 hy_d_32
      refine st_go 6 (pc' := 198) (lo' := [(0, .ref 42), (2, .int x2)]) (st' := [.int x2, .ref 46, .int x2, .ref 61]) rfl ?_
      obtain ⟨hj_33, h⟩ := h
      refine st_ialdR (o := 46) rfl rfl hj_33 rfl (fun y_34 hy_y_34 => ?_)
      have h := h y_34 hy_y_34
      obtain ⟨hj_35, h⟩ := h
      refine st_iastR (o := 61) rfl rfl hj_35 rfl (fun d_36 hy_d_36 => ?_)
      have h := h d_36 hy_d_36
      refine st_go 2 (pc' := 202) (lo' := [(3, .int 0), (0, .ref 42), (2, .int x2)]) (st' := []) rfl ?_
      obtain ⟨m202, h⟩ := h
      refine vmWp.sub (lo' := [(0, .ref 42), (2, .int x2), (3, .int 0)]) ⟨rfl, rfl, rfl, trivial⟩ ?_
      exact tMO_forge_202 ih hQ m202 x2 0 d_36 h
    · have h := Eq.mp (if_neg hc_28) h
      refine st_icmp (t := 242) (b := true) rfl (decide_eq_true (Int32.not_lt.mp hc_28)) rfl ?_
      refine st_go 2 (pc' := 246) (lo' := [(0, .ref 42), (2, .int x2)]) (st' := [.int (gF d 42 39)]) rfl ?_
      exact st_retI rfl rfl (hQ _ _ h)
set_option maxRecDepth 100000 in
def MO_forge_134 (Q : Int32 → vmD → Prop) : Nat → Int32 → vmD → Prop
  | 0, _, _ => False
  | n + 1, x2, d => if x2 < 65536 then
  (ixOk x2 65536 ∧
  bnd (gA d 56 x2.toNatClampNeg) fun y_23 =>
  ixOk x2 65536 ∧
  bnd (sA d 55 x2.toNatClampNeg y_23) fun d_25 =>
  bnd (x2 + 1) fun x2_26 =>
  (MO_forge_134 Q n) x2_26 d_25)
  else
  (bnd (sF d 42 51 (gF d 42 13)) fun d_27 =>
  ∃ m168, MO_forge_168 Q m168 0 d_27)
set_option maxRecDepth 100000 in
set_option maxHeartbeats 4000000 in
theorem tMO_forge_134 {L : Nat} {e : vmD} {Qo : Option Value → vmW → Prop} {Q : Int32 → vmD → Prop} (hQ : ∀ r d, Q r d → Qo (some (.int r)) (wR L d e)) : ∀ (n : Nat) (x2 : Int32) (d : vmD), MO_forge_134 Q n x2 d → vmWp 316 134 [(0, .ref 42), (2, .int x2)] [] (wR L d e) Qo := by
  intro n
  induction n with
  | zero => intro x2 d h; exact h.elim
  | succ n ih =>
    intro x2 d h
    unfold MO_forge_134 at h
    refine st_go 2 (pc' := 137) (lo' := [(0, .ref 42), (2, .int x2)]) (st' := [.int 65536, .int x2]) rfl ?_
    by_cases hc_21 : x2 < 65536
    · have h := Eq.mp (if_pos hc_21) h
      refine st_icmp (t := 140) (b := false) rfl (decide_eq_false (Int32.not_le.mpr hc_21)) rfl ?_
      refine st_go 6 (pc' := 150) (lo' := [(0, .ref 42), (2, .int x2)]) (st' := [.int x2, .ref 56, .int x2, .ref 55]) rfl ?_
      obtain ⟨hj_22, h⟩ := h
      refine st_ialdR (o := 56) rfl rfl hj_22 rfl (fun y_23 hy_y_23 => ?_)
      have h := h y_23 hy_y_23
      obtain ⟨hj_24, h⟩ := h
      refine st_iastR (o := 55) rfl rfl hj_24 rfl (fun d_25 hy_d_25 => ?_)
      have h := h d_25 hy_d_25
      refine st_go 1 (pc' := 155) (lo' := [(2, .int (x2 + 1)), (0, .ref 42)]) (st' := []) rfl ?_
      refine st_locI (fun x2_26 hy_x2_26 => ?_)
      have h := h x2_26 hy_x2_26
      refine st_go 1 (pc' := 134) (lo' := [(2, .int x2_26), (0, .ref 42)]) (st' := []) rfl ?_
      refine vmWp.sub (lo' := [(0, .ref 42), (2, .int x2_26)]) ⟨rfl, rfl, trivial⟩ ?_
      exact ih x2_26 d_25 h
    · have h := Eq.mp (if_neg hc_21) h
      refine st_icmp (t := 158) (b := true) rfl (decide_eq_true (Int32.not_lt.mp hc_21)) rfl ?_
      refine st_go 3 (pc' := 163) (lo' := [(0, .ref 42), (2, .int x2)]) (st' := [.int (gF d 42 13), .ref 42]) rfl ?_
      refine st_putIR (o := 42) (f := 51) rfl rfl rfl rfl rfl (fun d_27 hy_d_27 => ?_)
      have h := h d_27 hy_d_27
      refine st_go 2 (pc' := 168) (lo' := [(2, .int 0), (0, .ref 42)]) (st' := []) rfl ?_
      obtain ⟨m168, h⟩ := h
      refine vmWp.sub (lo' := [(0, .ref 42), (2, .int 0)]) ⟨rfl, rfl, trivial⟩ ?_
      exact tMO_forge_168 hQ m168 0 d_27 h
set_option maxRecDepth 100000 in
def MO_forge_70 (x1 : Int32) (d : vmD) (Q : Int32 → vmD → Prop) : Prop :=
  if x1 = 0 then
  (bnd (sF d 42 46 (gF d 42 41)) fun d_14 =>
  bnd (sF d_14 42 47 (gF d_14 42 9)) fun d_15 =>
  Q (((-10) : Int32) - (gF d_15 42 8)) d_15)
  else
  (bnd (sF d 42 46 0) fun d_16 =>
  bnd (sF d_16 42 47 0) fun d_17 =>
  bnd (sF d_17 42 48 (gF d_17 42 41)) fun d_18 =>
  bnd (sF d_18 42 49 (gF d_18 42 40)) fun d_19 =>
  bnd (sF d_19 42 50 (gF d_19 42 20)) fun d_20 =>
  ∃ m134, MO_forge_134 Q m134 0 d_20)
set_option maxRecDepth 100000 in
set_option maxHeartbeats 4000000 in
theorem tMO_forge_70 {L : Nat} {e : vmD} {Qo : Option Value → vmW → Prop} {Q : Int32 → vmD → Prop} (hQ : ∀ r d, Q r d → Qo (some (.int r)) (wR L d e)) (x1 : Int32) (d : vmD) (h : MO_forge_70 x1 d Q) : vmWp 316 70 [(0, .ref 42), (1, .int x1)] [] (wR L d e) Qo := by
  unfold MO_forge_70 at h
  refine st_go 1 (pc' := 71) (lo' := [(0, .ref 42), (1, .int x1)]) (st' := [.int x1]) rfl ?_
  by_cases hc_13 : x1 = 0
  · have h := Eq.mp (if_pos hc_13) h
    refine st_if (t := 74) (b := false) rfl (decide_eq_false (fun z => z hc_13)) rfl ?_
    refine st_go 3 (pc' := 79) (lo' := [(0, .ref 42), (1, .int x1)]) (st' := [.int (gF d 42 41), .ref 42]) rfl ?_
    refine st_putIR (o := 42) (f := 46) rfl rfl rfl rfl rfl (fun d_14 hy_d_14 => ?_)
    have h := h d_14 hy_d_14
    refine st_go 3 (pc' := 87) (lo' := [(0, .ref 42), (1, .int x1)]) (st' := [.int (gF d_14 42 9), .ref 42]) rfl ?_
    refine st_putIR (o := 42) (f := 47) rfl rfl rfl rfl rfl (fun d_15 hy_d_15 => ?_)
    have h := h d_15 hy_d_15
    refine st_go 4 (pc' := 97) (lo' := [(0, .ref 42), (1, .int x1)]) (st' := [.int (((-10) : Int32) - (gF d_15 42 8))]) rfl ?_
    exact st_retI rfl rfl (hQ _ _ h)
  · have h := Eq.mp (if_neg hc_13) h
    refine st_if (t := 98) (b := true) rfl (decide_eq_true hc_13) rfl ?_
    refine st_go 2 (pc' := 100) (lo' := [(0, .ref 42), (1, .int x1)]) (st' := [.int 0, .ref 42]) rfl ?_
    refine st_putIR (o := 42) (f := 46) rfl rfl rfl rfl rfl (fun d_16 hy_d_16 => ?_)
    have h := h d_16 hy_d_16
    refine st_go 2 (pc' := 105) (lo' := [(0, .ref 42), (1, .int x1)]) (st' := [.int 0, .ref 42]) rfl ?_
    refine st_putIR (o := 42) (f := 47) rfl rfl rfl rfl rfl (fun d_17 hy_d_17 => ?_)
    have h := h d_17 hy_d_17
    refine st_go 3 (pc' := 113) (lo' := [(0, .ref 42), (1, .int x1)]) (st' := [.int (gF d_17 42 41), .ref 42]) rfl ?_
    refine st_putIR (o := 42) (f := 48) rfl rfl rfl rfl rfl (fun d_18 hy_d_18 => ?_)
    have h := h d_18 hy_d_18
    refine st_go 3 (pc' := 121) (lo' := [(0, .ref 42), (1, .int x1)]) (st' := [.int (gF d_18 42 40), .ref 42]) rfl ?_
    refine st_putIR (o := 42) (f := 49) rfl rfl rfl rfl rfl (fun d_19 hy_d_19 => ?_)
    have h := h d_19 hy_d_19
    refine st_go 3 (pc' := 129) (lo' := [(0, .ref 42), (1, .int x1)]) (st' := [.int (gF d_19 42 20), .ref 42]) rfl ?_
    refine st_putIR (o := 42) (f := 50) rfl rfl rfl rfl rfl (fun d_20 hy_d_20 => ?_)
    have h := h d_20 hy_d_20
    refine st_go 2 (pc' := 134) (lo' := [(2, .int 0), (0, .ref 42), (1, .int x1)]) (st' := []) rfl ?_
    obtain ⟨m134, h⟩ := h
    refine vmWp.sub (lo' := [(0, .ref 42), (2, .int 0)]) ⟨rfl, rfl, trivial⟩ ?_
    exact tMO_forge_134 hQ m134 0 d_20 h
set_option maxRecDepth 100000 in
def MO_forge_17 (Q : Int32 → vmD → Prop) : Nat → Int32 → vmD → Prop
  | 0, _, _ => False
  | n + 1, x1, d => if x1 < 65536 then
  (ixOk x1 65536 ∧
  bnd (gA d 55 x1.toNatClampNeg) fun y_6 =>
  ixOk x1 65536 ∧
  bnd (sA d 56 x1.toNatClampNeg y_6) fun d_8 =>
  bnd (x1 + 1) fun x1_9 =>
  (MO_forge_17 Q n) x1_9 d_8)
  else
  (MO_pass d fun r_11 d_10 =>
  if r_11 = 0 then
  (MO_forge_70 r_11 d_10 Q)
  else
  (bnd (sF d_10 42 42 1) fun d_44 =>
  bnd (sF d_44 42 39 0) fun d_45 =>
  bnd (sF d_45 42 40 0) fun d_46 =>
  MO_pass d_46 fun r_48 d_47 =>
  MO_forge_70 r_48 d_47 Q))
set_option maxRecDepth 100000 in
set_option maxHeartbeats 4000000 in
theorem tMO_forge_17 {L : Nat} {e : vmD} {Qo : Option Value → vmW → Prop} {Q : Int32 → vmD → Prop} (hQ : ∀ r d, Q r d → Qo (some (.int r)) (wR L d e)) : ∀ (n : Nat) (x1 : Int32) (d : vmD), MO_forge_17 Q n x1 d → vmWp 316 17 [(0, .ref 42), (1, .int x1)] [] (wR L d e) Qo := by
  intro n
  induction n with
  | zero => intro x1 d h; exact h.elim
  | succ n ih =>
    intro x1 d h
    unfold MO_forge_17 at h
    refine st_go 2 (pc' := 20) (lo' := [(0, .ref 42), (1, .int x1)]) (st' := [.int 65536, .int x1]) rfl ?_
    by_cases hc_4 : x1 < 65536
    · have h := Eq.mp (if_pos hc_4) h
      refine st_icmp (t := 23) (b := false) rfl (decide_eq_false (Int32.not_le.mpr hc_4)) rfl ?_
      refine st_go 6 (pc' := 33) (lo' := [(0, .ref 42), (1, .int x1)]) (st' := [.int x1, .ref 55, .int x1, .ref 56]) rfl ?_
      obtain ⟨hj_5, h⟩ := h
      refine st_ialdR (o := 55) rfl rfl hj_5 rfl (fun y_6 hy_y_6 => ?_)
      have h := h y_6 hy_y_6
      obtain ⟨hj_7, h⟩ := h
      refine st_iastR (o := 56) rfl rfl hj_7 rfl (fun d_8 hy_d_8 => ?_)
      have h := h d_8 hy_d_8
      refine st_go 1 (pc' := 38) (lo' := [(1, .int (x1 + 1)), (0, .ref 42)]) (st' := []) rfl ?_
      refine st_locI (fun x1_9 hy_x1_9 => ?_)
      have h := h x1_9 hy_x1_9
      refine st_go 1 (pc' := 17) (lo' := [(1, .int x1_9), (0, .ref 42)]) (st' := []) rfl ?_
      refine vmWp.sub (lo' := [(0, .ref 42), (1, .int x1_9)]) ⟨rfl, rfl, trivial⟩ ?_
      exact ih x1_9 d_8 h
    · have h := Eq.mp (if_neg hc_4) h
      refine st_icmp (t := 41) (b := true) rfl (decide_eq_true (Int32.not_lt.mp hc_4)) rfl ?_
      refine st_go 1 (pc' := 42) (lo' := [(0, .ref 42), (1, .int x1)]) (st' := [.ref 42]) rfl ?_
      refine st_calli (k' := 302) (as := [.ref 42]) (rest := []) (lo' := [(0, .ref 42)]) (wf := fun d => wR L d e) rfl rfl rfl ?_
      refine tMO_pass (fun r_11 d_10 h => ⟨r_11, d_10, rfl, rfl, ?_⟩) d h
      refine st_go 2 (pc' := 47) (lo' := [(1, .int r_11), (0, .ref 42)]) (st' := [.int r_11]) rfl ?_
      by_cases hc_12 : r_11 = 0
      · have h := Eq.mp (if_pos hc_12) h
        refine st_if (t := 70) (b := true) rfl (decide_eq_true hc_12) rfl ?_
        refine vmWp.sub (lo' := [(0, .ref 42), (1, .int r_11)]) ⟨rfl, rfl, trivial⟩ ?_
        exact tMO_forge_70 hQ r_11 d_10 h
      · have h := Eq.mp (if_neg hc_12) h
        refine st_if (t := 50) (b := false) rfl (decide_eq_false hc_12) rfl ?_
        refine st_go 2 (pc' := 52) (lo' := [(1, .int r_11), (0, .ref 42)]) (st' := [.int 1, .ref 42]) rfl ?_
        refine st_putZR (o := 42) (f := 42) rfl rfl rfl rfl (Or.inr rfl) rfl (fun d_44 hy_d_44 => ?_)
        have h := h d_44 hy_d_44
        refine st_go 2 (pc' := 57) (lo' := [(1, .int r_11), (0, .ref 42)]) (st' := [.int 0, .ref 42]) rfl ?_
        refine st_putIR (o := 42) (f := 39) rfl rfl rfl rfl rfl (fun d_45 hy_d_45 => ?_)
        have h := h d_45 hy_d_45
        refine st_go 2 (pc' := 62) (lo' := [(1, .int r_11), (0, .ref 42)]) (st' := [.int 0, .ref 42]) rfl ?_
        refine st_putIR (o := 42) (f := 40) rfl rfl rfl rfl rfl (fun d_46 hy_d_46 => ?_)
        have h := h d_46 hy_d_46
        refine st_go 1 (pc' := 66) (lo' := [(1, .int r_11), (0, .ref 42)]) (st' := [.ref 42]) rfl ?_
        refine st_calli (k' := 302) (as := [.ref 42]) (rest := []) (lo' := [(0, .ref 42)]) (wf := fun d => wR L d e) rfl rfl rfl ?_
        refine tMO_pass (fun r_48 d_47 h => ⟨r_48, d_47, rfl, rfl, ?_⟩) d_46 h
        refine st_go 1 (pc' := 70) (lo' := [(1, .int r_48), (0, .ref 42)]) (st' := []) rfl ?_
        refine vmWp.sub (lo' := [(0, .ref 42), (1, .int r_48)]) ⟨rfl, rfl, trivial⟩ ?_
        exact tMO_forge_70 hQ r_48 d_47 h
set_option maxRecDepth 100000 in
def MO_forge (d : vmD) (Q : Int32 → vmD → Prop) : Prop :=
  bnd (sF d 42 8 0) fun d_1 =>
  bnd (sF d_1 42 13 0) fun d_2 =>
  bnd (sF d_2 42 42 0) fun d_3 =>
  ∃ m17, MO_forge_17 Q m17 0 d_3
set_option maxRecDepth 100000 in
set_option maxHeartbeats 4000000 in
theorem tMO_forge {L : Nat} {e : vmD} {Qo : Option Value → vmW → Prop} {Q : Int32 → vmD → Prop} (hQ : ∀ r d, Q r d → Qo (some (.int r)) (wR L d e)) (d : vmD) (h : MO_forge d Q) : vmWp 316 0 [(0, .ref 42)] [] (wR L d e) Qo := by
  unfold MO_forge at h
  refine st_go 2 (pc' := 2) (lo' := [(0, .ref 42)]) (st' := [.int 0, .ref 42]) rfl ?_
  refine st_putIR (o := 42) (f := 8) rfl rfl rfl rfl rfl (fun d_1 hy_d_1 => ?_)
  have h := h d_1 hy_d_1
  refine st_go 2 (pc' := 7) (lo' := [(0, .ref 42)]) (st' := [.int 0, .ref 42]) rfl ?_
  refine st_putIR (o := 42) (f := 13) rfl rfl rfl rfl rfl (fun d_2 hy_d_2 => ?_)
  have h := h d_2 hy_d_2
  refine st_go 2 (pc' := 12) (lo' := [(0, .ref 42)]) (st' := [.int 0, .ref 42]) rfl ?_
  refine st_putZR (o := 42) (f := 42) rfl rfl rfl rfl (Or.inl rfl) rfl (fun d_3 hy_d_3 => ?_)
  have h := h d_3 hy_d_3
  refine st_go 2 (pc' := 17) (lo' := [(1, .int 0), (0, .ref 42)]) (st' := []) rfl ?_
  obtain ⟨m17, h⟩ := h
  refine vmWp.sub (lo' := [(0, .ref 42), (1, .int 0)]) ⟨rfl, rfl, trivial⟩ ?_
  exact tMO_forge_17 hQ m17 0 d_3 h
set_option maxRecDepth 100000 in
def MO_told (x1 : Int32) (d : vmD) (Q : Int32 → vmD → Prop) : Prop :=
  if x1 = 0 then
  (Q (gF d 42 46) d)
  else
  if x1 = 1 then
  (Q (gF d 42 47) d)
  else
  if x1 = 2 then
  (Q (gF d 42 48) d)
  else
  if x1 = 3 then
  (Q (gF d 42 51) d)
  else
  if x1 = 4 then
  (Q (gF d 42 49) d)
  else
  if x1 = 5 then
  (Q (gF d 42 50) d)
  else
  (Q (-2) d)
set_option maxRecDepth 100000 in
set_option maxHeartbeats 4000000 in
theorem tMO_told {L : Nat} {e : vmD} {Qo : Option Value → vmW → Prop} {Q : Int32 → vmD → Prop} (hQ : ∀ r d, Q r d → Qo (some (.int r)) (wR L d e)) (x1 : Int32) (d : vmD) (h : MO_told x1 d Q) : vmWp 317 0 [(0, .ref 42), (1, .int x1)] [] (wR L d e) Qo := by
  unfold MO_told at h
  refine st_go 1 (pc' := 1) (lo' := [(0, .ref 42), (1, .int x1)]) (st' := [.int x1]) rfl ?_
  by_cases hc_1 : x1 = 0
  · have h := Eq.mp (if_pos hc_1) h
    refine st_tab (t := 40) rfl (by rw [hc_1]; rfl) ?_
    refine st_go 2 (pc' := 44) (lo' := [(0, .ref 42), (1, .int x1)]) (st' := [.int (gF d 42 46)]) rfl ?_
    exact st_retI rfl rfl (hQ _ _ h)
  · have h := Eq.mp (if_neg hc_1) h
    by_cases hc_2 : x1 = 1
    · have h := Eq.mp (if_pos hc_2) h
      refine st_tab (t := 45) rfl (by rw [hc_2]; rfl) ?_
      refine st_go 2 (pc' := 49) (lo' := [(0, .ref 42), (1, .int x1)]) (st' := [.int (gF d 42 47)]) rfl ?_
      exact st_retI rfl rfl (hQ _ _ h)
    · have h := Eq.mp (if_neg hc_2) h
      by_cases hc_3 : x1 = 2
      · have h := Eq.mp (if_pos hc_3) h
        refine st_tab (t := 50) rfl (by rw [hc_3]; rfl) ?_
        refine st_go 2 (pc' := 54) (lo' := [(0, .ref 42), (1, .int x1)]) (st' := [.int (gF d 42 48)]) rfl ?_
        exact st_retI rfl rfl (hQ _ _ h)
      · have h := Eq.mp (if_neg hc_3) h
        by_cases hc_4 : x1 = 3
        · have h := Eq.mp (if_pos hc_4) h
          refine st_tab (t := 55) rfl (by rw [hc_4]; rfl) ?_
          refine st_go 2 (pc' := 59) (lo' := [(0, .ref 42), (1, .int x1)]) (st' := [.int (gF d 42 51)]) rfl ?_
          exact st_retI rfl rfl (hQ _ _ h)
        · have h := Eq.mp (if_neg hc_4) h
          by_cases hc_5 : x1 = 4
          · have h := Eq.mp (if_pos hc_5) h
            refine st_tab (t := 60) rfl (by rw [hc_5]; rfl) ?_
            refine st_go 2 (pc' := 64) (lo' := [(0, .ref 42), (1, .int x1)]) (st' := [.int (gF d 42 49)]) rfl ?_
            exact st_retI rfl rfl (hQ _ _ h)
          · have h := Eq.mp (if_neg hc_5) h
            by_cases hc_6 : x1 = 5
            · have h := Eq.mp (if_pos hc_6) h
              refine st_tab (t := 65) rfl (by rw [hc_6]; rfl) ?_
              refine st_go 2 (pc' := 69) (lo' := [(0, .ref 42), (1, .int x1)]) (st' := [.int (gF d 42 50)]) rfl ?_
              exact st_retI rfl rfl (hQ _ _ h)
            · have h := Eq.mp (if_neg hc_6) h
              refine st_tab (t := 70) rfl (tab_def rfl (by decide) rfl (by
                intro j hj hx
                have hj : j < 6 := hj
                rcases (j = 0 ∨ j = 1 ∨ j = 2 ∨ j = 3 ∨ j = 4 ∨ j = 5 : Prop) |> fun _ => (show j = 0 ∨ j = 1 ∨ j = 2 ∨ j = 3 ∨ j = 4 ∨ j = 5 by omega) with rfl | rfl | rfl | rfl | rfl | rfl <;> first | rfl | exact absurd hx hc_1 | exact absurd hx hc_2 | exact absurd hx hc_3 | exact absurd hx hc_4 | exact absurd hx hc_5 | exact absurd hx hc_6)) ?_
              refine st_go 1 (pc' := 72) (lo' := [(0, .ref 42), (1, .int x1)]) (st' := [.int (-2)]) rfl ?_
              exact st_retI rfl rfl (hQ _ _ h)
set_option maxRecDepth 100000 in
def MO_label (x1 : Int32) (d : vmD) (Q : Int32 → vmD → Prop) : Prop :=
  if x1 < 0 then
  (Q 0 d)
  else
  (if x1 < (gF d 42 51) then
  (ixOk x1 200 ∧
  bnd (gA d 61 x1.toNatClampNeg) fun y_4 =>
  Q y_4 d)
  else
  (Q 0 d))
set_option maxRecDepth 100000 in
set_option maxHeartbeats 4000000 in
theorem tMO_label {L : Nat} {e : vmD} {Qo : Option Value → vmW → Prop} {Q : Int32 → vmD → Prop} (hQ : ∀ r d, Q r d → Qo (some (.int r)) (wR L d e)) (x1 : Int32) (d : vmD) (h : MO_label x1 d Q) : vmWp 318 0 [(0, .ref 42), (1, .int x1)] [] (wR L d e) Qo := by
  unfold MO_label at h
  refine st_go 1 (pc' := 1) (lo' := [(0, .ref 42), (1, .int x1)]) (st' := [.int x1]) rfl ?_
  by_cases hc_1 : x1 < 0
  · have h := Eq.mp (if_pos hc_1) h
    refine st_if (t := 21) (b := true) rfl (decide_eq_true hc_1) rfl ?_
    refine st_go 1 (pc' := 22) (lo' := [(0, .ref 42), (1, .int x1)]) (st' := [.int 0]) rfl ?_
    exact st_retI rfl rfl (hQ _ _ h)
  · have h := Eq.mp (if_neg hc_1) h
    refine st_if (t := 4) (b := false) rfl (decide_eq_false hc_1) rfl ?_
    refine st_go 3 (pc' := 9) (lo' := [(0, .ref 42), (1, .int x1)]) (st' := [.int (gF d 42 51), .int x1]) rfl ?_
    by_cases hc_2 : x1 < (gF d 42 51)
    · have h := Eq.mp (if_pos hc_2) h
      refine st_icmp (t := 12) (b := false) rfl (decide_eq_false (Int32.not_le.mpr hc_2)) rfl ?_
      refine st_go 3 (pc' := 17) (lo' := [(0, .ref 42), (1, .int x1)]) (st' := [.int x1, .ref 61]) rfl ?_
      obtain ⟨hj_3, h⟩ := h
      refine st_ialdR (o := 61) rfl rfl hj_3 rfl (fun y_4 hy_y_4 => ?_)
      have h := h y_4 hy_y_4
      refine st_go 1 (pc' := 22) (lo' := [(0, .ref 42), (1, .int x1)]) (st' := [.int y_4]) rfl ?_
      exact st_retI rfl rfl (hQ _ _ h)
    · have h := Eq.mp (if_neg hc_2) h
      refine st_icmp (t := 21) (b := true) rfl (decide_eq_true (Int32.not_lt.mp hc_2)) rfl ?_
      refine st_go 1 (pc' := 22) (lo' := [(0, .ref 42), (1, .int x1)]) (st' := [.int 0]) rfl ?_
      exact st_retI rfl rfl (hQ _ _ h)
