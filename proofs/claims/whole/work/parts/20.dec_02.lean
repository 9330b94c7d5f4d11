/-! The decompiled program, 4.2 -/
set_option maxRecDepth 100000 in
def Operands_classify_135 (x3 : Int32) (x6 : Int32) (s0 : Int32) (s1 : Int32) (d : vmD) (Q : Int32 → vmD → Prop) : Prop :=
  ixOk s1 2 ∧
  bnd (sA d 34 s1.toNatClampNeg s0) fun d_19 =>
  if x6 = 0 then
  (Q x3 d_19)
  else
  (Q (-1) d_19)
set_option maxRecDepth 100000 in
set_option maxHeartbeats 4000000 in
theorem tOperands_classify_135 {L : Nat} {e : vmD} {Qo : Option Value → vmW → Prop} {Q : Int32 → vmD → Prop} (hQ : ∀ r d, Q r d → Qo (some (.int r)) (wC L d e)) (x3 : Int32) (x6 : Int32) (s0 : Int32) (s1 : Int32) (d : vmD) (h : Operands_classify_135 x3 x6 s0 s1 d Q) : vmWp 153 135 [(3, .int x3), (6, .int x6)] [.int s0, .int s1, .ref 34] (wC L d e) Qo := by
  unfold Operands_classify_135 at h
  obtain ⟨hj_18, h⟩ := h
  refine st_iastC (o := 34) rfl rfl hj_18 rfl (fun d_19 hy_d_19 => ?_)
  have h := h d_19 hy_d_19
  refine st_go 1 (pc' := 138) (lo' := [(3, .int x3), (6, .int x6)]) (st' := [.int x6]) rfl ?_
  by_cases hc_20 : x6 = 0
  · have h := Eq.mp (if_pos hc_20) h
    refine st_if (t := 145) (b := true) rfl (decide_eq_true hc_20) rfl ?_
    refine st_go 1 (pc' := 146) (lo' := [(3, .int x3), (6, .int x6)]) (st' := [.int x3]) rfl ?_
    exact st_retI rfl rfl (hQ _ _ h)
  · have h := Eq.mp (if_neg hc_20) h
    refine st_if (t := 141) (b := false) rfl (decide_eq_false hc_20) rfl ?_
    refine st_go 2 (pc' := 146) (lo' := [(3, .int x3), (6, .int x6)]) (st' := [.int (-1)]) rfl ?_
    exact st_retI rfl rfl (hQ _ _ h)
set_option maxRecDepth 100000 in
def Operands_classify_113 (x3 : Int32) (x4 : Int32) (s0 : Int32) (d : vmD) (Q : Int32 → vmD → Prop) : Prop :=
  if s0 = 0 then
  (Operands_classify_135 x3 s0 34 (gF d 33 8) d Q)
  else
  (Operands_classify_135 x3 s0 x4 (gF d 33 8) d Q)
set_option maxRecDepth 100000 in
set_option maxHeartbeats 4000000 in
theorem tOperands_classify_113 {L : Nat} {e : vmD} {Qo : Option Value → vmW → Prop} {Q : Int32 → vmD → Prop} (hQ : ∀ r d, Q r d → Qo (some (.int r)) (wC L d e)) (x3 : Int32) (x4 : Int32) (s0 : Int32) (d : vmD) (h : Operands_classify_113 x3 x4 s0 d Q) : vmWp 153 113 [(0, .ref 33), (3, .int x3), (4, .int x4)] [.int s0] (wC L d e) Qo := by
  unfold Operands_classify_113 at h
  refine st_go 6 (pc' := 125) (lo' := [(6, .int s0), (0, .ref 33), (3, .int x3), (4, .int x4)]) (st' := [.int s0, .int (gF d 33 8), .ref 34]) rfl ?_
  by_cases hc_17 : s0 = 0
  · have h := Eq.mp (if_pos hc_17) h
    refine st_if (t := 133) (b := true) rfl (decide_eq_true hc_17) rfl ?_
    refine st_go 1 (pc' := 135) (lo' := [(6, .int s0), (0, .ref 33), (3, .int x3), (4, .int x4)]) (st' := [.int 34, .int (gF d 33 8), .ref 34]) rfl ?_
    refine vmWp.sub (lo' := [(3, .int x3), (6, .int s0)]) ⟨rfl, rfl, trivial⟩ ?_
    exact tOperands_classify_135 hQ x3 s0 34 (gF d 33 8) d h
  · have h := Eq.mp (if_neg hc_17) h
    refine st_if (t := 128) (b := false) rfl (decide_eq_false hc_17) rfl ?_
    refine st_go 2 (pc' := 135) (lo' := [(6, .int s0), (0, .ref 33), (3, .int x3), (4, .int x4)]) (st' := [.int x4, .int (gF d 33 8), .ref 34]) rfl ?_
    refine vmWp.sub (lo' := [(3, .int x3), (6, .int s0)]) ⟨rfl, rfl, trivial⟩ ?_
    exact tOperands_classify_135 hQ x3 s0 x4 (gF d 33 8) d h
set_option maxRecDepth 100000 in
def Operands_classify_112 (x3 : Int32) (x4 : Int32) (d : vmD) (Q : Int32 → vmD → Prop) : Prop :=
  Operands_classify_113 x3 x4 0 d Q
set_option maxRecDepth 100000 in
set_option maxHeartbeats 4000000 in
theorem tOperands_classify_112 {L : Nat} {e : vmD} {Qo : Option Value → vmW → Prop} {Q : Int32 → vmD → Prop} (hQ : ∀ r d, Q r d → Qo (some (.int r)) (wC L d e)) (x3 : Int32) (x4 : Int32) (d : vmD) (h : Operands_classify_112 x3 x4 d Q) : vmWp 153 112 [(0, .ref 33), (3, .int x3), (4, .int x4)] [] (wC L d e) Qo := by
  unfold Operands_classify_112 at h
  refine st_go 1 (pc' := 113) (lo' := [(0, .ref 33), (3, .int x3), (4, .int x4)]) (st' := [.int 0]) rfl ?_
  refine vmWp.sub (lo' := [(0, .ref 33), (3, .int x3), (4, .int x4)]) ⟨rfl, rfl, rfl, trivial⟩ ?_
  exact tOperands_classify_113 hQ x3 x4 0 d h
set_option maxRecDepth 100000 in
def Operands_classify_242 (x3 : Int32) (s0 : Int32) (d : vmD) (Q : Int32 → vmD → Prop) : Prop :=
  (s0 = 0 ∨ s0 = 1) ∧
  bnd (sF d 33 7 s0) fun d_38 =>
  Q (x3 + 2) d_38
set_option maxRecDepth 100000 in
set_option maxHeartbeats 4000000 in
theorem tOperands_classify_242 {L : Nat} {e : vmD} {Qo : Option Value → vmW → Prop} {Q : Int32 → vmD → Prop} (hQ : ∀ r d, Q r d → Qo (some (.int r)) (wC L d e)) (x3 : Int32) (s0 : Int32) (d : vmD) (h : Operands_classify_242 x3 s0 d Q) : vmWp 153 242 [(3, .int x3)] [.int s0, .ref 33] (wC L d e) Qo := by
  unfold Operands_classify_242 at h
  obtain ⟨hz_39, h⟩ := h
  refine st_putZC (o := 33) (f := 7) rfl rfl rfl rfl hz_39 rfl (fun d_38 hy_d_38 => ?_)
  have h := h d_38 hy_d_38
  refine st_go 3 (pc' := 248) (lo' := [(3, .int x3)]) (st' := [.int (x3 + 2)]) rfl ?_
  exact st_retI rfl rfl (hQ _ _ h)
set_option maxRecDepth 100000 in
def Operands_classify_228 (x3 : Int32) (x5 : Int32) (s0 : Int32) (s1 : Int32) (d : vmD) (Q : Int32 → vmD → Prop) : Prop :=
  ixOk s1 2 ∧
  bnd (sA d 34 s1.toNatClampNeg s0) fun d_36 =>
  if x5 = 45 then
  (Operands_classify_242 x3 1 d_36 Q)
  else
  (Operands_classify_242 x3 0 d_36 Q)
set_option maxRecDepth 100000 in
set_option maxHeartbeats 4000000 in
theorem tOperands_classify_228 {L : Nat} {e : vmD} {Qo : Option Value → vmW → Prop} {Q : Int32 → vmD → Prop} (hQ : ∀ r d, Q r d → Qo (some (.int r)) (wC L d e)) (x3 : Int32) (x5 : Int32) (s0 : Int32) (s1 : Int32) (d : vmD) (h : Operands_classify_228 x3 x5 s0 s1 d Q) : vmWp 153 228 [(0, .ref 33), (3, .int x3), (5, .int x5)] [.int s0, .int s1, .ref 34] (wC L d e) Qo := by
  unfold Operands_classify_228 at h
  obtain ⟨hj_35, h⟩ := h
  refine st_iastC (o := 34) rfl rfl hj_35 rfl (fun d_36 hy_d_36 => ?_)
  have h := h d_36 hy_d_36
  refine st_go 3 (pc' := 234) (lo' := [(0, .ref 33), (3, .int x3), (5, .int x5)]) (st' := [.int 45, .int x5, .ref 33]) rfl ?_
  by_cases hc_37 : x5 = 45
  · have h := Eq.mp (if_pos hc_37) h
    refine st_icmp (t := 237) (b := false) rfl (decide_eq_false (fun z => z hc_37)) rfl ?_
    refine st_go 2 (pc' := 242) (lo' := [(0, .ref 33), (3, .int x3), (5, .int x5)]) (st' := [.int 1, .ref 33]) rfl ?_
    refine vmWp.sub (lo' := [(3, .int x3)]) ⟨rfl, trivial⟩ ?_
    exact tOperands_classify_242 hQ x3 1 d_36 h
  · have h := Eq.mp (if_neg hc_37) h
    refine st_icmp (t := 241) (b := true) rfl (decide_eq_true hc_37) rfl ?_
    refine st_go 1 (pc' := 242) (lo' := [(0, .ref 33), (3, .int x3), (5, .int x5)]) (st' := [.int 0, .ref 33]) rfl ?_
    refine vmWp.sub (lo' := [(3, .int x3)]) ⟨rfl, trivial⟩ ?_
    exact tOperands_classify_242 hQ x3 0 d_36 h
set_option maxRecDepth 100000 in
def Operands_classify_206 (x3 : Int32) (x4 : Int32) (x5 : Int32) (d : vmD) (Q : Int32 → vmD → Prop) : Prop :=
  if x4 = 15 then
  (Operands_classify_228 x3 x5 32 (gF d 33 8) d Q)
  else
  (Operands_classify_228 x3 x5 33 (gF d 33 8) d Q)
set_option maxRecDepth 100000 in
set_option maxHeartbeats 4000000 in
theorem tOperands_classify_206 {L : Nat} {e : vmD} {Qo : Option Value → vmW → Prop} {Q : Int32 → vmD → Prop} (hQ : ∀ r d, Q r d → Qo (some (.int r)) (wC L d e)) (x3 : Int32) (x4 : Int32) (x5 : Int32) (d : vmD) (h : Operands_classify_206 x3 x4 x5 d Q) : vmWp 153 206 [(0, .ref 33), (3, .int x3), (4, .int x4), (5, .int x5)] [] (wC L d e) Qo := by
  unfold Operands_classify_206 at h
  refine st_go 6 (pc' := 218) (lo' := [(0, .ref 33), (3, .int x3), (4, .int x4), (5, .int x5)]) (st' := [.int 15, .int x4, .int (gF d 33 8), .ref 34]) rfl ?_
  by_cases hc_34 : x4 = 15
  · have h := Eq.mp (if_pos hc_34) h
    refine st_icmp (t := 221) (b := false) rfl (decide_eq_false (fun z => z hc_34)) rfl ?_
    refine st_go 2 (pc' := 228) (lo' := [(0, .ref 33), (3, .int x3), (4, .int x4), (5, .int x5)]) (st' := [.int 32, .int (gF d 33 8), .ref 34]) rfl ?_
    refine vmWp.sub (lo' := [(0, .ref 33), (3, .int x3), (5, .int x5)]) ⟨rfl, rfl, rfl, trivial⟩ ?_
    exact tOperands_classify_228 hQ x3 x5 32 (gF d 33 8) d h
  · have h := Eq.mp (if_neg hc_34) h
    refine st_icmp (t := 226) (b := true) rfl (decide_eq_true hc_34) rfl ?_
    refine st_go 1 (pc' := 228) (lo' := [(0, .ref 33), (3, .int x3), (4, .int x4), (5, .int x5)]) (st' := [.int 33, .int (gF d 33 8), .ref 34]) rfl ?_
    refine vmWp.sub (lo' := [(0, .ref 33), (3, .int x3), (5, .int x5)]) ⟨rfl, rfl, rfl, trivial⟩ ?_
    exact tOperands_classify_228 hQ x3 x5 33 (gF d 33 8) d h
set_option maxRecDepth 100000 in
def Operands_classify_249 (x3 : Int32) (d : vmD) (Q : Int32 → vmD → Prop) : Prop :=
  ixOk (gF d 33 8) 2 ∧
  bnd (sA d 34 (gF d 33 8).toNatClampNeg (35 : Int32)) fun d_42 =>
  Q x3 d_42
set_option maxRecDepth 100000 in
set_option maxHeartbeats 4000000 in
theorem tOperands_classify_249 {L : Nat} {e : vmD} {Qo : Option Value → vmW → Prop} {Q : Int32 → vmD → Prop} (hQ : ∀ r d, Q r d → Qo (some (.int r)) (wC L d e)) (x3 : Int32) (d : vmD) (h : Operands_classify_249 x3 d Q) : vmWp 153 249 [(0, .ref 33), (3, .int x3)] [] (wC L d e) Qo := by
  unfold Operands_classify_249 at h
  refine st_go 5 (pc' := 259) (lo' := [(0, .ref 33), (3, .int x3)]) (st' := [.int 35, .int (gF d 33 8), .ref 34]) rfl ?_
  obtain ⟨hj_41, h⟩ := h
  refine st_iastC (o := 34) rfl rfl hj_41 rfl (fun d_42 hy_d_42 => ?_)
  have h := h d_42 hy_d_42
  refine st_go 1 (pc' := 261) (lo' := [(0, .ref 33), (3, .int x3)]) (st' := [.int x3]) rfl ?_
  exact st_retI rfl rfl (hQ _ _ h)
set_option maxRecDepth 100000 in
def Operands_classify_192 (x3 : Int32) (x4 : Int32) (x5 : Int32) (d : vmD) (Q : Int32 → vmD → Prop) : Prop :=
  if x5 = 43 then
  (Operands_classify_206 x3 x4 x5 d Q)
  else
  (if x5 = 45 then
  (Operands_classify_206 x3 x4 x5 d Q)
  else
  (Operands_classify_249 x3 d Q))
set_option maxRecDepth 100000 in
set_option maxHeartbeats 4000000 in
theorem tOperands_classify_192 {L : Nat} {e : vmD} {Qo : Option Value → vmW → Prop} {Q : Int32 → vmD → Prop} (hQ : ∀ r d, Q r d → Qo (some (.int r)) (wC L d e)) (x3 : Int32) (x4 : Int32) (x5 : Int32) (d : vmD) (h : Operands_classify_192 x3 x4 x5 d Q) : vmWp 153 192 [(0, .ref 33), (3, .int x3), (4, .int x4), (5, .int x5)] [] (wC L d e) Qo := by
  unfold Operands_classify_192 at h
  refine st_go 2 (pc' := 196) (lo' := [(0, .ref 33), (3, .int x3), (4, .int x4), (5, .int x5)]) (st' := [.int 43, .int x5]) rfl ?_
  by_cases hc_33 : x5 = 43
  · have h := Eq.mp (if_pos hc_33) h
    refine st_icmp (t := 206) (b := true) rfl (decide_eq_true hc_33) rfl ?_
    refine vmWp.sub (lo' := [(0, .ref 33), (3, .int x3), (4, .int x4), (5, .int x5)]) ⟨rfl, rfl, rfl, rfl, trivial⟩ ?_
    exact tOperands_classify_206 hQ x3 x4 x5 d h
  · have h := Eq.mp (if_neg hc_33) h
    refine st_icmp (t := 199) (b := false) rfl (decide_eq_false hc_33) rfl ?_
    refine st_go 2 (pc' := 203) (lo' := [(0, .ref 33), (3, .int x3), (4, .int x4), (5, .int x5)]) (st' := [.int 45, .int x5]) rfl ?_
    by_cases hc_40 : x5 = 45
    · have h := Eq.mp (if_pos hc_40) h
      refine st_icmp (t := 206) (b := false) rfl (decide_eq_false (fun z => z hc_40)) rfl ?_
      refine vmWp.sub (lo' := [(0, .ref 33), (3, .int x3), (4, .int x4), (5, .int x5)]) ⟨rfl, rfl, rfl, rfl, trivial⟩ ?_
      exact tOperands_classify_206 hQ x3 x4 x5 d h
    · have h := Eq.mp (if_neg hc_40) h
      refine st_icmp (t := 249) (b := true) rfl (decide_eq_true hc_40) rfl ?_
      refine vmWp.sub (lo' := [(0, .ref 33), (3, .int x3)]) ⟨rfl, rfl, trivial⟩ ?_
      exact tOperands_classify_249 hQ x3 d h
set_option maxRecDepth 100000 in
def Operands_classify_178 (x3 : Int32) (x4 : Int32) (x5 : Int32) (d : vmD) (Q : Int32 → vmD → Prop) : Prop :=
  if x4 = 15 then
  (Operands_classify_192 x3 x4 x5 d Q)
  else
  (if x4 = 16 then
  (Operands_classify_192 x3 x4 x5 d Q)
  else
  (Operands_classify_249 x3 d Q))
set_option maxRecDepth 100000 in
set_option maxHeartbeats 4000000 in
theorem tOperands_classify_178 {L : Nat} {e : vmD} {Qo : Option Value → vmW → Prop} {Q : Int32 → vmD → Prop} (hQ : ∀ r d, Q r d → Qo (some (.int r)) (wC L d e)) (x3 : Int32) (x4 : Int32) (x5 : Int32) (d : vmD) (h : Operands_classify_178 x3 x4 x5 d Q) : vmWp 153 178 [(0, .ref 33), (3, .int x3), (4, .int x4), (5, .int x5)] [] (wC L d e) Qo := by
  unfold Operands_classify_178 at h
  refine st_go 2 (pc' := 182) (lo' := [(0, .ref 33), (3, .int x3), (4, .int x4), (5, .int x5)]) (st' := [.int 15, .int x4]) rfl ?_
  by_cases hc_32 : x4 = 15
  · have h := Eq.mp (if_pos hc_32) h
    refine st_icmp (t := 192) (b := true) rfl (decide_eq_true hc_32) rfl ?_
    refine vmWp.sub (lo' := [(0, .ref 33), (3, .int x3), (4, .int x4), (5, .int x5)]) ⟨rfl, rfl, rfl, rfl, trivial⟩ ?_
    exact tOperands_classify_192 hQ x3 x4 x5 d h
  · have h := Eq.mp (if_neg hc_32) h
    refine st_icmp (t := 185) (b := false) rfl (decide_eq_false hc_32) rfl ?_
    refine st_go 2 (pc' := 189) (lo' := [(0, .ref 33), (3, .int x3), (4, .int x4), (5, .int x5)]) (st' := [.int 16, .int x4]) rfl ?_
    by_cases hc_43 : x4 = 16
    · have h := Eq.mp (if_pos hc_43) h
      refine st_icmp (t := 192) (b := false) rfl (decide_eq_false (fun z => z hc_43)) rfl ?_
      refine vmWp.sub (lo' := [(0, .ref 33), (3, .int x3), (4, .int x4), (5, .int x5)]) ⟨rfl, rfl, rfl, rfl, trivial⟩ ?_
      exact tOperands_classify_192 hQ x3 x4 x5 d h
    · have h := Eq.mp (if_neg hc_43) h
      refine st_icmp (t := 249) (b := true) rfl (decide_eq_true hc_43) rfl ?_
      refine vmWp.sub (lo' := [(0, .ref 33), (3, .int x3)]) ⟨rfl, rfl, trivial⟩ ?_
      exact tOperands_classify_249 hQ x3 d h
set_option maxRecDepth 100000 in
def Operands_classify_60 (x2 : Int32) (x3 : Int32) (s0 : Int32) (d : vmD) (Q : Int32 → vmD → Prop) : Prop :=
  Tokens_kind (x3 + 1) d fun r_12 d_11 =>
  bnd (sF d_11 33 7 0) fun d_13 =>
  if x2 < 0 then
  (if (0 : Int32) < s0 then
  (if (25 : Int32) < s0 then
  (Operands_classify_112 x3 s0 d_13 Q)
  else
  (Tokens_endsOperand (x3 + 1) d_13 fun r_22 d_21 =>
  if r_22 = 0 then
  (Operands_classify_112 x3 s0 d_21 Q)
  else
  (Operands_classify_113 x3 s0 1 d_21 Q)))
  else
  (Operands_classify_112 x3 s0 d_13 Q))
  else
  (if x2 = (x3 + 1) then
  (Operands_placeOf s0 d_13 fun r_26 d_25 =>
  if (0 : Int32) < r_26 then
  (Operands_placeOf s0 d_25 fun r_29 d_28 =>
  ixOk (gF d_25 33 8) 2 ∧
  bnd (sA d_28 34 (gF d_25 33 8).toNatClampNeg r_29) fun d_31 =>
  Q (-1) d_31)
  else
  (Operands_classify_178 x3 s0 r_12 d_25 Q))
  else
  (Operands_classify_178 x3 s0 r_12 d_13 Q))
set_option maxRecDepth 100000 in
set_option maxHeartbeats 4000000 in
theorem tOperands_classify_60 {L : Nat} {e : vmD} {Qo : Option Value → vmW → Prop} {Q : Int32 → vmD → Prop} (hQ : ∀ r d, Q r d → Qo (some (.int r)) (wC L d e)) (x2 : Int32) (x3 : Int32) (s0 : Int32) (d : vmD) (h : Operands_classify_60 x2 x3 s0 d Q) : vmWp 153 60 [(0, .ref 33), (2, .int x2), (3, .int x3)] [.int s0] (wC L d e) Qo := by
  unfold Operands_classify_60 at h
  refine st_go 6 (pc' := 69) (lo' := [(4, .int s0), (0, .ref 33), (2, .int x2), (3, .int x3)]) (st' := [.int (x3 + 1), .ref 24]) rfl ?_
  refine st_calli (k' := 213) (as := [.ref 24, .int (x3 + 1)]) (rest := []) (lo' := [(0, .ref 24), (1, .int (x3 + 1))]) (wf := fun d => wC L d e) rfl rfl rfl ?_
  refine tTokens_kind (fun r_12 d_11 h => ⟨r_12, d_11, rfl, rfl, ?_⟩) (x3 + 1) d h
  refine st_go 3 (pc' := 76) (lo' := [(5, .int r_12), (4, .int s0), (0, .ref 33), (2, .int x2), (3, .int x3)]) (st' := [.int 0, .ref 33]) rfl ?_
  refine st_putZC (o := 33) (f := 7) rfl rfl rfl rfl (Or.inl rfl) rfl (fun d_13 hy_d_13 => ?_)
  have h := h d_13 hy_d_13
  refine st_go 1 (pc' := 80) (lo' := [(5, .int r_12), (4, .int s0), (0, .ref 33), (2, .int x2), (3, .int x3)]) (st' := [.int x2]) rfl ?_
  by_cases hc_14 : x2 < 0
  · have h := Eq.mp (if_pos hc_14) h
    refine st_if (t := 83) (b := false) rfl (decide_eq_false (Int32.not_le.mpr hc_14)) rfl ?_
    refine st_go 1 (pc' := 85) (lo' := [(5, .int r_12), (4, .int s0), (0, .ref 33), (2, .int x2), (3, .int x3)]) (st' := [.int s0]) rfl ?_
    by_cases hc_15 : (0 : Int32) < s0
    · have h := Eq.mp (if_pos hc_15) h
      refine st_if (t := 88) (b := false) rfl (decide_eq_false (Int32.not_le.mpr hc_15)) rfl ?_
      refine st_go 2 (pc' := 92) (lo' := [(5, .int r_12), (4, .int s0), (0, .ref 33), (2, .int x2), (3, .int x3)]) (st' := [.int 25, .int s0]) rfl ?_
      by_cases hc_16 : (25 : Int32) < s0
      · have h := Eq.mp (if_pos hc_16) h
        refine st_icmp (t := 112) (b := true) rfl (decide_eq_true hc_16) rfl ?_
        refine vmWp.sub (lo' := [(0, .ref 33), (3, .int x3), (4, .int s0)]) ⟨rfl, rfl, rfl, trivial⟩ ?_
        exact tOperands_classify_112 hQ x3 s0 d_13 h
      · have h := Eq.mp (if_neg hc_16) h
        refine st_icmp (t := 95) (b := false) rfl (decide_eq_false hc_16) rfl ?_
        refine st_go 5 (pc' := 102) (lo' := [(5, .int r_12), (4, .int s0), (0, .ref 33), (2, .int x2), (3, .int x3)]) (st' := [.int (x3 + 1), .ref 24]) rfl ?_
        refine st_calli (k' := 217) (as := [.ref 24, .int (x3 + 1)]) (rest := []) (lo' := [(0, .ref 24), (1, .int (x3 + 1))]) (wf := fun d => wC L d e) rfl rfl rfl ?_
        refine tTokens_endsOperand (fun r_22 d_21 h => ⟨r_22, d_21, rfl, rfl, ?_⟩) (x3 + 1) d_13 h
        by_cases hc_23 : r_22 = 0
        · have h := Eq.mp (if_pos hc_23) h
          refine st_if (t := 112) (b := true) rfl (decide_eq_true hc_23) rfl ?_
          refine vmWp.sub (lo' := [(0, .ref 33), (3, .int x3), (4, .int s0)]) ⟨rfl, rfl, rfl, trivial⟩ ?_
          exact tOperands_classify_112 hQ x3 s0 d_21 h
        · have h := Eq.mp (if_neg hc_23) h
          refine st_if (t := 108) (b := false) rfl (decide_eq_false hc_23) rfl ?_
          refine st_go 2 (pc' := 113) (lo' := [(5, .int r_12), (4, .int s0), (0, .ref 33), (2, .int x2), (3, .int x3)]) (st' := [.int 1]) rfl ?_
          refine vmWp.sub (lo' := [(0, .ref 33), (3, .int x3), (4, .int s0)]) ⟨rfl, rfl, rfl, trivial⟩ ?_
          exact tOperands_classify_113 hQ x3 s0 1 d_21 h
    · have h := Eq.mp (if_neg hc_15) h
      refine st_if (t := 112) (b := true) rfl (decide_eq_true (Int32.not_lt.mp hc_15)) rfl ?_
      refine vmWp.sub (lo' := [(0, .ref 33), (3, .int x3), (4, .int s0)]) ⟨rfl, rfl, rfl, trivial⟩ ?_
      exact tOperands_classify_112 hQ x3 s0 d_13 h
  · have h := Eq.mp (if_neg hc_14) h
    refine st_if (t := 147) (b := true) rfl (decide_eq_true (Int32.not_lt.mp hc_14)) rfl ?_
    refine st_go 4 (pc' := 151) (lo' := [(5, .int r_12), (4, .int s0), (0, .ref 33), (2, .int x2), (3, .int x3)]) (st' := [.int (x3 + 1), .int x2]) rfl ?_
    by_cases hc_24 : x2 = (x3 + 1)
    · have h := Eq.mp (if_pos hc_24) h
      refine st_icmp (t := 154) (b := false) rfl (decide_eq_false (fun z => z hc_24)) rfl ?_
      refine st_go 1 (pc' := 156) (lo' := [(5, .int r_12), (4, .int s0), (0, .ref 33), (2, .int x2), (3, .int x3)]) (st' := [.int s0]) rfl ?_
      refine st_calli (k' := 154) (as := [.int s0]) (rest := []) (lo' := [(0, .int s0)]) (wf := fun d => wC L d e) rfl rfl rfl ?_
      refine tOperands_placeOf (fun r_26 d_25 h => ⟨r_26, d_25, rfl, rfl, ?_⟩) s0 d_13 h
      by_cases hc_27 : (0 : Int32) < r_26
      · have h := Eq.mp (if_pos hc_27) h
        refine st_if (t := 162) (b := false) rfl (decide_eq_false (Int32.not_le.mpr hc_27)) rfl ?_
        refine st_go 5 (pc' := 172) (lo' := [(5, .int r_12), (4, .int s0), (0, .ref 33), (2, .int x2), (3, .int x3)]) (st' := [.int s0, .int (gF d_25 33 8), .ref 34]) rfl ?_
        refine st_calli (k' := 154) (as := [.int s0]) (rest := [.int (gF d_25 33 8), .ref 34]) (lo' := [(0, .int s0)]) (wf := fun d => wC L d e) rfl rfl rfl ?_
        refine tOperands_placeOf (fun r_29 d_28 h => ⟨r_29, d_28, rfl, rfl, ?_⟩) s0 d_25 h
        obtain ⟨hj_30, h⟩ := h
        refine st_iastC (o := 34) rfl rfl hj_30 rfl (fun d_31 hy_d_31 => ?_)
        have h := h d_31 hy_d_31
        refine st_go 1 (pc' := 177) (lo' := [(5, .int r_12), (4, .int s0), (0, .ref 33), (2, .int x2), (3, .int x3)]) (st' := [.int (-1)]) rfl ?_
        exact st_retI rfl rfl (hQ _ _ h)
      · have h := Eq.mp (if_neg hc_27) h
        refine st_if (t := 178) (b := true) rfl (decide_eq_true (Int32.not_lt.mp hc_27)) rfl ?_
        refine vmWp.sub (lo' := [(0, .ref 33), (3, .int x3), (4, .int s0), (5, .int r_12)]) ⟨rfl, rfl, rfl, rfl, trivial⟩ ?_
        exact tOperands_classify_178 hQ x3 s0 r_12 d_25 h
    · have h := Eq.mp (if_neg hc_24) h
      refine st_icmp (t := 178) (b := true) rfl (decide_eq_true hc_24) rfl ?_
      refine vmWp.sub (lo' := [(0, .ref 33), (3, .int x3), (4, .int s0), (5, .int r_12)]) ⟨rfl, rfl, rfl, rfl, trivial⟩ ?_
      exact tOperands_classify_178 hQ x3 s0 r_12 d_13 h
set_option maxRecDepth 100000 in
def Operands_classify_28 (x2 : Int32) (s0 : Int32) (d : vmD) (Q : Int32 → vmD → Prop) : Prop :=
  Tokens_kind s0 d fun r_5 d_4 =>
  if r_5 = 2 then
  (Tokens_value s0 d_4 fun r_8 d_7 =>
  Names_idOf r_8 d_7 fun r_10 d_9 =>
  Operands_classify_60 x2 s0 r_10 d_9 Q)
  else
  (Operands_classify_60 x2 s0 0 d_4 Q)
set_option maxRecDepth 100000 in
set_option maxHeartbeats 4000000 in
theorem tOperands_classify_28 {L : Nat} {e : vmD} {Qo : Option Value → vmW → Prop} {Q : Int32 → vmD → Prop} (hQ : ∀ r d, Q r d → Qo (some (.int r)) (wC L d e)) (x2 : Int32) (s0 : Int32) (d : vmD) (h : Operands_classify_28 x2 s0 d Q) : vmWp 153 28 [(0, .ref 33), (2, .int x2)] [.int s0] (wC L d e) Qo := by
  unfold Operands_classify_28 at h
  refine st_go 4 (pc' := 34) (lo' := [(3, .int s0), (0, .ref 33), (2, .int x2)]) (st' := [.int s0, .ref 24]) rfl ?_
  refine st_calli (k' := 213) (as := [.ref 24, .int s0]) (rest := []) (lo' := [(0, .ref 24), (1, .int s0)]) (wf := fun d => wC L d e) rfl rfl rfl ?_
  refine tTokens_kind (fun r_5 d_4 h => ⟨r_5, d_4, rfl, rfl, ?_⟩) s0 d h
  refine st_go 1 (pc' := 38) (lo' := [(3, .int s0), (0, .ref 33), (2, .int x2)]) (st' := [.int 2, .int r_5]) rfl ?_
  by_cases hc_6 : r_5 = 2
  · have h := Eq.mp (if_pos hc_6) h
    refine st_icmp (t := 41) (b := false) rfl (decide_eq_false (fun z => z hc_6)) rfl ?_
    refine st_go 5 (pc' := 50) (lo' := [(3, .int s0), (0, .ref 33), (2, .int x2)]) (st' := [.int s0, .ref 24, .ref 3]) rfl ?_
    refine st_calll (k' := 215) (as := [.ref 24, .int s0]) (rest := [.ref 3]) (lo' := [(0, .ref 24), (1, .int s0)]) (wf := fun d => wC L d e) rfl rfl rfl ?_
    refine tTokens_value (fun r_8 d_7 h => ⟨r_8, d_7, rfl, rfl, ?_⟩) s0 d_4 h
    refine st_calli (k' := 139) (as := [.ref 3, .long r_8]) (rest := []) (lo' := [(0, .ref 3), (1, .long r_8)]) (wf := fun d => wC L d e) rfl rfl rfl ?_
    refine tNames_idOf (fun r_10 d_9 h => ⟨r_10, d_9, rfl, rfl, ?_⟩) r_8 d_7 h
    refine st_go 1 (pc' := 60) (lo' := [(3, .int s0), (0, .ref 33), (2, .int x2)]) (st' := [.int r_10]) rfl ?_
    refine vmWp.sub (lo' := [(0, .ref 33), (2, .int x2), (3, .int s0)]) ⟨rfl, rfl, rfl, trivial⟩ ?_
    exact tOperands_classify_60 hQ x2 s0 r_10 d_9 h
  · have h := Eq.mp (if_neg hc_6) h
    refine st_icmp (t := 59) (b := true) rfl (decide_eq_true hc_6) rfl ?_
    refine st_go 1 (pc' := 60) (lo' := [(3, .int s0), (0, .ref 33), (2, .int x2)]) (st' := [.int 0]) rfl ?_
    refine vmWp.sub (lo' := [(0, .ref 33), (2, .int x2), (3, .int s0)]) ⟨rfl, rfl, rfl, trivial⟩ ?_
    exact tOperands_classify_60 hQ x2 s0 0 d_4 h
set_option maxRecDepth 100000 in
def Operands_classify (x1 : Int32) (x2 : Int32) (d : vmD) (Q : Int32 → vmD → Prop) : Prop :=
  if (gF d 33 8) < 0 then
  (Q (-1) d)
  else
  (if (gF d 33 8) < 2 then
  (if x2 < 0 then
  (Operands_classify_28 x2 x1 d Q)
  else
  (Operands_classify_28 x2 (x1 + 1) d Q))
  else
  (Q (-1) d))
set_option maxRecDepth 100000 in
set_option maxHeartbeats 4000000 in
theorem tOperands_classify {L : Nat} {e : vmD} {Qo : Option Value → vmW → Prop} {Q : Int32 → vmD → Prop} (hQ : ∀ r d, Q r d → Qo (some (.int r)) (wC L d e)) (x1 : Int32) (x2 : Int32) (d : vmD) (h : Operands_classify x1 x2 d Q) : vmWp 153 0 [(0, .ref 33), (1, .int x1), (2, .int x2)] [] (wC L d e) Qo := by
  unfold Operands_classify at h
  refine st_go 2 (pc' := 4) (lo' := [(0, .ref 33), (1, .int x1), (2, .int x2)]) (st' := [.int (gF d 33 8)]) rfl ?_
  by_cases hc_1 : (gF d 33 8) < 0
  · have h := Eq.mp (if_pos hc_1) h
    refine st_if (t := 15) (b := true) rfl (decide_eq_true hc_1) rfl ?_
    refine st_go 1 (pc' := 16) (lo' := [(0, .ref 33), (1, .int x1), (2, .int x2)]) (st' := [.int (-1)]) rfl ?_
    exact st_retI rfl rfl (hQ _ _ h)
  · have h := Eq.mp (if_neg hc_1) h
    refine st_if (t := 7) (b := false) rfl (decide_eq_false hc_1) rfl ?_
    refine st_go 3 (pc' := 12) (lo' := [(0, .ref 33), (1, .int x1), (2, .int x2)]) (st' := [.int 2, .int (gF d 33 8)]) rfl ?_
    by_cases hc_2 : (gF d 33 8) < 2
    · have h := Eq.mp (if_pos hc_2) h
      refine st_icmp (t := 17) (b := true) rfl (decide_eq_true hc_2) rfl ?_
      refine st_go 1 (pc' := 18) (lo' := [(0, .ref 33), (1, .int x1), (2, .int x2)]) (st' := [.int x2]) rfl ?_
      by_cases hc_3 : x2 < 0
      · have h := Eq.mp (if_pos hc_3) h
        refine st_if (t := 21) (b := false) rfl (decide_eq_false (Int32.not_le.mpr hc_3)) rfl ?_
        refine st_go 2 (pc' := 28) (lo' := [(0, .ref 33), (1, .int x1), (2, .int x2)]) (st' := [.int x1]) rfl ?_
        refine vmWp.sub (lo' := [(0, .ref 33), (2, .int x2)]) ⟨rfl, rfl, trivial⟩ ?_
        exact tOperands_classify_28 hQ x2 x1 d h
      · have h := Eq.mp (if_neg hc_3) h
        refine st_if (t := 25) (b := true) rfl (decide_eq_true (Int32.not_lt.mp hc_3)) rfl ?_
        refine st_go 3 (pc' := 28) (lo' := [(0, .ref 33), (1, .int x1), (2, .int x2)]) (st' := [.int (x1 + 1)]) rfl ?_
        refine vmWp.sub (lo' := [(0, .ref 33), (2, .int x2)]) ⟨rfl, rfl, trivial⟩ ?_
        exact tOperands_classify_28 hQ x2 (x1 + 1) d h
    · have h := Eq.mp (if_neg hc_2) h
      refine st_icmp (t := 15) (b := false) rfl (decide_eq_false hc_2) rfl ?_
      refine st_go 1 (pc' := 16) (lo' := [(0, .ref 33), (1, .int x1), (2, .int x2)]) (st' := [.int (-1)]) rfl ?_
      exact st_retI rfl rfl (hQ _ _ h)
set_option maxRecDepth 100000 in
def Operands_read_174 (x4 : Int32) (x6 : Int32) (d : vmD) (Q : Int32 → vmD → Prop) : Prop :=
  if x4 < 0 then
  (Q x6 d)
  else
  (Q (x4 + 1) d)
set_option maxRecDepth 100000 in
set_option maxHeartbeats 4000000 in
theorem tOperands_read_174 {L : Nat} {e : vmD} {Qo : Option Value → vmW → Prop} {Q : Int32 → vmD → Prop} (hQ : ∀ r d, Q r d → Qo (some (.int r)) (wC L d e)) (x4 : Int32) (x6 : Int32) (d : vmD) (h : Operands_read_174 x4 x6 d Q) : vmWp 151 174 [(4, .int x4), (6, .int x6)] [] (wC L d e) Qo := by
  unfold Operands_read_174 at h
  refine st_go 1 (pc' := 176) (lo' := [(4, .int x4), (6, .int x6)]) (st' := [.int x4]) rfl ?_
  by_cases hc_11 : x4 < 0
  · have h := Eq.mp (if_pos hc_11) h
    refine st_if (t := 179) (b := false) rfl (decide_eq_false (Int32.not_le.mpr hc_11)) rfl ?_
    refine st_go 2 (pc' := 188) (lo' := [(4, .int x4), (6, .int x6)]) (st' := [.int x6]) rfl ?_
    exact st_retI rfl rfl (hQ _ _ h)
  · have h := Eq.mp (if_neg hc_11) h
    refine st_if (t := 184) (b := true) rfl (decide_eq_true (Int32.not_lt.mp hc_11)) rfl ?_
    refine st_go 3 (pc' := 188) (lo' := [(4, .int x4), (6, .int x6)]) (st' := [.int (x4 + 1)]) rfl ?_
    exact st_retI rfl rfl (hQ _ _ h)
set_option maxRecDepth 100000 in
def Operands_read_141 (x4 : Int32) (x6 : Int32) (d : vmD) (Q : Int32 → vmD → Prop) : Prop :=
  bnd (sF d 33 8 ((gF d 33 8) + 1)) fun d_9 =>
  if x4 < 0 then
  (Operands_read_174 x4 x6 d_9 Q)
  else
  (if x6 = x4 then
  (Operands_read_174 x4 x6 d_9 Q)
  else
  (Tokens_refuse x6 d_9 fun d_13 =>
  Q (-1) d_13))
set_option maxRecDepth 100000 in
set_option maxHeartbeats 4000000 in
theorem tOperands_read_141 {L : Nat} {e : vmD} {Qo : Option Value → vmW → Prop} {Q : Int32 → vmD → Prop} (hQ : ∀ r d, Q r d → Qo (some (.int r)) (wC L d e)) (x4 : Int32) (x6 : Int32) (d : vmD) (h : Operands_read_141 x4 x6 d Q) : vmWp 151 141 [(0, .ref 33), (4, .int x4), (6, .int x6)] [] (wC L d e) Qo := by
  unfold Operands_read_141 at h
  refine st_go 5 (pc' := 148) (lo' := [(0, .ref 33), (4, .int x4), (6, .int x6)]) (st' := [.int ((gF d 33 8) + 1), .ref 33]) rfl ?_
  refine st_putIC (o := 33) (f := 8) rfl rfl rfl rfl rfl (fun d_9 hy_d_9 => ?_)
  have h := h d_9 hy_d_9
  refine st_go 1 (pc' := 153) (lo' := [(0, .ref 33), (4, .int x4), (6, .int x6)]) (st' := [.int x4]) rfl ?_
  by_cases hc_10 : x4 < 0
  · have h := Eq.mp (if_pos hc_10) h
    refine st_if (t := 174) (b := true) rfl (decide_eq_true hc_10) rfl ?_
    refine vmWp.sub (lo' := [(4, .int x4), (6, .int x6)]) ⟨rfl, rfl, trivial⟩ ?_
    exact tOperands_read_174 hQ x4 x6 d_9 h
  · have h := Eq.mp (if_neg hc_10) h
    refine st_if (t := 156) (b := false) rfl (decide_eq_false hc_10) rfl ?_
    refine st_go 2 (pc' := 160) (lo' := [(0, .ref 33), (4, .int x4), (6, .int x6)]) (st' := [.int x4, .int x6]) rfl ?_
    by_cases hc_12 : x6 = x4
    · have h := Eq.mp (if_pos hc_12) h
      refine st_icmp (t := 174) (b := true) rfl (decide_eq_true hc_12) rfl ?_
      refine vmWp.sub (lo' := [(4, .int x4), (6, .int x6)]) ⟨rfl, rfl, trivial⟩ ?_
      exact tOperands_read_174 hQ x4 x6 d_9 h
    · have h := Eq.mp (if_neg hc_12) h
      refine st_icmp (t := 163) (b := false) rfl (decide_eq_false hc_12) rfl ?_
      refine st_go 3 (pc' := 169) (lo' := [(0, .ref 33), (4, .int x4), (6, .int x6)]) (st' := [.int x6, .ref 24]) rfl ?_
      refine st_callv (k' := 220) (as := [.ref 24, .int x6]) (rest := []) (lo' := [(0, .ref 24), (1, .int x6)]) (wf := fun d => wC L d e) rfl rfl rfl ?_
      refine tTokens_refuse (fun d_13 h => ⟨d_13, rfl, rfl, ?_⟩) x6 d_9 h
      refine st_go 1 (pc' := 173) (lo' := [(0, .ref 33), (4, .int x4), (6, .int x6)]) (st' := [.int (-1)]) rfl ?_
      exact st_retI rfl rfl (hQ _ _ h)
set_option maxRecDepth 100000 in
def Operands_read_106 (x4 : Int32) (x5 : Int32) (x6 : Int32) (s0 : Int32) (s1 : Int32) (d : vmD) (Q : Int32 → vmD → Prop) : Prop :=
  ixOk s1 2 ∧
  bnd (sA d 35 s1.toNatClampNeg s0) fun d_21 =>
  Expression_known d_21 fun r_23 d_22 =>
  ixOk (gF d_21 33 8) 2 ∧
  bnd (sA d_22 37 (gF d_21 33 8).toNatClampNeg (r_23 &&& 1)) fun d_25 =>
  Tokens_place x5 d_25 fun r_27 d_26 =>
  ixOk (gF d_25 33 8) 2 ∧
  bnd (sA d_26 36 (gF d_25 33 8).toNatClampNeg r_27) fun d_29 =>
  Operands_read_141 x4 x6 d_29 Q
set_option maxRecDepth 100000 in
set_option maxHeartbeats 4000000 in
theorem tOperands_read_106 {L : Nat} {e : vmD} {Qo : Option Value → vmW → Prop} {Q : Int32 → vmD → Prop} (hQ : ∀ r d, Q r d → Qo (some (.int r)) (wC L d e)) (x4 : Int32) (x5 : Int32) (x6 : Int32) (s0 : Int32) (s1 : Int32) (d : vmD) (h : Operands_read_106 x4 x5 x6 s0 s1 d Q) : vmWp 151 106 [(0, .ref 33), (4, .int x4), (5, .int x5), (6, .int x6)] [.int s0, .int s1, .ref 35] (wC L d e) Qo := by
  unfold Operands_read_106 at h
  obtain ⟨hj_20, h⟩ := h
  refine st_iastC (o := 35) rfl rfl hj_20 rfl (fun d_21 hy_d_21 => ?_)
  have h := h d_21 hy_d_21
  refine st_go 6 (pc' := 119) (lo' := [(0, .ref 33), (4, .int x4), (5, .int x5), (6, .int x6)]) (st' := [.ref 28, .int (gF d_21 33 8), .ref 37]) rfl ?_
  refine st_calli (k' := 12) (as := [.ref 28]) (rest := [.int (gF d_21 33 8), .ref 37]) (lo' := [(0, .ref 28)]) (wf := fun d => wC L d e) rfl rfl rfl ?_
  refine tExpression_known (fun r_23 d_22 h => ⟨r_23, d_22, rfl, rfl, ?_⟩) d_21 h
  obtain ⟨hj_24, h⟩ := h
  refine st_zastC (o := 37) rfl rfl rfl hj_24 rfl (fun d_25 hy_d_25 => ?_)
  have h := h d_25 hy_d_25
  refine st_go 7 (pc' := 137) (lo' := [(0, .ref 33), (4, .int x4), (5, .int x5), (6, .int x6)]) (st' := [.int x5, .ref 24, .int (gF d_25 33 8), .ref 36]) rfl ?_
  refine st_calli (k' := 214) (as := [.ref 24, .int x5]) (rest := [.int (gF d_25 33 8), .ref 36]) (lo' := [(0, .ref 24), (1, .int x5)]) (wf := fun d => wC L d e) rfl rfl rfl ?_
  refine tTokens_place (fun r_27 d_26 h => ⟨r_27, d_26, rfl, rfl, ?_⟩) x5 d_25 h
  obtain ⟨hj_28, h⟩ := h
  refine st_iastC (o := 36) rfl rfl hj_28 rfl (fun d_29 hy_d_29 => ?_)
  have h := h d_29 hy_d_29
  refine vmWp.sub (lo' := [(0, .ref 33), (4, .int x4), (6, .int x6)]) ⟨rfl, rfl, rfl, trivial⟩ ?_
  exact tOperands_read_141 hQ x4 x6 d_29 h
set_option maxRecDepth 100000 in
def Operands_read_46 (x2 : Int32) (x3 : Int32) (x4 : Int32) (x5 : Int32) (s0 : Int32) (d : vmD) (Q : Int32 → vmD → Prop) : Prop :=
  if x5 < 0 then
  (Operands_read_141 x4 s0 d Q)
  else
  (Expression_read x5 x2 x3 d fun r_15 d_14 =>
  if r_15 < 0 then
  (Q (-1) d_14)
  else
  (if (gF d_14 33 7) = 0 then
  (Expression_value d_14 fun r_19 d_18 =>
  Operands_read_106 x4 x5 r_15 r_19 (gF d_14 33 8) d_18 Q)
  else
  (Expression_value d_14 fun r_31 d_30 =>
  Operands_read_106 x4 x5 r_15 (-r_31) (gF d_14 33 8) d_30 Q)))
set_option maxRecDepth 100000 in
set_option maxHeartbeats 4000000 in
theorem tOperands_read_46 {L : Nat} {e : vmD} {Qo : Option Value → vmW → Prop} {Q : Int32 → vmD → Prop} (hQ : ∀ r d, Q r d → Qo (some (.int r)) (wC L d e)) (x2 : Int32) (x3 : Int32) (x4 : Int32) (x5 : Int32) (s0 : Int32) (d : vmD) (h : Operands_read_46 x2 x3 x4 x5 s0 d Q) : vmWp 151 46 [(0, .ref 33), (2, .int x2), (3, .int x3), (4, .int x4), (5, .int x5)] [.int s0] (wC L d e) Qo := by
  unfold Operands_read_46 at h
  refine st_go 2 (pc' := 50) (lo' := [(6, .int s0), (0, .ref 33), (2, .int x2), (3, .int x3), (4, .int x4), (5, .int x5)]) (st' := [.int x5]) rfl ?_
  by_cases hc_8 : x5 < 0
  · have h := Eq.mp (if_pos hc_8) h
    refine st_if (t := 141) (b := true) rfl (decide_eq_true hc_8) rfl ?_
    refine vmWp.sub (lo' := [(0, .ref 33), (4, .int x4), (6, .int s0)]) ⟨rfl, rfl, rfl, trivial⟩ ?_
    exact tOperands_read_141 hQ x4 s0 d h
  · have h := Eq.mp (if_neg hc_8) h
    refine st_if (t := 53) (b := false) rfl (decide_eq_false hc_8) rfl ?_
    refine st_go 5 (pc' := 61) (lo' := [(6, .int s0), (0, .ref 33), (2, .int x2), (3, .int x3), (4, .int x4), (5, .int x5)]) (st' := [.int x3, .int x2, .int x5, .ref 28]) rfl ?_
    refine st_calli (k' := 9) (as := [.ref 28, .int x5, .int x2, .int x3]) (rest := []) (lo' := [(0, .ref 28), (1, .int x5), (2, .int x2), (3, .int x3)]) (wf := fun d => wC L d e) rfl rfl rfl ?_
    refine tExpression_read (fun r_15 d_14 h => ⟨r_15, d_14, rfl, rfl, ?_⟩) x5 x2 x3 d h
    refine st_go 2 (pc' := 68) (lo' := [(6, .int r_15), (0, .ref 33), (2, .int x2), (3, .int x3), (4, .int x4), (5, .int x5)]) (st' := [.int r_15]) rfl ?_
    by_cases hc_16 : r_15 < 0
    · have h := Eq.mp (if_pos hc_16) h
      refine st_if (t := 71) (b := false) rfl (decide_eq_false (Int32.not_le.mpr hc_16)) rfl ?_
      refine st_go 1 (pc' := 72) (lo' := [(6, .int r_15), (0, .ref 33), (2, .int x2), (3, .int x3), (4, .int x4), (5, .int x5)]) (st' := [.int (-1)]) rfl ?_
      exact st_retI rfl rfl (hQ _ _ h)
    · have h := Eq.mp (if_neg hc_16) h
      refine st_if (t := 73) (b := true) rfl (decide_eq_true (Int32.not_lt.mp hc_16)) rfl ?_
      refine st_go 6 (pc' := 85) (lo' := [(6, .int r_15), (0, .ref 33), (2, .int x2), (3, .int x3), (4, .int x4), (5, .int x5)]) (st' := [.int (gF d_14 33 7), .int (gF d_14 33 8), .ref 35]) rfl ?_
      by_cases hc_17 : (gF d_14 33 7) = 0
      · have h := Eq.mp (if_pos hc_17) h
        refine st_if (t := 99) (b := true) rfl (decide_eq_true hc_17) rfl ?_
        refine st_go 2 (pc' := 103) (lo' := [(6, .int r_15), (0, .ref 33), (2, .int x2), (3, .int x3), (4, .int x4), (5, .int x5)]) (st' := [.ref 28, .int (gF d_14 33 8), .ref 35]) rfl ?_
        refine st_calli (k' := 11) (as := [.ref 28]) (rest := [.int (gF d_14 33 8), .ref 35]) (lo' := [(0, .ref 28)]) (wf := fun d => wC L d e) rfl rfl rfl ?_
        refine tExpression_value (fun r_19 d_18 h => ⟨r_19, d_18, rfl, rfl, ?_⟩) d_14 h
        refine vmWp.sub (lo' := [(0, .ref 33), (4, .int x4), (5, .int x5), (6, .int r_15)]) ⟨rfl, rfl, rfl, rfl, trivial⟩ ?_
        exact tOperands_read_106 hQ x4 x5 r_15 r_19 (gF d_14 33 8) d_18 h
      · have h := Eq.mp (if_neg hc_17) h
        refine st_if (t := 88) (b := false) rfl (decide_eq_false hc_17) rfl ?_
        refine st_go 2 (pc' := 92) (lo' := [(6, .int r_15), (0, .ref 33), (2, .int x2), (3, .int x3), (4, .int x4), (5, .int x5)]) (st' := [.ref 28, .int (gF d_14 33 8), .ref 35]) rfl ?_
        refine st_calli (k' := 11) (as := [.ref 28]) (rest := [.int (gF d_14 33 8), .ref 35]) (lo' := [(0, .ref 28)]) (wf := fun d => wC L d e) rfl rfl rfl ?_
        refine tExpression_value (fun r_31 d_30 h => ⟨r_31, d_30, rfl, rfl, ?_⟩) d_14 h
        refine st_go 2 (pc' := 106) (lo' := [(6, .int r_15), (0, .ref 33), (2, .int x2), (3, .int x3), (4, .int x4), (5, .int x5)]) (st' := [.int (-r_31), .int (gF d_14 33 8), .ref 35]) rfl ?_
        refine vmWp.sub (lo' := [(0, .ref 33), (4, .int x4), (5, .int x5), (6, .int r_15)]) ⟨rfl, rfl, rfl, rfl, trivial⟩ ?_
        exact tOperands_read_106 hQ x4 x5 r_15 (-r_31) (gF d_14 33 8) d_30 h
set_option maxRecDepth 100000 in
def Operands_read (x1 : Int32) (x2 : Int32) (x3 : Int32) (d : vmD) (Q : Int32 → vmD → Prop) : Prop :=
  if (gF d 33 8) < 0 then
  (Q (-1) d)
  else
  (if (gF d 33 8) < 2 then
  (Operands_closing x1 d fun r_4 d_3 =>
  Operands_classify x1 r_4 d_3 fun r_6 d_5 =>
  if r_4 < 0 then
  (Operands_read_46 x2 x3 r_4 r_6 (x1 + 1) d_5 Q)
  else
  (Operands_read_46 x2 x3 r_4 r_6 r_4 d_5 Q))
  else
  (Q (-1) d))
set_option maxRecDepth 100000 in
set_option maxHeartbeats 4000000 in
theorem tOperands_read {L : Nat} {e : vmD} {Qo : Option Value → vmW → Prop} {Q : Int32 → vmD → Prop} (hQ : ∀ r d, Q r d → Qo (some (.int r)) (wC L d e)) (x1 : Int32) (x2 : Int32) (x3 : Int32) (d : vmD) (h : Operands_read x1 x2 x3 d Q) : vmWp 151 0 [(0, .ref 33), (1, .int x1), (2, .int x2), (3, .int x3)] [] (wC L d e) Qo := by
  unfold Operands_read at h
  refine st_go 2 (pc' := 4) (lo' := [(0, .ref 33), (1, .int x1), (2, .int x2), (3, .int x3)]) (st' := [.int (gF d 33 8)]) rfl ?_
  by_cases hc_1 : (gF d 33 8) < 0
  · have h := Eq.mp (if_pos hc_1) h
    refine st_if (t := 15) (b := true) rfl (decide_eq_true hc_1) rfl ?_
    refine st_go 1 (pc' := 16) (lo' := [(0, .ref 33), (1, .int x1), (2, .int x2), (3, .int x3)]) (st' := [.int (-1)]) rfl ?_
    exact st_retI rfl rfl (hQ _ _ h)
  · have h := Eq.mp (if_neg hc_1) h
    refine st_if (t := 7) (b := false) rfl (decide_eq_false hc_1) rfl ?_
    refine st_go 3 (pc' := 12) (lo' := [(0, .ref 33), (1, .int x1), (2, .int x2), (3, .int x3)]) (st' := [.int 2, .int (gF d 33 8)]) rfl ?_
    by_cases hc_2 : (gF d 33 8) < 2
    · have h := Eq.mp (if_pos hc_2) h
      refine st_icmp (t := 17) (b := true) rfl (decide_eq_true hc_2) rfl ?_
      refine st_go 2 (pc' := 19) (lo' := [(0, .ref 33), (1, .int x1), (2, .int x2), (3, .int x3)]) (st' := [.int x1, .ref 33]) rfl ?_
      refine st_calli (k' := 152) (as := [.ref 33, .int x1]) (rest := []) (lo' := [(0, .ref 33), (1, .int x1)]) (wf := fun d => wC L d e) rfl rfl rfl ?_
      refine tOperands_closing (fun r_4 d_3 h => ⟨r_4, d_3, rfl, rfl, ?_⟩) x1 d h
      refine st_go 4 (pc' := 28) (lo' := [(4, .int r_4), (0, .ref 33), (1, .int x1), (2, .int x2), (3, .int x3)]) (st' := [.int r_4, .int x1, .ref 33]) rfl ?_
      refine st_calli (k' := 153) (as := [.ref 33, .int x1, .int r_4]) (rest := []) (lo' := [(0, .ref 33), (1, .int x1), (2, .int r_4)]) (wf := fun d => wC L d e) rfl rfl rfl ?_
      refine tOperands_classify (fun r_6 d_5 h => ⟨r_6, d_5, rfl, rfl, ?_⟩) x1 r_4 d_3 h
      refine st_go 2 (pc' := 35) (lo' := [(5, .int r_6), (4, .int r_4), (0, .ref 33), (1, .int x1), (2, .int x2), (3, .int x3)]) (st' := [.int r_4]) rfl ?_
      by_cases hc_7 : r_4 < 0
      · have h := Eq.mp (if_pos hc_7) h
        refine st_if (t := 38) (b := false) rfl (decide_eq_false (Int32.not_le.mpr hc_7)) rfl ?_
        refine st_go 4 (pc' := 46) (lo' := [(5, .int r_6), (4, .int r_4), (0, .ref 33), (1, .int x1), (2, .int x2), (3, .int x3)]) (st' := [.int (x1 + 1)]) rfl ?_
        refine vmWp.sub (lo' := [(0, .ref 33), (2, .int x2), (3, .int x3), (4, .int r_4), (5, .int r_6)]) ⟨rfl, rfl, rfl, rfl, rfl, trivial⟩ ?_
        exact tOperands_read_46 hQ x2 x3 r_4 r_6 (x1 + 1) d_5 h
      · have h := Eq.mp (if_neg hc_7) h
        refine st_if (t := 44) (b := true) rfl (decide_eq_true (Int32.not_lt.mp hc_7)) rfl ?_
        refine st_go 1 (pc' := 46) (lo' := [(5, .int r_6), (4, .int r_4), (0, .ref 33), (1, .int x1), (2, .int x2), (3, .int x3)]) (st' := [.int r_4]) rfl ?_
        refine vmWp.sub (lo' := [(0, .ref 33), (2, .int x2), (3, .int x3), (4, .int r_4), (5, .int r_6)]) ⟨rfl, rfl, rfl, rfl, rfl, trivial⟩ ?_
        exact tOperands_read_46 hQ x2 x3 r_4 r_6 r_4 d_5 h
    · have h := Eq.mp (if_neg hc_2) h
      refine st_icmp (t := 15) (b := false) rfl (decide_eq_false hc_2) rfl ?_
      refine st_go 1 (pc' := 16) (lo' := [(0, .ref 33), (1, .int x1), (2, .int x2), (3, .int x3)]) (st' := [.int (-1)]) rfl ?_
      exact st_retI rfl rfl (hQ _ _ h)
set_option maxRecDepth 100000 in
def Forger_instruction_221 (x1 : Int32) (x6 : Int32) (d : vmD) (Q : vmD → Prop) : Prop :=
  Forger_goOn x1 x6 d fun d_23 =>
  Q d_23
set_option maxRecDepth 100000 in
set_option maxHeartbeats 4000000 in
theorem tForger_instruction_221 {L : Nat} {e : vmD} {Qo : Option Value → vmW → Prop} {Q : vmD → Prop} (hQ : ∀ d, Q d → Qo none (wC L d e)) (x1 : Int32) (x6 : Int32) (d : vmD) (h : Forger_instruction_221 x1 x6 d Q) : vmWp 46 221 [(0, .ref 20), (1, .int x1), (6, .int x6)] [] (wC L d e) Qo := by
  unfold Forger_instruction_221 at h
  refine st_go 3 (pc' := 225) (lo' := [(0, .ref 20), (1, .int x1), (6, .int x6)]) (st' := [.int x6, .int x1, .ref 20]) rfl ?_
  refine st_callv (k' := 56) (as := [.ref 20, .int x1, .int x6]) (rest := []) (lo' := [(0, .ref 20), (1, .int x1), (2, .int x6)]) (wf := fun d => wC L d e) rfl rfl rfl ?_
  refine tForger_goOn (fun d_23 h => ⟨d_23, rfl, rfl, ?_⟩) x1 x6 d h
  exact st_retV rfl rfl (hQ _ h)
set_option maxRecDepth 100000 in
def Forger_instruction_118 (x1 : Int32) (x2 : Int32) (x3 : Int32) (d : vmD) (Q : vmD → Prop) : Prop :=
  if x3 < 0 then
  (Q d)
  else
  (Forger_endsLine x3 d fun r_9 d_8 =>
  if r_9 = 0 then
  (Q d_8)
  else
  (Operands_kind 0 x2 d_8 fun r_12 d_11 =>
  Operands_kind 1 x2 d_11 fun r_14 d_13 =>
  Shapes_find x2 r_12 r_14 d_13 fun r_16 d_15 =>
  if r_16 < 0 then
  (Tokens_blame x1 6 d_15 fun d_18 =>
  Q d_18)
  else
  (Shapes_size r_16 d_15 fun r_20 d_19 =>
  if (gF d_19 20 9) = 2 then
  (Forger_checkOperands r_16 r_20 d_19 fun d_22 =>
  Forger_instruction_221 x1 r_20 d_22 Q)
  else
  (if (gF d_19 20 9) = 3 then
  (Forger_putInstruction r_16 r_20 d_19 fun d_25 =>
  Forger_instruction_221 x1 r_20 d_25 Q)
  else
  (Forger_instruction_221 x1 r_20 d_19 Q)))))
set_option maxRecDepth 100000 in
set_option maxHeartbeats 4000000 in
theorem tForger_instruction_118 {L : Nat} {e : vmD} {Qo : Option Value → vmW → Prop} {Q : vmD → Prop} (hQ : ∀ d, Q d → Qo none (wC L d e)) (x1 : Int32) (x2 : Int32) (x3 : Int32) (d : vmD) (h : Forger_instruction_118 x1 x2 x3 d Q) : vmWp 46 118 [(0, .ref 20), (1, .int x1), (2, .int x2), (3, .int x3)] [] (wC L d e) Qo := by
  unfold Forger_instruction_118 at h
  refine st_go 1 (pc' := 119) (lo' := [(0, .ref 20), (1, .int x1), (2, .int x2), (3, .int x3)]) (st' := [.int x3]) rfl ?_
  by_cases hc_7 : x3 < 0
  · have h := Eq.mp (if_pos hc_7) h
    refine st_if (t := 130) (b := true) rfl (decide_eq_true hc_7) rfl ?_
    exact st_retV rfl rfl (hQ _ h)
  · have h := Eq.mp (if_neg hc_7) h
    refine st_if (t := 122) (b := false) rfl (decide_eq_false hc_7) rfl ?_
    refine st_go 2 (pc' := 124) (lo' := [(0, .ref 20), (1, .int x1), (2, .int x2), (3, .int x3)]) (st' := [.int x3, .ref 20]) rfl ?_
    refine st_calli (k' := 39) (as := [.ref 20, .int x3]) (rest := []) (lo' := [(0, .ref 20), (1, .int x3)]) (wf := fun d => wC L d e) rfl rfl rfl ?_
    refine tForger_endsLine (fun r_9 d_8 h => ⟨r_9, d_8, rfl, rfl, ?_⟩) x3 d h
    by_cases hc_10 : r_9 = 0
    · have h := Eq.mp (if_pos hc_10) h
      refine st_if (t := 130) (b := false) rfl (decide_eq_false (fun z => z hc_10)) rfl ?_
      exact st_retV rfl rfl (hQ _ h)
    · have h := Eq.mp (if_neg hc_10) h
      refine st_if (t := 131) (b := true) rfl (decide_eq_true hc_10) rfl ?_
      refine st_go 7 (pc' := 142) (lo' := [(0, .ref 20), (1, .int x1), (2, .int x2), (3, .int x3)]) (st' := [.int x2, .int 0, .ref 33, .int x2, .ref 15]) rfl ?_
      refine st_calli (k' := 156) (as := [.ref 33, .int 0, .int x2]) (rest := [.int x2, .ref 15]) (lo' := [(0, .ref 33), (1, .int 0), (2, .int x2)]) (wf := fun d => wC L d e) rfl rfl rfl ?_
      refine tOperands_kind (fun r_12 d_11 h => ⟨r_12, d_11, rfl, rfl, ?_⟩) 0 x2 d_8 h
      refine st_go 4 (pc' := 151) (lo' := [(0, .ref 20), (1, .int x1), (2, .int x2), (3, .int x3)]) (st' := [.int x2, .int 1, .ref 33, .int r_12, .int x2, .ref 15]) rfl ?_
      refine st_calli (k' := 156) (as := [.ref 33, .int 1, .int x2]) (rest := [.int r_12, .int x2, .ref 15]) (lo' := [(0, .ref 33), (1, .int 1), (2, .int x2)]) (wf := fun d => wC L d e) rfl rfl rfl ?_
      refine tOperands_kind (fun r_14 d_13 h => ⟨r_14, d_13, rfl, rfl, ?_⟩) 1 x2 d_11 h
      refine st_calli (k' := 184) (as := [.ref 15, .int x2, .int r_12, .int r_14]) (rest := []) (lo' := [(0, .ref 15), (1, .int x2), (2, .int r_12), (3, .int r_14)]) (wf := fun d => wC L d e) rfl rfl rfl ?_
      refine tShapes_find (fun r_16 d_15 h => ⟨r_16, d_15, rfl, rfl, ?_⟩) x2 r_12 r_14 d_13 h
      refine st_go 2 (pc' := 161) (lo' := [(5, .int r_16), (0, .ref 20), (1, .int x1), (2, .int x2), (3, .int x3)]) (st' := [.int r_16]) rfl ?_
      by_cases hc_17 : r_16 < 0
      · have h := Eq.mp (if_pos hc_17) h
        refine st_if (t := 164) (b := false) rfl (decide_eq_false (Int32.not_le.mpr hc_17)) rfl ?_
        refine st_go 4 (pc' := 171) (lo' := [(5, .int r_16), (0, .ref 20), (1, .int x1), (2, .int x2), (3, .int x3)]) (st' := [.int 6, .int x1, .ref 24]) rfl ?_
        refine st_callv (k' := 218) (as := [.ref 24, .int x1, .int 6]) (rest := []) (lo' := [(0, .ref 24), (1, .int x1), (2, .int 6)]) (wf := fun d => wC L d e) rfl rfl rfl ?_
        refine tTokens_blame (fun d_18 h => ⟨d_18, rfl, rfl, ?_⟩) x1 6 d_15 h
        exact st_retV rfl rfl (hQ _ h)
      · have h := Eq.mp (if_neg hc_17) h
        refine st_if (t := 175) (b := true) rfl (decide_eq_true (Int32.not_lt.mp hc_17)) rfl ?_
        refine st_go 3 (pc' := 181) (lo' := [(5, .int r_16), (0, .ref 20), (1, .int x1), (2, .int x2), (3, .int x3)]) (st' := [.int r_16, .ref 15]) rfl ?_
        refine st_calli (k' := 186) (as := [.ref 15, .int r_16]) (rest := []) (lo' := [(0, .ref 15), (1, .int r_16)]) (wf := fun d => wC L d e) rfl rfl rfl ?_
        refine tShapes_size (fun r_20 d_19 h => ⟨r_20, d_19, rfl, rfl, ?_⟩) r_16 d_15 h
        refine st_go 4 (pc' := 191) (lo' := [(6, .int r_20), (5, .int r_16), (0, .ref 20), (1, .int x1), (2, .int x2), (3, .int x3)]) (st' := [.int 2, .int (gF d_19 20 9)]) rfl ?_
        by_cases hc_21 : (gF d_19 20 9) = 2
        · have h := Eq.mp (if_pos hc_21) h
          refine st_icmp (t := 194) (b := false) rfl (decide_eq_false (fun z => z hc_21)) rfl ?_
          refine st_go 3 (pc' := 199) (lo' := [(6, .int r_20), (5, .int r_16), (0, .ref 20), (1, .int x1), (2, .int x2), (3, .int x3)]) (st' := [.int r_20, .int r_16, .ref 20]) rfl ?_
          refine st_callv (k' := 47) (as := [.ref 20, .int r_16, .int r_20]) (rest := []) (lo' := [(0, .ref 20), (1, .int r_16), (2, .int r_20)]) (wf := fun d => wC L d e) rfl rfl rfl ?_
          refine tForger_checkOperands (fun d_22 h => ⟨d_22, rfl, rfl, ?_⟩) r_16 r_20 d_19 h
          refine st_go 1 (pc' := 221) (lo' := [(6, .int r_20), (5, .int r_16), (0, .ref 20), (1, .int x1), (2, .int x2), (3, .int x3)]) (st' := []) rfl ?_
          refine vmWp.sub (lo' := [(0, .ref 20), (1, .int x1), (6, .int r_20)]) ⟨rfl, rfl, rfl, trivial⟩ ?_
          exact tForger_instruction_221 hQ x1 r_20 d_22 h
        · have h := Eq.mp (if_neg hc_21) h
          refine st_icmp (t := 205) (b := true) rfl (decide_eq_true hc_21) rfl ?_
          refine st_go 3 (pc' := 210) (lo' := [(6, .int r_20), (5, .int r_16), (0, .ref 20), (1, .int x1), (2, .int x2), (3, .int x3)]) (st' := [.int 3, .int (gF d_19 20 9)]) rfl ?_
          by_cases hc_24 : (gF d_19 20 9) = 3
          · have h := Eq.mp (if_pos hc_24) h
            refine st_icmp (t := 213) (b := false) rfl (decide_eq_false (fun z => z hc_24)) rfl ?_
            refine st_go 3 (pc' := 218) (lo' := [(6, .int r_20), (5, .int r_16), (0, .ref 20), (1, .int x1), (2, .int x2), (3, .int x3)]) (st' := [.int r_20, .int r_16, .ref 20]) rfl ?_
            refine st_callv (k' := 50) (as := [.ref 20, .int r_16, .int r_20]) (rest := []) (lo' := [(0, .ref 20), (1, .int r_16), (2, .int r_20)]) (wf := fun d => wC L d e) rfl rfl rfl ?_
            refine tForger_putInstruction (fun d_25 h => ⟨d_25, rfl, rfl, ?_⟩) r_16 r_20 d_19 h
            refine vmWp.sub (lo' := [(0, .ref 20), (1, .int x1), (6, .int r_20)]) ⟨rfl, rfl, rfl, trivial⟩ ?_
            exact tForger_instruction_221 hQ x1 r_20 d_25 h
          · have h := Eq.mp (if_neg hc_24) h
            refine st_icmp (t := 221) (b := true) rfl (decide_eq_true hc_24) rfl ?_
            refine vmWp.sub (lo' := [(0, .ref 20), (1, .int x1), (6, .int r_20)]) ⟨rfl, rfl, rfl, trivial⟩ ?_
            exact tForger_instruction_221 hQ x1 r_20 d_19 h
set_option maxRecDepth 100000 in
def Forger_instruction_110 (b32 : Int32 → Int32 → Int32 → Int32 → Int32 → vmD → Prop) (x1 : Int32) (x2 : Int32) (x4 : Int32) (x5 : Int32) (s0 : Int32) (s1 : Int32) (d : vmD) (Q : vmD → Prop) : Prop :=
  bnd (s1 + s0) fun x3_32 =>
  bnd (x5 + 1) fun x5_33 =>
  b32 x1 x2 x3_32 x4 x5_33 d
set_option maxRecDepth 100000 in
set_option maxHeartbeats 4000000 in
theorem tForger_instruction_110 {L : Nat} {e : vmD} {Qo : Option Value → vmW → Prop} {b32 : Int32 → Int32 → Int32 → Int32 → Int32 → vmD → Prop} {Q : vmD → Prop} (hb32 : ∀ x1 x2 x3 x4 x5 d, b32 x1 x2 x3 x4 x5 d → vmWp 46 32 [(0, .ref 20), (1, .int x1), (2, .int x2), (3, .int x3), (4, .int x4), (5, .int x5)] [] (wC L d e) Qo) (hQ : ∀ d, Q d → Qo none (wC L d e)) (x1 : Int32) (x2 : Int32) (x4 : Int32) (x5 : Int32) (s0 : Int32) (s1 : Int32) (d : vmD) (h : Forger_instruction_110 b32 x1 x2 x4 x5 s0 s1 d Q) : vmWp 46 110 [(0, .ref 20), (1, .int x1), (2, .int x2), (4, .int x4), (5, .int x5)] [.int s0, .int s1] (wC L d e) Qo := by
  unfold Forger_instruction_110 at h
  refine st_go 2 (pc' := 112) (lo' := [(3, .int (s1 + s0)), (0, .ref 20), (1, .int x1), (2, .int x2), (4, .int x4), (5, .int x5)]) (st' := []) rfl ?_
  refine st_locI (fun x3_32 hy_x3_32 => ?_)
  have h := h x3_32 hy_x3_32
  refine st_go 1 (pc' := 115) (lo' := [(5, .int (x5 + 1)), (3, .int x3_32), (0, .ref 20), (1, .int x1), (2, .int x2), (4, .int x4)]) (st' := []) rfl ?_
  refine st_locI (fun x5_33 hy_x5_33 => ?_)
  have h := h x5_33 hy_x5_33
  refine st_go 1 (pc' := 32) (lo' := [(5, .int x5_33), (3, .int x3_32), (0, .ref 20), (1, .int x1), (2, .int x2), (4, .int x4)]) (st' := []) rfl ?_
  refine vmWp.sub (lo' := [(0, .ref 20), (1, .int x1), (2, .int x2), (3, .int x3_32), (4, .int x4), (5, .int x5_33)]) ⟨rfl, rfl, rfl, rfl, rfl, rfl, trivial⟩ ?_
  exact hb32 x1 x2 x3_32 x4 x5_33 d h
set_option maxRecDepth 100000 in
def Forger_instruction_97 (b32 : Int32 → Int32 → Int32 → Int32 → Int32 → vmD → Prop) (x1 : Int32) (x2 : Int32) (x3 : Int32) (x5 : Int32) (s0 : Int32) (d : vmD) (Q : vmD → Prop) : Prop :=
  if s0 = 0 then
  (Forger_instruction_110 b32 x1 x2 s0 x5 0 x3 d Q)
  else
  (Forger_instruction_110 b32 x1 x2 s0 x5 1 x3 d Q)
set_option maxRecDepth 100000 in
set_option maxHeartbeats 4000000 in
theorem tForger_instruction_97 {L : Nat} {e : vmD} {Qo : Option Value → vmW → Prop} {b32 : Int32 → Int32 → Int32 → Int32 → Int32 → vmD → Prop} {Q : vmD → Prop} (hb32 : ∀ x1 x2 x3 x4 x5 d, b32 x1 x2 x3 x4 x5 d → vmWp 46 32 [(0, .ref 20), (1, .int x1), (2, .int x2), (3, .int x3), (4, .int x4), (5, .int x5)] [] (wC L d e) Qo) (hQ : ∀ d, Q d → Qo none (wC L d e)) (x1 : Int32) (x2 : Int32) (x3 : Int32) (x5 : Int32) (s0 : Int32) (d : vmD) (h : Forger_instruction_97 b32 x1 x2 x3 x5 s0 d Q) : vmWp 46 97 [(0, .ref 20), (1, .int x1), (2, .int x2), (3, .int x3), (5, .int x5)] [.int s0] (wC L d e) Qo := by
  unfold Forger_instruction_97 at h
  refine st_go 3 (pc' := 102) (lo' := [(4, .int s0), (0, .ref 20), (1, .int x1), (2, .int x2), (3, .int x3), (5, .int x5)]) (st' := [.int s0, .int x3]) rfl ?_
  by_cases hc_31 : s0 = 0
  · have h := Eq.mp (if_pos hc_31) h
    refine st_if (t := 109) (b := true) rfl (decide_eq_true hc_31) rfl ?_
    refine st_go 1 (pc' := 110) (lo' := [(4, .int s0), (0, .ref 20), (1, .int x1), (2, .int x2), (3, .int x3), (5, .int x5)]) (st' := [.int 0, .int x3]) rfl ?_
    refine vmWp.sub (lo' := [(0, .ref 20), (1, .int x1), (2, .int x2), (4, .int s0), (5, .int x5)]) ⟨rfl, rfl, rfl, rfl, rfl, trivial⟩ ?_
    exact tForger_instruction_110 hb32 hQ x1 x2 s0 x5 0 x3 d h
  · have h := Eq.mp (if_neg hc_31) h
    refine st_if (t := 105) (b := false) rfl (decide_eq_false hc_31) rfl ?_
    refine st_go 2 (pc' := 110) (lo' := [(4, .int s0), (0, .ref 20), (1, .int x1), (2, .int x2), (3, .int x3), (5, .int x5)]) (st' := [.int 1, .int x3]) rfl ?_
    refine vmWp.sub (lo' := [(0, .ref 20), (1, .int x1), (2, .int x2), (4, .int s0), (5, .int x5)]) ⟨rfl, rfl, rfl, rfl, rfl, trivial⟩ ?_
    exact tForger_instruction_110 hb32 hQ x1 x2 s0 x5 1 x3 d h
set_option maxRecDepth 100000 in
def Forger_instruction_96 (b32 : Int32 → Int32 → Int32 → Int32 → Int32 → vmD → Prop) (x1 : Int32) (x2 : Int32) (x3 : Int32) (x5 : Int32) (d : vmD) (Q : vmD → Prop) : Prop :=
  Forger_instruction_97 b32 x1 x2 x3 x5 0 d Q
set_option maxRecDepth 100000 in
set_option maxHeartbeats 4000000 in
theorem tForger_instruction_96 {L : Nat} {e : vmD} {Qo : Option Value → vmW → Prop} {b32 : Int32 → Int32 → Int32 → Int32 → Int32 → vmD → Prop} {Q : vmD → Prop} (hb32 : ∀ x1 x2 x3 x4 x5 d, b32 x1 x2 x3 x4 x5 d → vmWp 46 32 [(0, .ref 20), (1, .int x1), (2, .int x2), (3, .int x3), (4, .int x4), (5, .int x5)] [] (wC L d e) Qo) (hQ : ∀ d, Q d → Qo none (wC L d e)) (x1 : Int32) (x2 : Int32) (x3 : Int32) (x5 : Int32) (d : vmD) (h : Forger_instruction_96 b32 x1 x2 x3 x5 d Q) : vmWp 46 96 [(0, .ref 20), (1, .int x1), (2, .int x2), (3, .int x3), (5, .int x5)] [] (wC L d e) Qo := by
  unfold Forger_instruction_96 at h
  refine st_go 1 (pc' := 97) (lo' := [(0, .ref 20), (1, .int x1), (2, .int x2), (3, .int x3), (5, .int x5)]) (st' := [.int 0]) rfl ?_
  refine vmWp.sub (lo' := [(0, .ref 20), (1, .int x1), (2, .int x2), (3, .int x3), (5, .int x5)]) ⟨rfl, rfl, rfl, rfl, rfl, trivial⟩ ?_
  exact tForger_instruction_97 hb32 hQ x1 x2 x3 x5 0 d h
set_option maxRecDepth 100000 in
def Forger_instruction_65 (b32 : Int32 → Int32 → Int32 → Int32 → Int32 → vmD → Prop) (x1 : Int32) (x2 : Int32) (x5 : Int32) (s0 : Int32) (s1 : Int32) (s2 : Int32) (d : vmD) (Q : vmD → Prop) : Prop :=
  Operands_read s2 s1 s0 d fun r_29 d_28 =>
  if r_29 < 0 then
  (Forger_instruction_96 b32 x1 x2 r_29 x5 d_28 Q)
  else
  (Tokens_kind r_29 d_28 fun r_35 d_34 =>
  if r_35 = 44 then
  (if x5 < 2 then
  (Forger_instruction_97 b32 x1 x2 r_29 x5 1 d_34 Q)
  else
  (Forger_instruction_96 b32 x1 x2 r_29 x5 d_34 Q))
  else
  (Forger_instruction_96 b32 x1 x2 r_29 x5 d_34 Q))
set_option maxRecDepth 100000 in
set_option maxHeartbeats 4000000 in
theorem tForger_instruction_65 {L : Nat} {e : vmD} {Qo : Option Value → vmW → Prop} {b32 : Int32 → Int32 → Int32 → Int32 → Int32 → vmD → Prop} {Q : vmD → Prop} (hb32 : ∀ x1 x2 x3 x4 x5 d, b32 x1 x2 x3 x4 x5 d → vmWp 46 32 [(0, .ref 20), (1, .int x1), (2, .int x2), (3, .int x3), (4, .int x4), (5, .int x5)] [] (wC L d e) Qo) (hQ : ∀ d, Q d → Qo none (wC L d e)) (x1 : Int32) (x2 : Int32) (x5 : Int32) (s0 : Int32) (s1 : Int32) (s2 : Int32) (d : vmD) (h : Forger_instruction_65 b32 x1 x2 x5 s0 s1 s2 d Q) : vmWp 46 65 [(0, .ref 20), (1, .int x1), (2, .int x2), (5, .int x5)] [.int s0, .int s1, .int s2, .ref 33] (wC L d e) Qo := by
  unfold Forger_instruction_65 at h
  refine st_calli (k' := 151) (as := [.ref 33, .int s2, .int s1, .int s0]) (rest := []) (lo' := [(0, .ref 33), (1, .int s2), (2, .int s1), (3, .int s0)]) (wf := fun d => wC L d e) rfl rfl rfl ?_
  refine tOperands_read (fun r_29 d_28 h => ⟨r_29, d_28, rfl, rfl, ?_⟩) s2 s1 s0 d h
  refine st_go 2 (pc' := 70) (lo' := [(3, .int r_29), (0, .ref 20), (1, .int x1), (2, .int x2), (5, .int x5)]) (st' := [.int r_29]) rfl ?_
  by_cases hc_30 : r_29 < 0
  · have h := Eq.mp (if_pos hc_30) h
    refine st_if (t := 96) (b := true) rfl (decide_eq_true hc_30) rfl ?_
    refine vmWp.sub (lo' := [(0, .ref 20), (1, .int x1), (2, .int x2), (3, .int r_29), (5, .int x5)]) ⟨rfl, rfl, rfl, rfl, rfl, trivial⟩ ?_
    exact tForger_instruction_96 hb32 hQ x1 x2 r_29 x5 d_28 h
  · have h := Eq.mp (if_neg hc_30) h
    refine st_if (t := 73) (b := false) rfl (decide_eq_false hc_30) rfl ?_
    refine st_go 3 (pc' := 78) (lo' := [(3, .int r_29), (0, .ref 20), (1, .int x1), (2, .int x2), (5, .int x5)]) (st' := [.int r_29, .ref 24]) rfl ?_
    refine st_calli (k' := 213) (as := [.ref 24, .int r_29]) (rest := []) (lo' := [(0, .ref 24), (1, .int r_29)]) (wf := fun d => wC L d e) rfl rfl rfl ?_
    refine tTokens_kind (fun r_35 d_34 h => ⟨r_35, d_34, rfl, rfl, ?_⟩) r_29 d_28 h
    refine st_go 1 (pc' := 83) (lo' := [(3, .int r_29), (0, .ref 20), (1, .int x1), (2, .int x2), (5, .int x5)]) (st' := [.int 44, .int r_35]) rfl ?_
    by_cases hc_36 : r_35 = 44
    · have h := Eq.mp (if_pos hc_36) h
      refine st_icmp (t := 86) (b := false) rfl (decide_eq_false (fun z => z hc_36)) rfl ?_
      refine st_go 2 (pc' := 89) (lo' := [(3, .int r_29), (0, .ref 20), (1, .int x1), (2, .int x2), (5, .int x5)]) (st' := [.int 2, .int x5]) rfl ?_
      by_cases hc_37 : x5 < 2
      · have h := Eq.mp (if_pos hc_37) h
        refine st_icmp (t := 92) (b := false) rfl (decide_eq_false (Int32.not_le.mpr hc_37)) rfl ?_
        refine st_go 2 (pc' := 97) (lo' := [(3, .int r_29), (0, .ref 20), (1, .int x1), (2, .int x2), (5, .int x5)]) (st' := [.int 1]) rfl ?_
        refine vmWp.sub (lo' := [(0, .ref 20), (1, .int x1), (2, .int x2), (3, .int r_29), (5, .int x5)]) ⟨rfl, rfl, rfl, rfl, rfl, trivial⟩ ?_
        exact tForger_instruction_97 hb32 hQ x1 x2 r_29 x5 1 d_34 h
      · have h := Eq.mp (if_neg hc_37) h
        refine st_icmp (t := 96) (b := true) rfl (decide_eq_true (Int32.not_lt.mp hc_37)) rfl ?_
        refine vmWp.sub (lo' := [(0, .ref 20), (1, .int x1), (2, .int x2), (3, .int r_29), (5, .int x5)]) ⟨rfl, rfl, rfl, rfl, rfl, trivial⟩ ?_
        exact tForger_instruction_96 hb32 hQ x1 x2 r_29 x5 d_34 h
    · have h := Eq.mp (if_neg hc_36) h
      refine st_icmp (t := 96) (b := true) rfl (decide_eq_true hc_36) rfl ?_
      refine vmWp.sub (lo' := [(0, .ref 20), (1, .int x1), (2, .int x2), (3, .int r_29), (5, .int x5)]) ⟨rfl, rfl, rfl, rfl, rfl, trivial⟩ ?_
      exact tForger_instruction_96 hb32 hQ x1 x2 r_29 x5 d_34 h
set_option maxRecDepth 100000 in
def Forger_instruction_32 (Q : vmD → Prop) : Nat → Int32 → Int32 → Int32 → Int32 → Int32 → vmD → Prop
  | 0, _, _, _, _, _, _ => False
  | n + 1, x1, x2, x3, x4, x5, d => if x4 = 0 then
  (Forger_instruction_118 x1 x2 x3 d Q)
  else
  (if (2 : Int32) < x5 then
  (Forger_instruction_118 x1 x2 x3 d Q)
  else
  (if (gF d 20 9) = 2 then
  (Forger_instruction_65 (Forger_instruction_32 Q n) x1 x2 x5 1 (gF d 20 11) x3 d Q)
  else
  (Forger_instruction_65 (Forger_instruction_32 Q n) x1 x2 x5 0 (gF d 20 11) x3 d Q)))
set_option maxRecDepth 100000 in
set_option maxHeartbeats 4000000 in
theorem tForger_instruction_32 {L : Nat} {e : vmD} {Qo : Option Value → vmW → Prop} {Q : vmD → Prop} (hQ : ∀ d, Q d → Qo none (wC L d e)) : ∀ (n : Nat) (x1 : Int32) (x2 : Int32) (x3 : Int32) (x4 : Int32) (x5 : Int32) (d : vmD), Forger_instruction_32 Q n x1 x2 x3 x4 x5 d → vmWp 46 32 [(0, .ref 20), (1, .int x1), (2, .int x2), (3, .int x3), (4, .int x4), (5, .int x5)] [] (wC L d e) Qo := by
  intro n
  induction n with
  | zero => intro x1 x2 x3 x4 x5 d h; exact h.elim
  | succ n ih =>
    intro x1 x2 x3 x4 x5 d h
    unfold Forger_instruction_32 at h
    refine st_go 1 (pc' := 34) (lo' := [(0, .ref 20), (1, .int x1), (2, .int x2), (3, .int x3), (4, .int x4), (5, .int x5)]) (st' := [.int x4]) rfl ?_
    by_cases hc_6 : x4 = 0
    · have h := Eq.mp (if_pos hc_6) h
      refine st_if (t := 118) (b := true) rfl (decide_eq_true hc_6) rfl ?_
      refine vmWp.sub (lo' := [(0, .ref 20), (1, .int x1), (2, .int x2), (3, .int x3)]) ⟨rfl, rfl, rfl, rfl, trivial⟩ ?_
      exact tForger_instruction_118 hQ x1 x2 x3 d h
    · have h := Eq.mp (if_neg hc_6) h
      refine st_if (t := 37) (b := false) rfl (decide_eq_false hc_6) rfl ?_
      refine st_go 2 (pc' := 40) (lo' := [(0, .ref 20), (1, .int x1), (2, .int x2), (3, .int x3), (4, .int x4), (5, .int x5)]) (st' := [.int 2, .int x5]) rfl ?_
      by_cases hc_26 : (2 : Int32) < x5
      · have h := Eq.mp (if_pos hc_26) h
        refine st_icmp (t := 118) (b := true) rfl (decide_eq_true hc_26) rfl ?_
        refine vmWp.sub (lo' := [(0, .ref 20), (1, .int x1), (2, .int x2), (3, .int x3)]) ⟨rfl, rfl, rfl, rfl, trivial⟩ ?_
        exact tForger_instruction_118 hQ x1 x2 x3 d h
      · have h := Eq.mp (if_neg hc_26) h
        refine st_icmp (t := 43) (b := false) rfl (decide_eq_false hc_26) rfl ?_
        refine st_go 8 (pc' := 57) (lo' := [(0, .ref 20), (1, .int x1), (2, .int x2), (3, .int x3), (4, .int x4), (5, .int x5)]) (st' := [.int 2, .int (gF d 20 9), .int (gF d 20 11), .int x3, .ref 33]) rfl ?_
        by_cases hc_27 : (gF d 20 9) = 2
        · have h := Eq.mp (if_pos hc_27) h
          refine st_icmp (t := 60) (b := false) rfl (decide_eq_false (fun z => z hc_27)) rfl ?_
          refine st_go 2 (pc' := 65) (lo' := [(0, .ref 20), (1, .int x1), (2, .int x2), (3, .int x3), (4, .int x4), (5, .int x5)]) (st' := [.int 1, .int (gF d 20 11), .int x3, .ref 33]) rfl ?_
          refine vmWp.sub (lo' := [(0, .ref 20), (1, .int x1), (2, .int x2), (5, .int x5)]) ⟨rfl, rfl, rfl, rfl, trivial⟩ ?_
          exact tForger_instruction_65 ih hQ x1 x2 x5 1 (gF d 20 11) x3 d h
        · have h := Eq.mp (if_neg hc_27) h
          refine st_icmp (t := 64) (b := true) rfl (decide_eq_true hc_27) rfl ?_
          refine st_go 1 (pc' := 65) (lo' := [(0, .ref 20), (1, .int x1), (2, .int x2), (3, .int x3), (4, .int x4), (5, .int x5)]) (st' := [.int 0, .int (gF d 20 11), .int x3, .ref 33]) rfl ?_
          refine vmWp.sub (lo' := [(0, .ref 20), (1, .int x1), (2, .int x2), (5, .int x5)]) ⟨rfl, rfl, rfl, rfl, trivial⟩ ?_
          exact tForger_instruction_65 ih hQ x1 x2 x5 0 (gF d 20 11) x3 d h
set_option maxRecDepth 100000 in
def Forger_instruction_27 (x1 : Int32) (x2 : Int32) (x3 : Int32) (s0 : Int32) (d : vmD) (Q : vmD → Prop) : Prop :=
  ∃ m32, Forger_instruction_32 Q m32 x1 x2 x3 s0 1 d
set_option maxRecDepth 100000 in
set_option maxHeartbeats 4000000 in
theorem tForger_instruction_27 {L : Nat} {e : vmD} {Qo : Option Value → vmW → Prop} {Q : vmD → Prop} (hQ : ∀ d, Q d → Qo none (wC L d e)) (x1 : Int32) (x2 : Int32) (x3 : Int32) (s0 : Int32) (d : vmD) (h : Forger_instruction_27 x1 x2 x3 s0 d Q) : vmWp 46 27 [(0, .ref 20), (1, .int x1), (2, .int x2), (3, .int x3)] [.int s0] (wC L d e) Qo := by
  unfold Forger_instruction_27 at h
  refine st_go 3 (pc' := 32) (lo' := [(5, .int 1), (4, .int s0), (0, .ref 20), (1, .int x1), (2, .int x2), (3, .int x3)]) (st' := []) rfl ?_
  obtain ⟨m32, h⟩ := h
  refine vmWp.sub (lo' := [(0, .ref 20), (1, .int x1), (2, .int x2), (3, .int x3), (4, .int s0), (5, .int 1)]) ⟨rfl, rfl, rfl, rfl, rfl, rfl, trivial⟩ ?_
  exact tForger_instruction_32 hQ m32 x1 x2 x3 s0 1 d h
set_option maxRecDepth 100000 in
def Forger_instruction (x1 : Int32) (x2 : Int32) (d : vmD) (Q : vmD → Prop) : Prop :=
  Operands_begin d fun d_1 =>
  bnd (x1 + 1) fun x3_2 =>
  Tokens_kind x3_2 d_1 fun r_4 d_3 =>
  if r_4 = 0 then
  (Forger_instruction_27 x1 x2 x3_2 0 d_3 Q)
  else
  (Forger_instruction_27 x1 x2 x3_2 1 d_3 Q)
set_option maxRecDepth 100000 in
set_option maxHeartbeats 4000000 in
theorem tForger_instruction {L : Nat} {e : vmD} {Qo : Option Value → vmW → Prop} {Q : vmD → Prop} (hQ : ∀ d, Q d → Qo none (wC L d e)) (x1 : Int32) (x2 : Int32) (d : vmD) (h : Forger_instruction x1 x2 d Q) : vmWp 46 0 [(0, .ref 20), (1, .int x1), (2, .int x2)] [] (wC L d e) Qo := by
  unfold Forger_instruction at h
  refine st_go 2 (pc' := 4) (lo' := [(0, .ref 20), (1, .int x1), (2, .int x2)]) (st' := [.ref 33]) rfl ?_
  refine st_callv (k' := 150) (as := [.ref 33]) (rest := []) (lo' := [(0, .ref 33)]) (wf := fun d => wC L d e) rfl rfl rfl ?_
  refine tOperands_begin (fun d_1 h => ⟨d_1, rfl, rfl, ?_⟩) d h
  refine st_go 4 (pc' := 11) (lo' := [(3, .int (x1 + 1)), (0, .ref 20), (1, .int x1), (2, .int x2)]) (st' := []) rfl ?_
  refine st_locI (fun x3_2 hy_x3_2 => ?_)
  have h := h x3_2 hy_x3_2
  refine st_go 3 (pc' := 16) (lo' := [(3, .int x3_2), (0, .ref 20), (1, .int x1), (2, .int x2)]) (st' := [.int x3_2, .ref 24]) rfl ?_
  refine st_calli (k' := 213) (as := [.ref 24, .int x3_2]) (rest := []) (lo' := [(0, .ref 24), (1, .int x3_2)]) (wf := fun d => wC L d e) rfl rfl rfl ?_
  refine tTokens_kind (fun r_4 d_3 h => ⟨r_4, d_3, rfl, rfl, ?_⟩) x3_2 d_1 h
  by_cases hc_5 : r_4 = 0
  · have h := Eq.mp (if_pos hc_5) h
    refine st_if (t := 26) (b := true) rfl (decide_eq_true hc_5) rfl ?_
    refine st_go 1 (pc' := 27) (lo' := [(3, .int x3_2), (0, .ref 20), (1, .int x1), (2, .int x2)]) (st' := [.int 0]) rfl ?_
    refine vmWp.sub (lo' := [(0, .ref 20), (1, .int x1), (2, .int x2), (3, .int x3_2)]) ⟨rfl, rfl, rfl, rfl, trivial⟩ ?_
    exact tForger_instruction_27 hQ x1 x2 x3_2 0 d_3 h
  · have h := Eq.mp (if_neg hc_5) h
    refine st_if (t := 22) (b := false) rfl (decide_eq_false hc_5) rfl ?_
    refine st_go 2 (pc' := 27) (lo' := [(3, .int x3_2), (0, .ref 20), (1, .int x1), (2, .int x2)]) (st' := [.int 1]) rfl ?_
    refine vmWp.sub (lo' := [(0, .ref 20), (1, .int x1), (2, .int x2), (3, .int x3_2)]) ⟨rfl, rfl, rfl, rfl, trivial⟩ ?_
    exact tForger_instruction_27 hQ x1 x2 x3_2 1 d_3 h
set_option maxRecDepth 100000 in
def Forger_readStatement_110 (x1 : Int32) (x2 : Int32) (d : vmD) (Q : vmD → Prop) : Prop :=
  if x2 = 99 then
  (Forger_origin x1 d fun d_22 =>
  Q d_22)
  else
  if x2 = 101 then
  (Forger_data x1 1 d fun d_24 =>
  Q d_24)
  else
  if x2 = 102 then
  (Forger_data x1 0 d fun d_26 =>
  Q d_26)
  else
  if x2 = 103 then
  (Forger_space x1 d fun d_28 =>
  Q d_28)
  else
  if x2 = 104 then
  (Forger_condition x1 x2 d fun d_30 =>
  Q d_30)
  else
  if x2 = 105 then
  (Forger_condition x1 x2 d fun d_32 =>
  Q d_32)
  else
  if x2 = 106 then
  (Forger_condition x1 x2 d fun d_34 =>
  Q d_34)
  else
  (Tokens_blame x1 6 d fun d_35 =>
  Q d_35)
set_option maxRecDepth 100000 in
set_option maxHeartbeats 4000000 in
theorem tForger_readStatement_110 {L : Nat} {e : vmD} {Qo : Option Value → vmW → Prop} {Q : vmD → Prop} (hQ : ∀ d, Q d → Qo none (wC L d e)) (x1 : Int32) (x2 : Int32) (d : vmD) (h : Forger_readStatement_110 x1 x2 d Q) : vmWp 36 110 [(0, .ref 20), (1, .int x1), (2, .int x2)] [] (wC L d e) Qo := by
  unfold Forger_readStatement_110 at h
  refine st_go 1 (pc' := 111) (lo' := [(0, .ref 20), (1, .int x1), (2, .int x2)]) (st' := [.int x2]) rfl ?_
  by_cases hc_21 : x2 = 99
  · have h := Eq.mp (if_pos hc_21) h
    refine st_tab (t := 156) rfl (by rw [hc_21]; rfl) ?_
    refine st_go 2 (pc' := 158) (lo' := [(0, .ref 20), (1, .int x1), (2, .int x2)]) (st' := [.int x1, .ref 20]) rfl ?_
    refine st_callv (k' := 42) (as := [.ref 20, .int x1]) (rest := []) (lo' := [(0, .ref 20), (1, .int x1)]) (wf := fun d => wC L d e) rfl rfl rfl ?_
    refine tForger_origin (fun d_22 h => ⟨d_22, rfl, rfl, ?_⟩) x1 d h
    refine st_go 1 (pc' := 209) (lo' := [(0, .ref 20), (1, .int x1), (2, .int x2)]) (st' := []) rfl ?_
    exact st_retV rfl rfl (hQ _ h)
  · have h := Eq.mp (if_neg hc_21) h
    by_cases hc_23 : x2 = 101
    · have h := Eq.mp (if_pos hc_23) h
      refine st_tab (t := 164) rfl (by rw [hc_23]; rfl) ?_
      refine st_go 3 (pc' := 167) (lo' := [(0, .ref 20), (1, .int x1), (2, .int x2)]) (st' := [.int 1, .int x1, .ref 20]) rfl ?_
      refine st_callv (k' := 43) (as := [.ref 20, .int x1, .int 1]) (rest := []) (lo' := [(0, .ref 20), (1, .int x1), (2, .int 1)]) (wf := fun d => wC L d e) rfl rfl rfl ?_
      refine tForger_data (fun d_24 h => ⟨d_24, rfl, rfl, ?_⟩) x1 1 d h
      refine st_go 1 (pc' := 209) (lo' := [(0, .ref 20), (1, .int x1), (2, .int x2)]) (st' := []) rfl ?_
      exact st_retV rfl rfl (hQ _ h)
    · have h := Eq.mp (if_neg hc_23) h
      by_cases hc_25 : x2 = 102
      · have h := Eq.mp (if_pos hc_25) h
        refine st_tab (t := 173) rfl (by rw [hc_25]; rfl) ?_
        refine st_go 3 (pc' := 176) (lo' := [(0, .ref 20), (1, .int x1), (2, .int x2)]) (st' := [.int 0, .int x1, .ref 20]) rfl ?_
        refine st_callv (k' := 43) (as := [.ref 20, .int x1, .int 0]) (rest := []) (lo' := [(0, .ref 20), (1, .int x1), (2, .int 0)]) (wf := fun d => wC L d e) rfl rfl rfl ?_
        refine tForger_data (fun d_26 h => ⟨d_26, rfl, rfl, ?_⟩) x1 0 d h
        refine st_go 1 (pc' := 209) (lo' := [(0, .ref 20), (1, .int x1), (2, .int x2)]) (st' := []) rfl ?_
        exact st_retV rfl rfl (hQ _ h)
      · have h := Eq.mp (if_neg hc_25) h
        by_cases hc_27 : x2 = 103
        · have h := Eq.mp (if_pos hc_27) h
          refine st_tab (t := 182) rfl (by rw [hc_27]; rfl) ?_
          refine st_go 2 (pc' := 184) (lo' := [(0, .ref 20), (1, .int x1), (2, .int x2)]) (st' := [.int x1, .ref 20]) rfl ?_
          refine st_callv (k' := 44) (as := [.ref 20, .int x1]) (rest := []) (lo' := [(0, .ref 20), (1, .int x1)]) (wf := fun d => wC L d e) rfl rfl rfl ?_
          refine tForger_space (fun d_28 h => ⟨d_28, rfl, rfl, ?_⟩) x1 d h
          refine st_go 1 (pc' := 209) (lo' := [(0, .ref 20), (1, .int x1), (2, .int x2)]) (st' := []) rfl ?_
          exact st_retV rfl rfl (hQ _ h)
        · have h := Eq.mp (if_neg hc_27) h
          by_cases hc_29 : x2 = 104
          · have h := Eq.mp (if_pos hc_29) h
            refine st_tab (t := 190) rfl (by rw [hc_29]; rfl) ?_
            refine st_go 3 (pc' := 193) (lo' := [(0, .ref 20), (1, .int x1), (2, .int x2)]) (st' := [.int x2, .int x1, .ref 20]) rfl ?_
            refine st_callv (k' := 45) (as := [.ref 20, .int x1, .int x2]) (rest := []) (lo' := [(0, .ref 20), (1, .int x1), (2, .int x2)]) (wf := fun d => wC L d e) rfl rfl rfl ?_
            refine tForger_condition (fun d_30 h => ⟨d_30, rfl, rfl, ?_⟩) x1 x2 d h
            refine st_go 1 (pc' := 209) (lo' := [(0, .ref 20), (1, .int x1), (2, .int x2)]) (st' := []) rfl ?_
            exact st_retV rfl rfl (hQ _ h)
          · have h := Eq.mp (if_neg hc_29) h
            by_cases hc_31 : x2 = 105
            · have h := Eq.mp (if_pos hc_31) h
              refine st_tab (t := 190) rfl (by rw [hc_31]; rfl) ?_
              refine st_go 3 (pc' := 193) (lo' := [(0, .ref 20), (1, .int x1), (2, .int x2)]) (st' := [.int x2, .int x1, .ref 20]) rfl ?_
              refine st_callv (k' := 45) (as := [.ref 20, .int x1, .int x2]) (rest := []) (lo' := [(0, .ref 20), (1, .int x1), (2, .int x2)]) (wf := fun d => wC L d e) rfl rfl rfl ?_
              refine tForger_condition (fun d_32 h => ⟨d_32, rfl, rfl, ?_⟩) x1 x2 d h
              refine st_go 1 (pc' := 209) (lo' := [(0, .ref 20), (1, .int x1), (2, .int x2)]) (st' := []) rfl ?_
              exact st_retV rfl rfl (hQ _ h)
            · have h := Eq.mp (if_neg hc_31) h
              by_cases hc_33 : x2 = 106
              · have h := Eq.mp (if_pos hc_33) h
                refine st_tab (t := 190) rfl (by rw [hc_33]; rfl) ?_
                refine st_go 3 (pc' := 193) (lo' := [(0, .ref 20), (1, .int x1), (2, .int x2)]) (st' := [.int x2, .int x1, .ref 20]) rfl ?_
                refine st_callv (k' := 45) (as := [.ref 20, .int x1, .int x2]) (rest := []) (lo' := [(0, .ref 20), (1, .int x1), (2, .int x2)]) (wf := fun d => wC L d e) rfl rfl rfl ?_
                refine tForger_condition (fun d_34 h => ⟨d_34, rfl, rfl, ?_⟩) x1 x2 d h
                refine st_go 1 (pc' := 209) (lo' := [(0, .ref 20), (1, .int x1), (2, .int x2)]) (st' := []) rfl ?_
                exact st_retV rfl rfl (hQ _ h)
              · have h := Eq.mp (if_neg hc_33) h
                refine st_tab (t := 199) rfl (tab_def rfl (by decide) rfl (by
                  intro j hj hx
                  have hj : j < 8 := hj
                  rcases (j = 0 ∨ j = 1 ∨ j = 2 ∨ j = 3 ∨ j = 4 ∨ j = 5 ∨ j = 6 ∨ j = 7 : Prop) |> fun _ => (show j = 0 ∨ j = 1 ∨ j = 2 ∨ j = 3 ∨ j = 4 ∨ j = 5 ∨ j = 6 ∨ j = 7 by omega) with rfl | rfl | rfl | rfl | rfl | rfl | rfl | rfl <;> first | rfl | exact absurd hx hc_21 | exact absurd hx hc_23 | exact absurd hx hc_25 | exact absurd hx hc_27 | exact absurd hx hc_29 | exact absurd hx hc_31 | exact absurd hx hc_33)) ?_
                refine st_go 4 (pc' := 206) (lo' := [(0, .ref 20), (1, .int x1), (2, .int x2)]) (st' := [.int 6, .int x1, .ref 24]) rfl ?_
                refine st_callv (k' := 218) (as := [.ref 24, .int x1, .int 6]) (rest := []) (lo' := [(0, .ref 24), (1, .int x1), (2, .int 6)]) (wf := fun d => wC L d e) rfl rfl rfl ?_
                refine tTokens_blame (fun d_35 h => ⟨d_35, rfl, rfl, ?_⟩) x1 6 d h
                exact st_retV rfl rfl (hQ _ h)
set_option maxRecDepth 100000 in
def Forger_readStatement_91 (x1 : Int32) (x2 : Int32) (d : vmD) (Q : vmD → Prop) : Prop :=
  if x2 < 32 then
  (Forger_readStatement_110 x1 x2 d Q)
  else
  (if x2 < 99 then
  (Forger_instruction x1 x2 d fun d_37 =>
  Q d_37)
  else
  (Forger_readStatement_110 x1 x2 d Q))
set_option maxRecDepth 100000 in
set_option maxHeartbeats 4000000 in
theorem tForger_readStatement_91 {L : Nat} {e : vmD} {Qo : Option Value → vmW → Prop} {Q : vmD → Prop} (hQ : ∀ d, Q d → Qo none (wC L d e)) (x1 : Int32) (x2 : Int32) (d : vmD) (h : Forger_readStatement_91 x1 x2 d Q) : vmWp 36 91 [(0, .ref 20), (1, .int x1), (2, .int x2)] [] (wC L d e) Qo := by
  unfold Forger_readStatement_91 at h
  refine st_go 2 (pc' := 94) (lo' := [(0, .ref 20), (1, .int x1), (2, .int x2)]) (st' := [.int 32, .int x2]) rfl ?_
  by_cases hc_20 : x2 < 32
  · have h := Eq.mp (if_pos hc_20) h
    refine st_icmp (t := 110) (b := true) rfl (decide_eq_true hc_20) rfl ?_
    refine vmWp.sub (lo' := [(0, .ref 20), (1, .int x1), (2, .int x2)]) ⟨rfl, rfl, rfl, trivial⟩ ?_
    exact tForger_readStatement_110 hQ x1 x2 d h
  · have h := Eq.mp (if_neg hc_20) h
    refine st_icmp (t := 97) (b := false) rfl (decide_eq_false hc_20) rfl ?_
    refine st_go 2 (pc' := 100) (lo' := [(0, .ref 20), (1, .int x1), (2, .int x2)]) (st' := [.int 99, .int x2]) rfl ?_
    by_cases hc_36 : x2 < 99
    · have h := Eq.mp (if_pos hc_36) h
      refine st_icmp (t := 103) (b := false) rfl (decide_eq_false (Int32.not_le.mpr hc_36)) rfl ?_
      refine st_go 3 (pc' := 106) (lo' := [(0, .ref 20), (1, .int x1), (2, .int x2)]) (st' := [.int x2, .int x1, .ref 20]) rfl ?_
      refine st_callv (k' := 46) (as := [.ref 20, .int x1, .int x2]) (rest := []) (lo' := [(0, .ref 20), (1, .int x1), (2, .int x2)]) (wf := fun d => wC L d e) rfl rfl rfl ?_
      refine tForger_instruction (fun d_37 h => ⟨d_37, rfl, rfl, ?_⟩) x1 x2 d h
      exact st_retV rfl rfl (hQ _ h)
    · have h := Eq.mp (if_neg hc_36) h
      refine st_icmp (t := 110) (b := true) rfl (decide_eq_true (Int32.not_lt.mp hc_36)) rfl ?_
      refine vmWp.sub (lo' := [(0, .ref 20), (1, .int x1), (2, .int x2)]) ⟨rfl, rfl, rfl, trivial⟩ ?_
      exact tForger_readStatement_110 hQ x1 x2 d h
set_option maxRecDepth 100000 in
def Forger_readStatement (x1 : Int32) (d : vmD) (Q : vmD → Prop) : Prop :=
  Tokens_kind x1 d fun r_2 d_1 =>
  if r_2 = 0 then
  (Q d_1)
  else
  (Tokens_kind x1 d_1 fun r_5 d_4 =>
  if r_5 = 2 then
  (Tokens_value x1 d_4 fun r_8 d_7 =>
  Names_idOf r_8 d_7 fun r_10 d_9 =>
  Tokens_kind (x1 + 1) d_9 fun r_12 d_11 =>
  if r_12 = 2 then
  (Tokens_value (x1 + 1) d_11 fun r_15 d_14 =>
  Names_idOf r_15 d_14 fun r_17 d_16 =>
  if r_17 = 100 then
  (Forger_equate x1 d_16 fun d_19 =>
  Q d_19)
  else
  (Forger_readStatement_91 x1 r_10 d_16 Q))
  else
  (Forger_readStatement_91 x1 r_10 d_11 Q))
  else
  (Tokens_refuse x1 d_4 fun d_38 =>
  Q d_38))
set_option maxRecDepth 100000 in
set_option maxHeartbeats 4000000 in
theorem tForger_readStatement {L : Nat} {e : vmD} {Qo : Option Value → vmW → Prop} {Q : vmD → Prop} (hQ : ∀ d, Q d → Qo none (wC L d e)) (x1 : Int32) (d : vmD) (h : Forger_readStatement x1 d Q) : vmWp 36 0 [(0, .ref 20), (1, .int x1)] [] (wC L d e) Qo := by
  unfold Forger_readStatement at h
  refine st_go 3 (pc' := 5) (lo' := [(0, .ref 20), (1, .int x1)]) (st' := [.int x1, .ref 24]) rfl ?_
  refine st_calli (k' := 213) (as := [.ref 24, .int x1]) (rest := []) (lo' := [(0, .ref 24), (1, .int x1)]) (wf := fun d => wC L d e) rfl rfl rfl ?_
  refine tTokens_kind (fun r_2 d_1 h => ⟨r_2, d_1, rfl, rfl, ?_⟩) x1 d h
  by_cases hc_3 : r_2 = 0
  · have h := Eq.mp (if_pos hc_3) h
    refine st_if (t := 11) (b := false) rfl (decide_eq_false (fun z => z hc_3)) rfl ?_
    exact st_retV rfl rfl (hQ _ h)
  · have h := Eq.mp (if_neg hc_3) h
    refine st_if (t := 12) (b := true) rfl (decide_eq_true hc_3) rfl ?_
    refine st_go 3 (pc' := 17) (lo' := [(0, .ref 20), (1, .int x1)]) (st' := [.int x1, .ref 24]) rfl ?_
    refine st_calli (k' := 213) (as := [.ref 24, .int x1]) (rest := []) (lo' := [(0, .ref 24), (1, .int x1)]) (wf := fun d => wC L d e) rfl rfl rfl ?_
    refine tTokens_kind (fun r_5 d_4 h => ⟨r_5, d_4, rfl, rfl, ?_⟩) x1 d_1 h
    refine st_go 1 (pc' := 21) (lo' := [(0, .ref 20), (1, .int x1)]) (st' := [.int 2, .int r_5]) rfl ?_
    by_cases hc_6 : r_5 = 2
    · have h := Eq.mp (if_pos hc_6) h
      refine st_icmp (t := 33) (b := true) rfl (decide_eq_true hc_6) rfl ?_
      refine st_go 5 (pc' := 42) (lo' := [(0, .ref 20), (1, .int x1)]) (st' := [.int x1, .ref 24, .ref 3]) rfl ?_
      refine st_calll (k' := 215) (as := [.ref 24, .int x1]) (rest := [.ref 3]) (lo' := [(0, .ref 24), (1, .int x1)]) (wf := fun d => wC L d e) rfl rfl rfl ?_
      refine tTokens_value (fun r_8 d_7 h => ⟨r_8, d_7, rfl, rfl, ?_⟩) x1 d_4 h
      refine st_calli (k' := 139) (as := [.ref 3, .long r_8]) (rest := []) (lo' := [(0, .ref 3), (1, .long r_8)]) (wf := fun d => wC L d e) rfl rfl rfl ?_
      refine tNames_idOf (fun r_10 d_9 h => ⟨r_10, d_9, rfl, rfl, ?_⟩) r_8 d_7 h
      refine st_go 6 (pc' := 56) (lo' := [(2, .int r_10), (0, .ref 20), (1, .int x1)]) (st' := [.int (x1 + 1), .ref 24]) rfl ?_
      refine st_calli (k' := 213) (as := [.ref 24, .int (x1 + 1)]) (rest := []) (lo' := [(0, .ref 24), (1, .int (x1 + 1))]) (wf := fun d => wC L d e) rfl rfl rfl ?_
      refine tTokens_kind (fun r_12 d_11 h => ⟨r_12, d_11, rfl, rfl, ?_⟩) (x1 + 1) d_9 h
      refine st_go 1 (pc' := 60) (lo' := [(2, .int r_10), (0, .ref 20), (1, .int x1)]) (st' := [.int 2, .int r_12]) rfl ?_
      by_cases hc_13 : r_12 = 2
      · have h := Eq.mp (if_pos hc_13) h
        refine st_icmp (t := 63) (b := false) rfl (decide_eq_false (fun z => z hc_13)) rfl ?_
        refine st_go 7 (pc' := 74) (lo' := [(2, .int r_10), (0, .ref 20), (1, .int x1)]) (st' := [.int (x1 + 1), .ref 24, .ref 3]) rfl ?_
        refine st_calll (k' := 215) (as := [.ref 24, .int (x1 + 1)]) (rest := [.ref 3]) (lo' := [(0, .ref 24), (1, .int (x1 + 1))]) (wf := fun d => wC L d e) rfl rfl rfl ?_
        refine tTokens_value (fun r_15 d_14 h => ⟨r_15, d_14, rfl, rfl, ?_⟩) (x1 + 1) d_11 h
        refine st_calli (k' := 139) (as := [.ref 3, .long r_15]) (rest := []) (lo' := [(0, .ref 3), (1, .long r_15)]) (wf := fun d => wC L d e) rfl rfl rfl ?_
        refine tNames_idOf (fun r_17 d_16 h => ⟨r_17, d_16, rfl, rfl, ?_⟩) r_15 d_14 h
        refine st_go 1 (pc' := 82) (lo' := [(2, .int r_10), (0, .ref 20), (1, .int x1)]) (st' := [.int 100, .int r_17]) rfl ?_
        by_cases hc_18 : r_17 = 100
        · have h := Eq.mp (if_pos hc_18) h
          refine st_icmp (t := 85) (b := false) rfl (decide_eq_false (fun z => z hc_18)) rfl ?_
          refine st_go 2 (pc' := 87) (lo' := [(2, .int r_10), (0, .ref 20), (1, .int x1)]) (st' := [.int x1, .ref 20]) rfl ?_
          refine st_callv (k' := 41) (as := [.ref 20, .int x1]) (rest := []) (lo' := [(0, .ref 20), (1, .int x1)]) (wf := fun d => wC L d e) rfl rfl rfl ?_
          refine tForger_equate (fun d_19 h => ⟨d_19, rfl, rfl, ?_⟩) x1 d_16 h
          exact st_retV rfl rfl (hQ _ h)
        · have h := Eq.mp (if_neg hc_18) h
          refine st_icmp (t := 91) (b := true) rfl (decide_eq_true hc_18) rfl ?_
          refine vmWp.sub (lo' := [(0, .ref 20), (1, .int x1), (2, .int r_10)]) ⟨rfl, rfl, rfl, trivial⟩ ?_
          exact tForger_readStatement_91 hQ x1 r_10 d_16 h
      · have h := Eq.mp (if_neg hc_13) h
        refine st_icmp (t := 91) (b := true) rfl (decide_eq_true hc_13) rfl ?_
        refine vmWp.sub (lo' := [(0, .ref 20), (1, .int x1), (2, .int r_10)]) ⟨rfl, rfl, rfl, trivial⟩ ?_
        exact tForger_readStatement_91 hQ x1 r_10 d_11 h
    · have h := Eq.mp (if_neg hc_6) h
      refine st_icmp (t := 24) (b := false) rfl (decide_eq_false hc_6) rfl ?_
      refine st_go 3 (pc' := 29) (lo' := [(0, .ref 20), (1, .int x1)]) (st' := [.int x1, .ref 24]) rfl ?_
      refine st_callv (k' := 220) (as := [.ref 24, .int x1]) (rest := []) (lo' := [(0, .ref 24), (1, .int x1)]) (wf := fun d => wC L d e) rfl rfl rfl ?_
      refine tTokens_refuse (fun d_38 h => ⟨d_38, rfl, rfl, ?_⟩) x1 d_4 h
      exact st_retV rfl rfl (hQ _ h)
set_option maxRecDepth 100000 in
def Conditions_anyOpen (d : vmD) (Q : Int32 → vmD → Prop) : Prop :=
  if (0 : Int32) < (gF d 22 1) then
  (Q 1 d)
  else
  (Q 0 d)
set_option maxRecDepth 100000 in
set_option maxHeartbeats 4000000 in
theorem tConditions_anyOpen {L : Nat} {e : vmD} {Qo : Option Value → vmW → Prop} {Q : Int32 → vmD → Prop} (hQ : ∀ r d, Q r d → Qo (some (.int r)) (wC L d e)) (d : vmD) (h : Conditions_anyOpen d Q) : vmWp 2 0 [(0, .ref 22)] [] (wC L d e) Qo := by
  unfold Conditions_anyOpen at h
  refine st_go 2 (pc' := 4) (lo' := [(0, .ref 22)]) (st' := [.int (gF d 22 1)]) rfl ?_
  by_cases hc_1 : (0 : Int32) < (gF d 22 1)
  · have h := Eq.mp (if_pos hc_1) h
    refine st_if (t := 7) (b := false) rfl (decide_eq_false (Int32.not_le.mpr hc_1)) rfl ?_
    refine st_go 2 (pc' := 12) (lo' := [(0, .ref 22)]) (st' := [.int 1]) rfl ?_
    exact st_retZ rfl rfl (Or.inr rfl) (hQ _ _ h)
  · have h := Eq.mp (if_neg hc_1) h
    refine st_if (t := 11) (b := true) rfl (decide_eq_true (Int32.not_lt.mp hc_1)) rfl ?_
    refine st_go 1 (pc' := 12) (lo' := [(0, .ref 22)]) (st' := [.int 0]) rfl ?_
    exact st_retZ rfl rfl (Or.inl rfl) (hQ _ _ h)
set_option maxRecDepth 100000 in
def Forger_pass_152 (b34 : Int32 → vmD → Prop) (x2 : Int32) (x3 : Int32) (d : vmD) (Q : vmD → Prop) : Prop :=
  bnd ((if x2 < x3 then x3 else x2) + 1) fun x2_19 =>
  b34 x2_19 d
set_option maxRecDepth 100000 in
set_option maxHeartbeats 4000000 in
theorem tForger_pass_152 {L : Nat} {e : vmD} {Qo : Option Value → vmW → Prop} {b34 : Int32 → vmD → Prop} {Q : vmD → Prop} (hb34 : ∀ x2 d, b34 x2 d → vmWp 33 34 [(0, .ref 20), (2, .int x2)] [] (wC L d e) Qo) (hQ : ∀ d, Q d → Qo none (wC L d e)) (x2 : Int32) (x3 : Int32) (d : vmD) (h : Forger_pass_152 b34 x2 x3 d Q) : vmWp 33 152 [(0, .ref 20), (2, .int x2), (3, .int x3)] [] (wC L d e) Qo := by
  unfold Forger_pass_152 at h
  refine st_go 6 (pc' := 160) (lo' := [(2, .int ((if x2 < x3 then x3 else x2) + 1)), (0, .ref 20), (3, .int x3)]) (st' := []) rfl ?_
  refine st_locI (fun x2_19 hy_x2_19 => ?_)
  have h := h x2_19 hy_x2_19
  refine st_go 1 (pc' := 34) (lo' := [(2, .int x2_19), (0, .ref 20), (3, .int x3)]) (st' := []) rfl ?_
  refine vmWp.sub (lo' := [(0, .ref 20), (2, .int x2_19)]) ⟨rfl, rfl, trivial⟩ ?_
  exact hb34 x2_19 d h
set_option maxRecDepth 100000 in
def Forger_pass_144 (b34 : Int32 → vmD → Prop) (x2 : Int32) (x3 : Int32) (d : vmD) (Q : vmD → Prop) : Prop :=
  Forger_pass_152 b34 x2 x3 d Q
set_option maxRecDepth 100000 in
set_option maxHeartbeats 4000000 in
theorem tForger_pass_144 {L : Nat} {e : vmD} {Qo : Option Value → vmW → Prop} {b34 : Int32 → vmD → Prop} {Q : vmD → Prop} (hb34 : ∀ x2 d, b34 x2 d → vmWp 33 34 [(0, .ref 20), (2, .int x2)] [] (wC L d e) Qo) (hQ : ∀ d, Q d → Qo none (wC L d e)) (x2 : Int32) (x3 : Int32) (d : vmD) (h : Forger_pass_144 b34 x2 x3 d Q) : vmWp 33 144 [(0, .ref 20), (2, .int x2), (3, .int x3)] [] (wC L d e) Qo := by
  unfold Forger_pass_144 at h
  refine st_go 1 (pc' := 152) (lo' := [(0, .ref 20), (2, .int x2), (3, .int x3)]) (st' := []) rfl ?_
  refine vmWp.sub (lo' := [(0, .ref 20), (2, .int x2), (3, .int x3)]) ⟨rfl, rfl, rfl, trivial⟩ ?_
  exact tForger_pass_152 hb34 hQ x2 x3 d h
set_option maxRecDepth 100000 in
def Forger_pass_163 (x2 : Int32) (d : vmD) (Q : vmD → Prop) : Prop :=
  Text_length_src d fun r_30 d_29 =>
  if x2 < r_30 then
  (Q d_29)
  else
  (Conditions_anyOpen d_29 fun r_33 d_32 =>
  if r_33 = 0 then
  (Q d_32)
  else
  (Text_length_src d_32 fun r_36 d_35 =>
  Tokens_blamePlace r_36 7 d_35 fun d_37 =>
  Q d_37))
set_option maxRecDepth 100000 in
set_option maxHeartbeats 4000000 in
theorem tForger_pass_163 {L : Nat} {e : vmD} {Qo : Option Value → vmW → Prop} {Q : vmD → Prop} (hQ : ∀ d, Q d → Qo none (wC L d e)) (x2 : Int32) (d : vmD) (h : Forger_pass_163 x2 d Q) : vmWp 33 163 [(0, .ref 20), (2, .int x2)] [] (wC L d e) Qo := by
  unfold Forger_pass_163 at h
  refine st_go 3 (pc' := 168) (lo' := [(0, .ref 20), (2, .int x2)]) (st' := [.ref 9, .int x2]) rfl ?_
  refine st_calli (k' := 190) (as := [.ref 9]) (rest := [.int x2]) (lo' := [(0, .ref 9)]) (wf := fun d => wC L d e) rfl rfl rfl ?_
  refine tText_length_src (fun r_30 d_29 h => ⟨r_30, d_29, rfl, rfl, ?_⟩) d h
  by_cases hc_31 : x2 < r_30
  · have h := Eq.mp (if_pos hc_31) h
    refine st_icmp (t := 200) (b := true) rfl (decide_eq_true hc_31) rfl ?_
    exact st_retV rfl rfl (hQ _ h)
  · have h := Eq.mp (if_neg hc_31) h
    refine st_icmp (t := 174) (b := false) rfl (decide_eq_false hc_31) rfl ?_
    refine st_go 2 (pc' := 178) (lo' := [(0, .ref 20), (2, .int x2)]) (st' := [.ref 22]) rfl ?_
    refine st_calli (k' := 2) (as := [.ref 22]) (rest := []) (lo' := [(0, .ref 22)]) (wf := fun d => wC L d e) rfl rfl rfl ?_
    refine tConditions_anyOpen (fun r_33 d_32 h => ⟨r_33, d_32, rfl, rfl, ?_⟩) d_29 h
    by_cases hc_34 : r_33 = 0
    · have h := Eq.mp (if_pos hc_34) h
      refine st_if (t := 200) (b := true) rfl (decide_eq_true hc_34) rfl ?_
      exact st_retV rfl rfl (hQ _ h)
    · have h := Eq.mp (if_neg hc_34) h
      refine st_if (t := 184) (b := false) rfl (decide_eq_false hc_34) rfl ?_
      refine st_go 4 (pc' := 192) (lo' := [(0, .ref 20), (2, .int x2)]) (st' := [.ref 9, .ref 24]) rfl ?_
      refine st_calli (k' := 190) (as := [.ref 9]) (rest := [.ref 24]) (lo' := [(0, .ref 9)]) (wf := fun d => wC L d e) rfl rfl rfl ?_
      refine tText_length_src (fun r_36 d_35 h => ⟨r_36, d_35, rfl, rfl, ?_⟩) d_32 h
      refine st_go 1 (pc' := 197) (lo' := [(0, .ref 20), (2, .int x2)]) (st' := [.int 7, .int r_36, .ref 24]) rfl ?_
      refine st_callv (k' := 219) (as := [.ref 24, .int r_36, .int 7]) (rest := []) (lo' := [(0, .ref 24), (1, .int r_36), (2, .int 7)]) (wf := fun d => wC L d e) rfl rfl rfl ?_
      refine tTokens_blamePlace (fun d_37 h => ⟨d_37, rfl, rfl, ?_⟩) r_36 7 d_35 h
      exact st_retV rfl rfl (hQ _ h)
set_option maxRecDepth 100000 in
def Forger_pass_34 (Q : vmD → Prop) : Nat → Int32 → vmD → Prop
  | 0, _, _ => False
  | n + 1, x2, d => Text_length_src d fun r_8 d_7 =>
  if x2 < r_8 then
  (Faults_any d_7 fun r_11 d_10 =>
  if r_11 = 0 then
  (Text_lineEnd_src x2 d_10 fun r_14 d_13 =>
  bnd (sF d_13 20 10 ((gF d_13 20 10) + 1)) fun d_15 =>
  Tokens_beginLine (gF d_15 20 10) d_15 fun d_16 =>
  if (300 : Int32) < (gF d_16 20 10) then
  (Tokens_blamePlace x2 9 d_16 fun d_18 =>
  Forger_pass_152 (Forger_pass_34 Q n) x2 r_14 d_18 Q)
  else
  (Conditions_done d_16 fun r_21 d_20 =>
  if r_21 = 0 then
  (Forger_passOver x2 d_20 fun d_23 =>
  Forger_pass_152 (Forger_pass_34 Q n) x2 r_14 d_23 Q)
  else
  (Tokens_cut x2 r_14 d_20 fun d_24 =>
  Forger_tellLabel d_24 fun r_26 d_25 =>
  if r_26 < 0 then
  (Forger_pass_144 (Forger_pass_34 Q n) x2 r_14 d_25 Q)
  else
  (Forger_readStatement r_26 d_25 fun d_28 =>
  Forger_pass_144 (Forger_pass_34 Q n) x2 r_14 d_28 Q))))
  else
  (Forger_pass_163 x2 d_10 Q))
  else
  (Forger_pass_163 x2 d_7 Q)
set_option maxRecDepth 100000 in
set_option maxHeartbeats 4000000 in
theorem tForger_pass_34 {L : Nat} {e : vmD} {Qo : Option Value → vmW → Prop} {Q : vmD → Prop} (hQ : ∀ d, Q d → Qo none (wC L d e)) : ∀ (n : Nat) (x2 : Int32) (d : vmD), Forger_pass_34 Q n x2 d → vmWp 33 34 [(0, .ref 20), (2, .int x2)] [] (wC L d e) Qo := by
  intro n
  induction n with
  | zero => intro x2 d h; exact h.elim
  | succ n ih =>
    intro x2 d h
    unfold Forger_pass_34 at h
    refine st_go 3 (pc' := 39) (lo' := [(0, .ref 20), (2, .int x2)]) (st' := [.ref 9, .int x2]) rfl ?_
    refine st_calli (k' := 190) (as := [.ref 9]) (rest := [.int x2]) (lo' := [(0, .ref 9)]) (wf := fun d => wC L d e) rfl rfl rfl ?_
    refine tText_length_src (fun r_8 d_7 h => ⟨r_8, d_7, rfl, rfl, ?_⟩) d h
    by_cases hc_9 : x2 < r_8
    · have h := Eq.mp (if_pos hc_9) h
      refine st_icmp (t := 45) (b := false) rfl (decide_eq_false (Int32.not_le.mpr hc_9)) rfl ?_
      refine st_go 2 (pc' := 49) (lo' := [(0, .ref 20), (2, .int x2)]) (st' := [.ref 21]) rfl ?_
      refine st_calli (k' := 24) (as := [.ref 21]) (rest := []) (lo' := [(0, .ref 21)]) (wf := fun d => wC L d e) rfl rfl rfl ?_
      refine tFaults_any (fun r_11 d_10 h => ⟨r_11, d_10, rfl, rfl, ?_⟩) d_7 h
      by_cases hc_12 : r_11 = 0
      · have h := Eq.mp (if_pos hc_12) h
        refine st_if (t := 55) (b := false) rfl (decide_eq_false (fun z => z hc_12)) rfl ?_
        refine st_go 3 (pc' := 60) (lo' := [(0, .ref 20), (2, .int x2)]) (st' := [.int x2, .ref 9]) rfl ?_
        refine st_calli (k' := 195) (as := [.ref 9, .int x2]) (rest := []) (lo' := [(0, .ref 9), (1, .int x2)]) (wf := fun d => wC L d e) rfl rfl rfl ?_
        refine tText_lineEnd_src (fun r_14 d_13 h => ⟨r_14, d_13, rfl, rfl, ?_⟩) x2 d_10 h
        refine st_go 6 (pc' := 71) (lo' := [(3, .int r_14), (0, .ref 20), (2, .int x2)]) (st' := [.int ((gF d_13 20 10) + 1), .ref 20]) rfl ?_
        refine st_putIC (o := 20) (f := 10) rfl rfl rfl rfl rfl (fun d_15 hy_d_15 => ?_)
        have h := h d_15 hy_d_15
        refine st_go 4 (pc' := 82) (lo' := [(3, .int r_14), (0, .ref 20), (2, .int x2)]) (st' := [.int (gF d_15 20 10), .ref 24]) rfl ?_
        refine st_callv (k' := 197) (as := [.ref 24, .int (gF d_15 20 10)]) (rest := []) (lo' := [(0, .ref 24), (1, .int (gF d_15 20 10))]) (wf := fun d => wC L d e) rfl rfl rfl ?_
        refine tTokens_beginLine (fun d_16 h => ⟨d_16, rfl, rfl, ?_⟩) (gF d_15 20 10) d_15 h
        refine st_go 3 (pc' := 92) (lo' := [(3, .int r_14), (0, .ref 20), (2, .int x2)]) (st' := [.int 300, .int (gF d_16 20 10)]) rfl ?_
        by_cases hc_17 : (300 : Int32) < (gF d_16 20 10)
        · have h := Eq.mp (if_pos hc_17) h
          refine st_icmp (t := 95) (b := false) rfl (decide_eq_false (Int32.not_le.mpr hc_17)) rfl ?_
          refine st_go 4 (pc' := 102) (lo' := [(3, .int r_14), (0, .ref 20), (2, .int x2)]) (st' := [.int 9, .int x2, .ref 24]) rfl ?_
          refine st_callv (k' := 219) (as := [.ref 24, .int x2, .int 9]) (rest := []) (lo' := [(0, .ref 24), (1, .int x2), (2, .int 9)]) (wf := fun d => wC L d e) rfl rfl rfl ?_
          refine tTokens_blamePlace (fun d_18 h => ⟨d_18, rfl, rfl, ?_⟩) x2 9 d_16 h
          refine st_go 1 (pc' := 152) (lo' := [(3, .int r_14), (0, .ref 20), (2, .int x2)]) (st' := []) rfl ?_
          refine vmWp.sub (lo' := [(0, .ref 20), (2, .int x2), (3, .int r_14)]) ⟨rfl, rfl, rfl, trivial⟩ ?_
          exact tForger_pass_152 ih hQ x2 r_14 d_18 h
        · have h := Eq.mp (if_neg hc_17) h
          refine st_icmp (t := 108) (b := true) rfl (decide_eq_true (Int32.not_lt.mp hc_17)) rfl ?_
          refine st_go 2 (pc' := 112) (lo' := [(3, .int r_14), (0, .ref 20), (2, .int x2)]) (st' := [.ref 22]) rfl ?_
          refine st_calli (k' := 4) (as := [.ref 22]) (rest := []) (lo' := [(0, .ref 22)]) (wf := fun d => wC L d e) rfl rfl rfl ?_
          refine tConditions_done (fun r_21 d_20 h => ⟨r_21, d_20, rfl, rfl, ?_⟩) d_16 h
          by_cases hc_22 : r_21 = 0
          · have h := Eq.mp (if_pos hc_22) h
            refine st_if (t := 147) (b := true) rfl (decide_eq_true hc_22) rfl ?_
            refine st_go 2 (pc' := 149) (lo' := [(3, .int r_14), (0, .ref 20), (2, .int x2)]) (st' := [.int x2, .ref 20]) rfl ?_
            refine st_callv (k' := 34) (as := [.ref 20, .int x2]) (rest := []) (lo' := [(0, .ref 20), (1, .int x2)]) (wf := fun d => wC L d e) rfl rfl rfl ?_
            refine tForger_passOver (fun d_23 h => ⟨d_23, rfl, rfl, ?_⟩) x2 d_20 h
            refine vmWp.sub (lo' := [(0, .ref 20), (2, .int x2), (3, .int r_14)]) ⟨rfl, rfl, rfl, trivial⟩ ?_
            exact tForger_pass_152 ih hQ x2 r_14 d_23 h
          · have h := Eq.mp (if_neg hc_22) h
            refine st_if (t := 118) (b := false) rfl (decide_eq_false hc_22) rfl ?_
            refine st_go 4 (pc' := 124) (lo' := [(3, .int r_14), (0, .ref 20), (2, .int x2)]) (st' := [.int r_14, .int x2, .ref 24]) rfl ?_
            refine st_callv (k' := 198) (as := [.ref 24, .int x2, .int r_14]) (rest := []) (lo' := [(0, .ref 24), (1, .int x2), (2, .int r_14)]) (wf := fun d => wC L d e) rfl rfl rfl ?_
            refine tTokens_cut (fun d_24 h => ⟨d_24, rfl, rfl, ?_⟩) x2 r_14 d_20 h
            refine st_go 1 (pc' := 128) (lo' := [(3, .int r_14), (0, .ref 20), (2, .int x2)]) (st' := [.ref 20]) rfl ?_
            refine st_calli (k' := 35) (as := [.ref 20]) (rest := []) (lo' := [(0, .ref 20)]) (wf := fun d => wC L d e) rfl rfl rfl ?_
            refine tForger_tellLabel (fun r_26 d_25 h => ⟨r_26, d_25, rfl, rfl, ?_⟩) d_24 h
            refine st_go 2 (pc' := 135) (lo' := [(4, .int r_26), (3, .int r_14), (0, .ref 20), (2, .int x2)]) (st' := [.int r_26]) rfl ?_
            by_cases hc_27 : r_26 < 0
            · have h := Eq.mp (if_pos hc_27) h
              refine st_if (t := 144) (b := true) rfl (decide_eq_true hc_27) rfl ?_
              refine vmWp.sub (lo' := [(0, .ref 20), (2, .int x2), (3, .int r_14)]) ⟨rfl, rfl, rfl, trivial⟩ ?_
              exact tForger_pass_144 ih hQ x2 r_14 d_25 h
            · have h := Eq.mp (if_neg hc_27) h
              refine st_if (t := 138) (b := false) rfl (decide_eq_false hc_27) rfl ?_
              refine st_go 2 (pc' := 141) (lo' := [(4, .int r_26), (3, .int r_14), (0, .ref 20), (2, .int x2)]) (st' := [.int r_26, .ref 20]) rfl ?_
              refine st_callv (k' := 36) (as := [.ref 20, .int r_26]) (rest := []) (lo' := [(0, .ref 20), (1, .int r_26)]) (wf := fun d => wC L d e) rfl rfl rfl ?_
              refine tForger_readStatement (fun d_28 h => ⟨d_28, rfl, rfl, ?_⟩) r_26 d_25 h
              refine vmWp.sub (lo' := [(0, .ref 20), (2, .int x2), (3, .int r_14)]) ⟨rfl, rfl, rfl, trivial⟩ ?_
              exact tForger_pass_144 ih hQ x2 r_14 d_28 h
      · have h := Eq.mp (if_neg hc_12) h
        refine st_if (t := 163) (b := true) rfl (decide_eq_true hc_12) rfl ?_
        refine vmWp.sub (lo' := [(0, .ref 20), (2, .int x2)]) ⟨rfl, rfl, trivial⟩ ?_
        exact tForger_pass_163 hQ x2 d_10 h
    · have h := Eq.mp (if_neg hc_9) h
      refine st_icmp (t := 163) (b := true) rfl (decide_eq_true (Int32.not_lt.mp hc_9)) rfl ?_
      refine vmWp.sub (lo' := [(0, .ref 20), (2, .int x2)]) ⟨rfl, rfl, trivial⟩ ?_
      exact tForger_pass_163 hQ x2 d_7 h
set_option maxRecDepth 100000 in
def Forger_pass (x1 : Int32) (d : vmD) (Q : vmD → Prop) : Prop :=
  bnd (sF d 20 9 x1) fun d_1 =>
  bnd (sF d_1 20 10 0) fun d_2 =>
  bnd (sF d_2 20 11 0) fun d_3 =>
  bnd (sF d_3 20 12 0) fun d_4 =>
  bnd (sF d_4 20 13 0) fun d_5 =>
  Conditions_begin d_5 fun d_6 =>
  ∃ m34, Forger_pass_34 Q m34 0 d_6
set_option maxRecDepth 100000 in
set_option maxHeartbeats 4000000 in
theorem tForger_pass {L : Nat} {e : vmD} {Qo : Option Value → vmW → Prop} {Q : vmD → Prop} (hQ : ∀ d, Q d → Qo none (wC L d e)) (x1 : Int32) (d : vmD) (h : Forger_pass x1 d Q) : vmWp 33 0 [(0, .ref 20), (1, .int x1)] [] (wC L d e) Qo := by
  unfold Forger_pass at h
  refine st_go 2 (pc' := 2) (lo' := [(0, .ref 20), (1, .int x1)]) (st' := [.int x1, .ref 20]) rfl ?_
  refine st_putIC (o := 20) (f := 9) rfl rfl rfl rfl rfl (fun d_1 hy_d_1 => ?_)
  have h := h d_1 hy_d_1
  refine st_go 2 (pc' := 7) (lo' := [(0, .ref 20), (1, .int x1)]) (st' := [.int 0, .ref 20]) rfl ?_
  refine st_putIC (o := 20) (f := 10) rfl rfl rfl rfl rfl (fun d_2 hy_d_2 => ?_)
  have h := h d_2 hy_d_2
  refine st_go 2 (pc' := 12) (lo' := [(0, .ref 20), (1, .int x1)]) (st' := [.int 0, .ref 20]) rfl ?_
  refine st_putIC (o := 20) (f := 11) rfl rfl rfl rfl rfl (fun d_3 hy_d_3 => ?_)
  have h := h d_3 hy_d_3
  refine st_go 2 (pc' := 17) (lo' := [(0, .ref 20), (1, .int x1)]) (st' := [.int 0, .ref 20]) rfl ?_
  refine st_putIC (o := 20) (f := 12) rfl rfl rfl rfl rfl (fun d_4 hy_d_4 => ?_)
  have h := h d_4 hy_d_4
  refine st_go 2 (pc' := 22) (lo' := [(0, .ref 20), (1, .int x1)]) (st' := [.int 0, .ref 20]) rfl ?_
  refine st_putIC (o := 20) (f := 13) rfl rfl rfl rfl rfl (fun d_5 hy_d_5 => ?_)
  have h := h d_5 hy_d_5
  refine st_go 2 (pc' := 29) (lo' := [(0, .ref 20), (1, .int x1)]) (st' := [.ref 22]) rfl ?_
  refine st_callv (k' := 1) (as := [.ref 22]) (rest := []) (lo' := [(0, .ref 22)]) (wf := fun d => wC L d e) rfl rfl rfl ?_
  refine tConditions_begin (fun d_6 h => ⟨d_6, rfl, rfl, ?_⟩) d_5 h
  refine st_go 2 (pc' := 34) (lo' := [(2, .int 0), (0, .ref 20), (1, .int x1)]) (st' := []) rfl ?_
  obtain ⟨m34, h⟩ := h
  refine vmWp.sub (lo' := [(0, .ref 20), (2, .int 0)]) ⟨rfl, rfl, trivial⟩ ?_
  exact tForger_pass_34 hQ m34 0 d_6 h
set_option maxRecDepth 100000 in
def OF_forge_38 (d : vmD) (Q : Int32 → vmD → Prop) : Prop :=
  Forger_answer d fun r_4 d_3 =>
  Q r_4 d_3
set_option maxRecDepth 100000 in
set_option maxHeartbeats 4000000 in
theorem tOF_forge_38 {L : Nat} {e : vmD} {Qo : Option Value → vmW → Prop} {Q : Int32 → vmD → Prop} (hQ : ∀ r d, Q r d → Qo (some (.int r)) (wC L d e)) (d : vmD) (h : OF_forge_38 d Q) : vmWp 223 38 [(0, .ref 0)] [] (wC L d e) Qo := by
  unfold OF_forge_38 at h
  refine st_go 2 (pc' := 42) (lo' := [(0, .ref 0)]) (st' := [.ref 20]) rfl ?_
  refine st_calli (k' := 31) (as := [.ref 20]) (rest := []) (lo' := [(0, .ref 20)]) (wf := fun d => wC L d e) rfl rfl rfl ?_
  refine tForger_answer (fun r_4 d_3 h => ⟨r_4, d_3, rfl, rfl, ?_⟩) d h
  exact st_retI rfl rfl (hQ _ _ h)
set_option maxRecDepth 100000 in
def OF_forge_9 (Q : Int32 → vmD → Prop) : Nat → Int32 → vmD → Prop
  | 0, _, _ => False
  | n + 1, x1, d => if (3 : Int32) < x1 then
  (OF_forge_38 d Q)
  else
  (Forger_failed d fun r_6 d_5 =>
  if r_6 = 0 then
  (Forger_pass x1 d_5 fun d_8 =>
  bnd (x1 + 1) fun x1_9 =>
  (OF_forge_9 Q n) x1_9 d_8)
  else
  (OF_forge_38 d_5 Q))
set_option maxRecDepth 100000 in
set_option maxHeartbeats 4000000 in
theorem tOF_forge_9 {L : Nat} {e : vmD} {Qo : Option Value → vmW → Prop} {Q : Int32 → vmD → Prop} (hQ : ∀ r d, Q r d → Qo (some (.int r)) (wC L d e)) : ∀ (n : Nat) (x1 : Int32) (d : vmD), OF_forge_9 Q n x1 d → vmWp 223 9 [(0, .ref 0), (1, .int x1)] [] (wC L d e) Qo := by
  intro n
  induction n with
  | zero => intro x1 d h; exact h.elim
  | succ n ih =>
    intro x1 d h
    unfold OF_forge_9 at h
    refine st_go 2 (pc' := 11) (lo' := [(0, .ref 0), (1, .int x1)]) (st' := [.int 3, .int x1]) rfl ?_
    by_cases hc_2 : (3 : Int32) < x1
    · have h := Eq.mp (if_pos hc_2) h
      refine st_icmp (t := 38) (b := true) rfl (decide_eq_true hc_2) rfl ?_
      refine vmWp.sub (lo' := [(0, .ref 0)]) ⟨rfl, trivial⟩ ?_
      exact tOF_forge_38 hQ d h
    · have h := Eq.mp (if_neg hc_2) h
      refine st_icmp (t := 14) (b := false) rfl (decide_eq_false hc_2) rfl ?_
      refine st_go 2 (pc' := 18) (lo' := [(0, .ref 0), (1, .int x1)]) (st' := [.ref 20]) rfl ?_
      refine st_calli (k' := 30) (as := [.ref 20]) (rest := []) (lo' := [(0, .ref 20)]) (wf := fun d => wC L d e) rfl rfl rfl ?_
      refine tForger_failed (fun r_6 d_5 h => ⟨r_6, d_5, rfl, rfl, ?_⟩) d h
      by_cases hc_7 : r_6 = 0
      · have h := Eq.mp (if_pos hc_7) h
        refine st_if (t := 24) (b := false) rfl (decide_eq_false (fun z => z hc_7)) rfl ?_
        refine st_go 3 (pc' := 29) (lo' := [(0, .ref 0), (1, .int x1)]) (st' := [.int x1, .ref 20]) rfl ?_
        refine st_callv (k' := 33) (as := [.ref 20, .int x1]) (rest := []) (lo' := [(0, .ref 20), (1, .int x1)]) (wf := fun d => wC L d e) rfl rfl rfl ?_
        refine tForger_pass (fun d_8 h => ⟨d_8, rfl, rfl, ?_⟩) x1 d_5 h
        refine st_go 1 (pc' := 35) (lo' := [(1, .int (x1 + 1)), (0, .ref 0)]) (st' := []) rfl ?_
        refine st_locI (fun x1_9 hy_x1_9 => ?_)
        have h := h x1_9 hy_x1_9
        refine st_go 1 (pc' := 9) (lo' := [(1, .int x1_9), (0, .ref 0)]) (st' := []) rfl ?_
        refine vmWp.sub (lo' := [(0, .ref 0), (1, .int x1_9)]) ⟨rfl, rfl, trivial⟩ ?_
        exact ih x1_9 d_8 h
      · have h := Eq.mp (if_neg hc_7) h
        refine st_if (t := 38) (b := true) rfl (decide_eq_true hc_7) rfl ?_
        refine vmWp.sub (lo' := [(0, .ref 0)]) ⟨rfl, trivial⟩ ?_
        exact tOF_forge_38 hQ d_5 h
set_option maxRecDepth 100000 in
def OF_forge (d : vmD) (Q : Int32 → vmD → Prop) : Prop :=
  Forger_begin d fun d_1 =>
  ∃ m9, OF_forge_9 Q m9 1 d_1
set_option maxRecDepth 100000 in
set_option maxHeartbeats 4000000 in
theorem tOF_forge {L : Nat} {e : vmD} {Qo : Option Value → vmW → Prop} {Q : Int32 → vmD → Prop} (hQ : ∀ r d, Q r d → Qo (some (.int r)) (wC L d e)) (d : vmD) (h : OF_forge d Q) : vmWp 223 0 [(0, .ref 0)] [] (wC L d e) Qo := by
  unfold OF_forge at h
  refine st_go 2 (pc' := 4) (lo' := [(0, .ref 0)]) (st' := [.ref 20]) rfl ?_
  refine st_callv (k' := 29) (as := [.ref 20]) (rest := []) (lo' := [(0, .ref 20)]) (wf := fun d => wC L d e) rfl rfl rfl ?_
  refine tForger_begin (fun d_1 h => ⟨d_1, rfl, rfl, ?_⟩) d h
  refine st_go 2 (pc' := 9) (lo' := [(1, .int 1), (0, .ref 0)]) (st' := []) rfl ?_
  obtain ⟨m9, h⟩ := h
  refine vmWp.sub (lo' := [(0, .ref 0), (1, .int 1)]) ⟨rfl, rfl, trivial⟩ ?_
  exact tOF_forge_9 hQ m9 1 d_1 h
set_option maxRecDepth 100000 in
def Faults_line (d : vmD) (Q : Int32 → vmD → Prop) : Prop :=
  Q (gF d 21 0) d
set_option maxRecDepth 100000 in
set_option maxHeartbeats 4000000 in
theorem tFaults_line {L : Nat} {e : vmD} {Qo : Option Value → vmW → Prop} {Q : Int32 → vmD → Prop} (hQ : ∀ r d, Q r d → Qo (some (.int r)) (wC L d e)) (d : vmD) (h : Faults_line d Q) : vmWp 25 0 [(0, .ref 21)] [] (wC L d e) Qo := by
  unfold Faults_line at h
  refine st_go 2 (pc' := 4) (lo' := [(0, .ref 21)]) (st' := [.int (gF d 21 0)]) rfl ?_
  exact st_retI rfl rfl (hQ _ _ h)
set_option maxRecDepth 100000 in
def Faults_place (d : vmD) (Q : Int32 → vmD → Prop) : Prop :=
  Q (gF d 21 1) d
set_option maxRecDepth 100000 in
set_option maxHeartbeats 4000000 in
theorem tFaults_place {L : Nat} {e : vmD} {Qo : Option Value → vmW → Prop} {Q : Int32 → vmD → Prop} (hQ : ∀ r d, Q r d → Qo (some (.int r)) (wC L d e)) (d : vmD) (h : Faults_place d Q) : vmWp 26 0 [(0, .ref 21)] [] (wC L d e) Qo := by
  unfold Faults_place at h
  refine st_go 2 (pc' := 4) (lo' := [(0, .ref 21)]) (st' := [.int (gF d 21 1)]) rfl ?_
  exact st_retI rfl rfl (hQ _ _ h)
set_option maxRecDepth 100000 in
def Names_count (d : vmD) (Q : Int32 → vmD → Prop) : Prop :=
  Q (gF d 3 5) d
set_option maxRecDepth 100000 in
set_option maxHeartbeats 4000000 in
theorem tNames_count {L : Nat} {e : vmD} {Qo : Option Value → vmW → Prop} {Q : Int32 → vmD → Prop} (hQ : ∀ r d, Q r d → Qo (some (.int r)) (wC L d e)) (d : vmD) (h : Names_count d Q) : vmWp 146 0 [(0, .ref 3)] [] (wC L d e) Qo := by
  unfold Names_count at h
  refine st_go 2 (pc' := 4) (lo' := [(0, .ref 3)]) (st' := [.int (gF d 3 5)]) rfl ?_
  exact st_retI rfl rfl (hQ _ _ h)
set_option maxRecDepth 100000 in
def Forger_fact (x1 : Int32) (d : vmD) (Q : Int32 → vmD → Prop) : Prop :=
  if x1 = 0 then
  (Faults_line d fun r_3 d_2 =>
  Q r_3 d_2)
  else
  if x1 = 1 then
  (Faults_place d fun r_6 d_5 =>
  Q r_6 d_5)
  else
  if x1 = 2 then
  (Q (gF d 20 14) d)
  else
  if x1 = 3 then
  (Names_count d fun r_10 d_9 =>
  Q r_10 d_9)
  else
  if x1 = 4 then
  (Q (gF d 20 15) d)
  else
  if x1 = 5 then
  (Q (gF d 20 16) d)
  else
  (Q (-2) d)
set_option maxRecDepth 100000 in
set_option maxHeartbeats 4000000 in
theorem tForger_fact {L : Nat} {e : vmD} {Qo : Option Value → vmW → Prop} {Q : Int32 → vmD → Prop} (hQ : ∀ r d, Q r d → Qo (some (.int r)) (wC L d e)) (x1 : Int32) (d : vmD) (h : Forger_fact x1 d Q) : vmWp 32 0 [(0, .ref 20), (1, .int x1)] [] (wC L d e) Qo := by
  unfold Forger_fact at h
  refine st_go 1 (pc' := 1) (lo' := [(0, .ref 20), (1, .int x1)]) (st' := [.int x1]) rfl ?_
  by_cases hc_1 : x1 = 0
  · have h := Eq.mp (if_pos hc_1) h
    refine st_tab (t := 40) rfl (by rw [hc_1]; rfl) ?_
    refine st_go 2 (pc' := 44) (lo' := [(0, .ref 20), (1, .int x1)]) (st' := [.ref 21]) rfl ?_
    refine st_calli (k' := 25) (as := [.ref 21]) (rest := []) (lo' := [(0, .ref 21)]) (wf := fun d => wC L d e) rfl rfl rfl ?_
    refine tFaults_line (fun r_3 d_2 h => ⟨r_3, d_2, rfl, rfl, ?_⟩) d h
    exact st_retI rfl rfl (hQ _ _ h)
  · have h := Eq.mp (if_neg hc_1) h
    by_cases hc_4 : x1 = 1
    · have h := Eq.mp (if_pos hc_4) h
      refine st_tab (t := 48) rfl (by rw [hc_4]; rfl) ?_
      refine st_go 2 (pc' := 52) (lo' := [(0, .ref 20), (1, .int x1)]) (st' := [.ref 21]) rfl ?_
      refine st_calli (k' := 26) (as := [.ref 21]) (rest := []) (lo' := [(0, .ref 21)]) (wf := fun d => wC L d e) rfl rfl rfl ?_
      refine tFaults_place (fun r_6 d_5 h => ⟨r_6, d_5, rfl, rfl, ?_⟩) d h
      exact st_retI rfl rfl (hQ _ _ h)
    · have h := Eq.mp (if_neg hc_4) h
      by_cases hc_7 : x1 = 2
      · have h := Eq.mp (if_pos hc_7) h
        refine st_tab (t := 56) rfl (by rw [hc_7]; rfl) ?_
        refine st_go 2 (pc' := 60) (lo' := [(0, .ref 20), (1, .int x1)]) (st' := [.int (gF d 20 14)]) rfl ?_
        exact st_retI rfl rfl (hQ _ _ h)
      · have h := Eq.mp (if_neg hc_7) h
        by_cases hc_8 : x1 = 3
        · have h := Eq.mp (if_pos hc_8) h
          refine st_tab (t := 61) rfl (by rw [hc_8]; rfl) ?_
          refine st_go 2 (pc' := 65) (lo' := [(0, .ref 20), (1, .int x1)]) (st' := [.ref 3]) rfl ?_
          refine st_calli (k' := 146) (as := [.ref 3]) (rest := []) (lo' := [(0, .ref 3)]) (wf := fun d => wC L d e) rfl rfl rfl ?_
          refine tNames_count (fun r_10 d_9 h => ⟨r_10, d_9, rfl, rfl, ?_⟩) d h
          exact st_retI rfl rfl (hQ _ _ h)
        · have h := Eq.mp (if_neg hc_8) h
          by_cases hc_11 : x1 = 4
          · have h := Eq.mp (if_pos hc_11) h
            refine st_tab (t := 69) rfl (by rw [hc_11]; rfl) ?_
            refine st_go 2 (pc' := 73) (lo' := [(0, .ref 20), (1, .int x1)]) (st' := [.int (gF d 20 15)]) rfl ?_
            exact st_retI rfl rfl (hQ _ _ h)
          · have h := Eq.mp (if_neg hc_11) h
            by_cases hc_12 : x1 = 5
            · have h := Eq.mp (if_pos hc_12) h
              refine st_tab (t := 74) rfl (by rw [hc_12]; rfl) ?_
              refine st_go 2 (pc' := 78) (lo' := [(0, .ref 20), (1, .int x1)]) (st' := [.int (gF d 20 16)]) rfl ?_
              exact st_retI rfl rfl (hQ _ _ h)
            · have h := Eq.mp (if_neg hc_12) h
              refine st_tab (t := 79) rfl (tab_def rfl (by decide) rfl (by
                intro j hj hx
                have hj : j < 6 := hj
                rcases (j = 0 ∨ j = 1 ∨ j = 2 ∨ j = 3 ∨ j = 4 ∨ j = 5 : Prop) |> fun _ => (show j = 0 ∨ j = 1 ∨ j = 2 ∨ j = 3 ∨ j = 4 ∨ j = 5 by omega) with rfl | rfl | rfl | rfl | rfl | rfl <;> first | rfl | exact absurd hx hc_1 | exact absurd hx hc_4 | exact absurd hx hc_7 | exact absurd hx hc_8 | exact absurd hx hc_11 | exact absurd hx hc_12)) ?_
              refine st_go 1 (pc' := 81) (lo' := [(0, .ref 20), (1, .int x1)]) (st' := [.int (-2)]) rfl ?_
              exact st_retI rfl rfl (hQ _ _ h)
set_option maxRecDepth 100000 in
def OF_told (x1 : Int32) (d : vmD) (Q : Int32 → vmD → Prop) : Prop :=
  Forger_fact x1 d fun r_2 d_1 =>
  Q r_2 d_1
set_option maxRecDepth 100000 in
set_option maxHeartbeats 4000000 in
theorem tOF_told {L : Nat} {e : vmD} {Qo : Option Value → vmW → Prop} {Q : Int32 → vmD → Prop} (hQ : ∀ r d, Q r d → Qo (some (.int r)) (wC L d e)) (x1 : Int32) (d : vmD) (h : OF_told x1 d Q) : vmWp 224 0 [(0, .ref 0), (1, .int x1)] [] (wC L d e) Qo := by
  unfold OF_told at h
  refine st_go 3 (pc' := 5) (lo' := [(0, .ref 0), (1, .int x1)]) (st' := [.int x1, .ref 20]) rfl ?_
  refine st_calli (k' := 32) (as := [.ref 20, .int x1]) (rest := []) (lo' := [(0, .ref 20), (1, .int x1)]) (wf := fun d => wC L d e) rfl rfl rfl ?_
  refine tForger_fact (fun r_2 d_1 h => ⟨r_2, d_1, rfl, rfl, ?_⟩) x1 d h
  exact st_retI rfl rfl (hQ _ _ h)
set_option maxRecDepth 100000 in
def Names_labelValue (x1 : Int32) (d : vmD) (Q : Int32 → vmD → Prop) : Prop :=
  if x1 < 0 then
  (Q 0 d)
  else
  (if x1 < (gF d 3 5) then
  (if x1 < 200 then
  (ixOk x1 200 ∧
  bnd (gA d 6 x1.toNatClampNeg) fun y_5 =>
  Q y_5 d)
  else
  (Q 0 d))
  else
  (Q 0 d))
set_option maxRecDepth 100000 in
set_option maxHeartbeats 4000000 in
theorem tNames_labelValue {L : Nat} {e : vmD} {Qo : Option Value → vmW → Prop} {Q : Int32 → vmD → Prop} (hQ : ∀ r d, Q r d → Qo (some (.int r)) (wC L d e)) (x1 : Int32) (d : vmD) (h : Names_labelValue x1 d Q) : vmWp 147 0 [(0, .ref 3), (1, .int x1)] [] (wC L d e) Qo := by
  unfold Names_labelValue at h
  refine st_go 1 (pc' := 1) (lo' := [(0, .ref 3), (1, .int x1)]) (st' := [.int x1]) rfl ?_
  by_cases hc_1 : x1 < 0
  · have h := Eq.mp (if_pos hc_1) h
    refine st_if (t := 28) (b := true) rfl (decide_eq_true hc_1) rfl ?_
    refine st_go 1 (pc' := 29) (lo' := [(0, .ref 3), (1, .int x1)]) (st' := [.int 0]) rfl ?_
    exact st_retI rfl rfl (hQ _ _ h)
  · have h := Eq.mp (if_neg hc_1) h
    refine st_if (t := 4) (b := false) rfl (decide_eq_false hc_1) rfl ?_
    refine st_go 3 (pc' := 9) (lo' := [(0, .ref 3), (1, .int x1)]) (st' := [.int (gF d 3 5), .int x1]) rfl ?_
    by_cases hc_2 : x1 < (gF d 3 5)
    · have h := Eq.mp (if_pos hc_2) h
      refine st_icmp (t := 12) (b := false) rfl (decide_eq_false (Int32.not_le.mpr hc_2)) rfl ?_
      refine st_go 2 (pc' := 16) (lo' := [(0, .ref 3), (1, .int x1)]) (st' := [.int 200, .int x1]) rfl ?_
      by_cases hc_3 : x1 < 200
      · have h := Eq.mp (if_pos hc_3) h
        refine st_icmp (t := 19) (b := false) rfl (decide_eq_false (Int32.not_le.mpr hc_3)) rfl ?_
        refine st_go 3 (pc' := 24) (lo' := [(0, .ref 3), (1, .int x1)]) (st' := [.int x1, .ref 6]) rfl ?_
        obtain ⟨hj_4, h⟩ := h
        refine st_ialdC (o := 6) rfl rfl hj_4 rfl (fun y_5 hy_y_5 => ?_)
        have h := h y_5 hy_y_5
        refine st_go 1 (pc' := 29) (lo' := [(0, .ref 3), (1, .int x1)]) (st' := [.int y_5]) rfl ?_
        exact st_retI rfl rfl (hQ _ _ h)
      · have h := Eq.mp (if_neg hc_3) h
        refine st_icmp (t := 28) (b := true) rfl (decide_eq_true (Int32.not_lt.mp hc_3)) rfl ?_
        refine st_go 1 (pc' := 29) (lo' := [(0, .ref 3), (1, .int x1)]) (st' := [.int 0]) rfl ?_
        exact st_retI rfl rfl (hQ _ _ h)
    · have h := Eq.mp (if_neg hc_2) h
      refine st_icmp (t := 28) (b := true) rfl (decide_eq_true (Int32.not_lt.mp hc_2)) rfl ?_
      refine st_go 1 (pc' := 29) (lo' := [(0, .ref 3), (1, .int x1)]) (st' := [.int 0]) rfl ?_
      exact st_retI rfl rfl (hQ _ _ h)
set_option maxRecDepth 100000 in
def OF_label (x1 : Int32) (d : vmD) (Q : Int32 → vmD → Prop) : Prop :=
  Names_labelValue x1 d fun r_2 d_1 =>
  Q r_2 d_1
set_option maxRecDepth 100000 in
set_option maxHeartbeats 4000000 in
theorem tOF_label {L : Nat} {e : vmD} {Qo : Option Value → vmW → Prop} {Q : Int32 → vmD → Prop} (hQ : ∀ r d, Q r d → Qo (some (.int r)) (wC L d e)) (x1 : Int32) (d : vmD) (h : OF_label x1 d Q) : vmWp 225 0 [(0, .ref 0), (1, .int x1)] [] (wC L d e) Qo := by
  unfold OF_label at h
  refine st_go 3 (pc' := 5) (lo' := [(0, .ref 0), (1, .int x1)]) (st' := [.int x1, .ref 3]) rfl ?_
  refine st_calli (k' := 147) (as := [.ref 3, .int x1]) (rest := []) (lo' := [(0, .ref 3), (1, .int x1)]) (wf := fun d => wC L d e) rfl rfl rfl ?_
  refine tNames_labelValue (fun r_2 d_1 h => ⟨r_2, d_1, rfl, rfl, ?_⟩) x1 d h
  exact st_retI rfl rfl (hQ _ _ h)
set_option maxRecDepth 100000 in
def Names_labelKey_28 (d : vmD) (Q : Int64 → vmD → Prop) : Prop :=
  Q 0 d
set_option maxRecDepth 100000 in
set_option maxHeartbeats 4000000 in
theorem tNames_labelKey_28 {L : Nat} {e : vmD} {Qo : Option Value → vmW → Prop} {Q : Int64 → vmD → Prop} (hQ : ∀ r d, Q r d → Qo (some (.long r)) (wC L d e)) (d : vmD) (h : Names_labelKey_28 d Q) : vmWp 148 28 [] [] (wC L d e) Qo := by
  unfold Names_labelKey_28 at h
  refine st_go 1 (pc' := 29) (lo' := []) (st' := [.long 0]) rfl ?_
  exact st_retJ rfl rfl (hQ _ _ h)
set_option maxRecDepth 100000 in
def Names_labelKey (x1 : Int32) (d : vmD) (Q : Int64 → vmD → Prop) : Prop :=
  if x1 < 0 then
  (Names_labelKey_28 d Q)
  else
  (if x1 < (gF d 3 5) then
  (if x1 < 200 then
  (ixOk x1 200 ∧
  bnd (gL d 5 x1.toNatClampNeg) fun y_5 =>
  Q y_5 d)
  else
  (Names_labelKey_28 d Q))
  else
  (Names_labelKey_28 d Q))
set_option maxRecDepth 100000 in
set_option maxHeartbeats 4000000 in
theorem tNames_labelKey {L : Nat} {e : vmD} {Qo : Option Value → vmW → Prop} {Q : Int64 → vmD → Prop} (hQ : ∀ r d, Q r d → Qo (some (.long r)) (wC L d e)) (x1 : Int32) (d : vmD) (h : Names_labelKey x1 d Q) : vmWp 148 0 [(0, .ref 3), (1, .int x1)] [] (wC L d e) Qo := by
  unfold Names_labelKey at h
  refine st_go 1 (pc' := 1) (lo' := [(0, .ref 3), (1, .int x1)]) (st' := [.int x1]) rfl ?_
  by_cases hc_1 : x1 < 0
  · have h := Eq.mp (if_pos hc_1) h
    refine st_if (t := 28) (b := true) rfl (decide_eq_true hc_1) rfl ?_
    refine vmWp.sub (lo' := []) trivial ?_
    exact tNames_labelKey_28 hQ d h
  · have h := Eq.mp (if_neg hc_1) h
    refine st_if (t := 4) (b := false) rfl (decide_eq_false hc_1) rfl ?_
    refine st_go 3 (pc' := 9) (lo' := [(0, .ref 3), (1, .int x1)]) (st' := [.int (gF d 3 5), .int x1]) rfl ?_
    by_cases hc_2 : x1 < (gF d 3 5)
    · have h := Eq.mp (if_pos hc_2) h
      refine st_icmp (t := 12) (b := false) rfl (decide_eq_false (Int32.not_le.mpr hc_2)) rfl ?_
      refine st_go 2 (pc' := 16) (lo' := [(0, .ref 3), (1, .int x1)]) (st' := [.int 200, .int x1]) rfl ?_
      by_cases hc_3 : x1 < 200
      · have h := Eq.mp (if_pos hc_3) h
        refine st_icmp (t := 19) (b := false) rfl (decide_eq_false (Int32.not_le.mpr hc_3)) rfl ?_
        refine st_go 3 (pc' := 24) (lo' := [(0, .ref 3), (1, .int x1)]) (st' := [.int x1, .ref 5]) rfl ?_
        obtain ⟨hj_4, h⟩ := h
        refine st_laldC (o := 5) rfl rfl hj_4 rfl (fun y_5 hy_y_5 => ?_)
        have h := h y_5 hy_y_5
        refine st_go 1 (pc' := 29) (lo' := [(0, .ref 3), (1, .int x1)]) (st' := [.long y_5]) rfl ?_
        exact st_retJ rfl rfl (hQ _ _ h)
      · have h := Eq.mp (if_neg hc_3) h
        refine st_icmp (t := 28) (b := true) rfl (decide_eq_true (Int32.not_lt.mp hc_3)) rfl ?_
        refine vmWp.sub (lo' := []) trivial ?_
        exact tNames_labelKey_28 hQ d h
    · have h := Eq.mp (if_neg hc_2) h
      refine st_icmp (t := 28) (b := true) rfl (decide_eq_true (Int32.not_lt.mp hc_2)) rfl ?_
      refine vmWp.sub (lo' := []) trivial ?_
      exact tNames_labelKey_28 hQ d h
set_option maxRecDepth 100000 in
def Names_signOf_51 (Q : Int32 → vmD → Prop) : Nat → Int32 → Int64 → Int32 → vmD → Prop
  | 0, _, _, _, _ => False
  | n + 1, x2, x4, x6, d => if x2 < x6 then
  (bnd (x4 / 38) fun x4_9 =>
  bnd (x6 + (-1)) fun x6_10 =>
  (Names_signOf_51 Q n) x2 x4_9 x6_10 d)
  else
  (bnd (Int64.toInt32 (x4 - x4 / 38 * 38)) fun x6_11 =>
  if x6_11 = 0 then
  (Q 39 d)
  else
  (if x6_11 = 37 then
  (Q 95 d)
  else
  (if x6_11 < 27 then
  (Q (((65 : Int32) + x6_11) - 1) d)
  else
  (Q (((48 : Int32) + x6_11) - 27) d))))
set_option maxRecDepth 100000 in
set_option maxHeartbeats 4000000 in
theorem tNames_signOf_51 {L : Nat} {e : vmD} {Qo : Option Value → vmW → Prop} {Q : Int32 → vmD → Prop} (hQ : ∀ r d, Q r d → Qo (some (.int r)) (wC L d e)) : ∀ (n : Nat) (x2 : Int32) (x4 : Int64) (x6 : Int32) (d : vmD), Names_signOf_51 Q n x2 x4 x6 d → vmWp 137 51 [(2, .int x2), (4, .long x4), (6, .int x6)] [] (wC L d e) Qo := by
  intro n
  induction n with
  | zero => intro x2 x4 x6 d h; exact h.elim
  | succ n ih =>
    intro x2 x4 x6 d h
    unfold Names_signOf_51 at h
    refine st_go 2 (pc' := 54) (lo' := [(2, .int x2), (4, .long x4), (6, .int x6)]) (st' := [.int x2, .int x6]) rfl ?_
    by_cases hc_8 : x2 < x6
    · have h := Eq.mp (if_pos hc_8) h
      refine st_icmp (t := 57) (b := false) rfl (decide_eq_false (Int32.not_le.mpr hc_8)) rfl ?_
      refine st_go 2 (pc' := 62) (lo' := [(2, .int x2), (4, .long x4), (6, .int x6)]) (st' := [.long 38, .long x4]) rfl ?_
      refine st_ldiv rfl (by decide) ?_
      refine st_go 1 (pc' := 65) (lo' := [(4, .long (x4 / 38)), (2, .int x2), (6, .int x6)]) (st' := []) rfl ?_
      refine st_locJ (fun x4_9 hy_x4_9 => ?_)
      have h := h x4_9 hy_x4_9
      refine st_go 1 (pc' := 68) (lo' := [(6, .int (x6 + (-1))), (4, .long x4_9), (2, .int x2)]) (st' := []) rfl ?_
      refine st_locI (fun x6_10 hy_x6_10 => ?_)
      have h := h x6_10 hy_x6_10
      refine st_go 1 (pc' := 51) (lo' := [(6, .int x6_10), (4, .long x4_9), (2, .int x2)]) (st' := []) rfl ?_
      refine vmWp.sub (lo' := [(2, .int x2), (4, .long x4_9), (6, .int x6_10)]) ⟨rfl, rfl, rfl, trivial⟩ ?_
      exact ih x2 x4_9 x6_10 d h
    · have h := Eq.mp (if_neg hc_8) h
      refine st_icmp (t := 71) (b := true) rfl (decide_eq_true (Int32.not_lt.mp hc_8)) rfl ?_
      refine st_go 2 (pc' := 76) (lo' := [(2, .int x2), (4, .long x4), (6, .int x6)]) (st' := [.long 38, .long x4]) rfl ?_
      refine st_lrem rfl (by decide) ?_
      refine st_go 2 (pc' := 80) (lo' := [(6, .int (Int64.toInt32 (x4 - x4 / 38 * 38))), (2, .int x2), (4, .long x4)]) (st' := []) rfl ?_
      refine st_locI (fun x6_11 hy_x6_11 => ?_)
      have h := h x6_11 hy_x6_11
      refine st_go 1 (pc' := 82) (lo' := [(6, .int x6_11), (2, .int x2), (4, .long x4)]) (st' := [.int x6_11]) rfl ?_
      by_cases hc_12 : x6_11 = 0
      · have h := Eq.mp (if_pos hc_12) h
        refine st_if (t := 85) (b := false) rfl (decide_eq_false (fun z => z hc_12)) rfl ?_
        refine st_go 1 (pc' := 87) (lo' := [(6, .int x6_11), (2, .int x2), (4, .long x4)]) (st' := [.int 39]) rfl ?_
        exact st_retI rfl rfl (hQ _ _ h)
      · have h := Eq.mp (if_neg hc_12) h
        refine st_if (t := 88) (b := true) rfl (decide_eq_true hc_12) rfl ?_
        refine st_go 2 (pc' := 92) (lo' := [(6, .int x6_11), (2, .int x2), (4, .long x4)]) (st' := [.int 37, .int x6_11]) rfl ?_
        by_cases hc_13 : x6_11 = 37
        · have h := Eq.mp (if_pos hc_13) h
          refine st_icmp (t := 95) (b := false) rfl (decide_eq_false (fun z => z hc_13)) rfl ?_
          refine st_go 1 (pc' := 97) (lo' := [(6, .int x6_11), (2, .int x2), (4, .long x4)]) (st' := [.int 95]) rfl ?_
          exact st_retI rfl rfl (hQ _ _ h)
        · have h := Eq.mp (if_neg hc_13) h
          refine st_icmp (t := 98) (b := true) rfl (decide_eq_true hc_13) rfl ?_
          refine st_go 2 (pc' := 102) (lo' := [(6, .int x6_11), (2, .int x2), (4, .long x4)]) (st' := [.int 27, .int x6_11]) rfl ?_
          by_cases hc_14 : x6_11 < 27
          · have h := Eq.mp (if_pos hc_14) h
            refine st_icmp (t := 105) (b := false) rfl (decide_eq_false (Int32.not_le.mpr hc_14)) rfl ?_
            refine st_go 6 (pc' := 123) (lo' := [(6, .int x6_11), (2, .int x2), (4, .long x4)]) (st' := [.int (((65 : Int32) + x6_11) - 1)]) rfl ?_
            exact st_retI rfl rfl (hQ _ _ h)
          · have h := Eq.mp (if_neg hc_14) h
            refine st_icmp (t := 115) (b := true) rfl (decide_eq_true (Int32.not_lt.mp hc_14)) rfl ?_
            refine st_go 5 (pc' := 123) (lo' := [(6, .int x6_11), (2, .int x2), (4, .long x4)]) (st' := [.int (((48 : Int32) + x6_11) - 27)]) rfl ?_
            exact st_retI rfl rfl (hQ _ _ h)
set_option maxRecDepth 100000 in
def Names_signOf_32 (x0 : Int64) (x2 : Int32) (x3 : Int32) (d : vmD) (Q : Int32 → vmD → Prop) : Prop :=
  if x2 < 0 then
  (Q (-1) d)
  else
  (if x2 < x3 then
  (bnd (x3 - 1) fun x6_7 =>
  ∃ m51, Names_signOf_51 Q m51 x2 x0 x6_7 d)
  else
  (Q (-1) d))
set_option maxRecDepth 100000 in
set_option maxHeartbeats 4000000 in
theorem tNames_signOf_32 {L : Nat} {e : vmD} {Qo : Option Value → vmW → Prop} {Q : Int32 → vmD → Prop} (hQ : ∀ r d, Q r d → Qo (some (.int r)) (wC L d e)) (x0 : Int64) (x2 : Int32) (x3 : Int32) (d : vmD) (h : Names_signOf_32 x0 x2 x3 d Q) : vmWp 137 32 [(0, .long x0), (2, .int x2), (3, .int x3)] [] (wC L d e) Qo := by
  unfold Names_signOf_32 at h
  refine st_go 1 (pc' := 33) (lo' := [(0, .long x0), (2, .int x2), (3, .int x3)]) (st' := [.int x2]) rfl ?_
  by_cases hc_5 : x2 < 0
  · have h := Eq.mp (if_pos hc_5) h
    refine st_if (t := 41) (b := true) rfl (decide_eq_true hc_5) rfl ?_
    refine st_go 1 (pc' := 42) (lo' := [(0, .long x0), (2, .int x2), (3, .int x3)]) (st' := [.int (-1)]) rfl ?_
    exact st_retI rfl rfl (hQ _ _ h)
  · have h := Eq.mp (if_neg hc_5) h
    refine st_if (t := 36) (b := false) rfl (decide_eq_false hc_5) rfl ?_
    refine st_go 2 (pc' := 38) (lo' := [(0, .long x0), (2, .int x2), (3, .int x3)]) (st' := [.int x3, .int x2]) rfl ?_
    by_cases hc_6 : x2 < x3
    · have h := Eq.mp (if_pos hc_6) h
      refine st_icmp (t := 43) (b := true) rfl (decide_eq_true hc_6) rfl ?_
      refine st_go 6 (pc' := 51) (lo' := [(6, .int (x3 - 1)), (4, .long x0), (0, .long x0), (2, .int x2), (3, .int x3)]) (st' := []) rfl ?_
      refine st_locI (fun x6_7 hy_x6_7 => ?_)
      have h := h x6_7 hy_x6_7
      obtain ⟨m51, h⟩ := h
      refine vmWp.sub (lo' := [(2, .int x2), (4, .long x0), (6, .int x6_7)]) ⟨rfl, rfl, rfl, trivial⟩ ?_
      exact tNames_signOf_51 hQ m51 x2 x0 x6_7 d h
    · have h := Eq.mp (if_neg hc_6) h
      refine st_icmp (t := 41) (b := false) rfl (decide_eq_false hc_6) rfl ?_
      refine st_go 1 (pc' := 42) (lo' := [(0, .long x0), (2, .int x2), (3, .int x3)]) (st' := [.int (-1)]) rfl ?_
      exact st_retI rfl rfl (hQ _ _ h)
set_option maxRecDepth 100000 in
def Names_signOf_5 (Q : Int32 → vmD → Prop) : Nat → Int64 → Int32 → Int32 → Int64 → vmD → Prop
  | 0, _, _, _, _, _ => False
  | n + 1, x0, x2, x3, x4, d => if (0 : Int32) < (lg_cmp x4 0) then
  (if x3 < 12 then
  (bnd (x3 + 1) fun x3_3 =>
  bnd (x4 / 38) fun x4_4 =>
  (Names_signOf_5 Q n) x0 x2 x3_3 x4_4 d)
  else
  (Names_signOf_32 x0 x2 x3 d Q))
  else
  (Names_signOf_32 x0 x2 x3 d Q)
set_option maxRecDepth 100000 in
set_option maxHeartbeats 4000000 in
theorem tNames_signOf_5 {L : Nat} {e : vmD} {Qo : Option Value → vmW → Prop} {Q : Int32 → vmD → Prop} (hQ : ∀ r d, Q r d → Qo (some (.int r)) (wC L d e)) : ∀ (n : Nat) (x0 : Int64) (x2 : Int32) (x3 : Int32) (x4 : Int64) (d : vmD), Names_signOf_5 Q n x0 x2 x3 x4 d → vmWp 137 5 [(0, .long x0), (2, .int x2), (3, .int x3), (4, .long x4)] [] (wC L d e) Qo := by
  intro n
  induction n with
  | zero => intro x0 x2 x3 x4 d h; exact h.elim
  | succ n ih =>
    intro x0 x2 x3 x4 d h
    unfold Names_signOf_5 at h
    refine st_go 3 (pc' := 9) (lo' := [(0, .long x0), (2, .int x2), (3, .int x3), (4, .long x4)]) (st' := [.int (lg_cmp x4 0)]) rfl ?_
    by_cases hc_1 : (0 : Int32) < (lg_cmp x4 0)
    · have h := Eq.mp (if_pos hc_1) h
      refine st_if (t := 12) (b := false) rfl (decide_eq_false (Int32.not_le.mpr hc_1)) rfl ?_
      refine st_go 2 (pc' := 15) (lo' := [(0, .long x0), (2, .int x2), (3, .int x3), (4, .long x4)]) (st' := [.int 12, .int x3]) rfl ?_
      by_cases hc_2 : x3 < 12
      · have h := Eq.mp (if_pos hc_2) h
        refine st_icmp (t := 18) (b := false) rfl (decide_eq_false (Int32.not_le.mpr hc_2)) rfl ?_
        refine st_go 1 (pc' := 21) (lo' := [(3, .int (x3 + 1)), (0, .long x0), (2, .int x2), (4, .long x4)]) (st' := []) rfl ?_
        refine st_locI (fun x3_3 hy_x3_3 => ?_)
        have h := h x3_3 hy_x3_3
        refine st_go 2 (pc' := 26) (lo' := [(3, .int x3_3), (0, .long x0), (2, .int x2), (4, .long x4)]) (st' := [.long 38, .long x4]) rfl ?_
        refine st_ldiv rfl (by decide) ?_
        refine st_go 1 (pc' := 29) (lo' := [(4, .long (x4 / 38)), (3, .int x3_3), (0, .long x0), (2, .int x2)]) (st' := []) rfl ?_
        refine st_locJ (fun x4_4 hy_x4_4 => ?_)
        have h := h x4_4 hy_x4_4
        refine st_go 1 (pc' := 5) (lo' := [(4, .long x4_4), (3, .int x3_3), (0, .long x0), (2, .int x2)]) (st' := []) rfl ?_
        refine vmWp.sub (lo' := [(0, .long x0), (2, .int x2), (3, .int x3_3), (4, .long x4_4)]) ⟨rfl, rfl, rfl, rfl, trivial⟩ ?_
        exact ih x0 x2 x3_3 x4_4 d h
      · have h := Eq.mp (if_neg hc_2) h
        refine st_icmp (t := 32) (b := true) rfl (decide_eq_true (Int32.not_lt.mp hc_2)) rfl ?_
        refine vmWp.sub (lo' := [(0, .long x0), (2, .int x2), (3, .int x3)]) ⟨rfl, rfl, rfl, trivial⟩ ?_
        exact tNames_signOf_32 hQ x0 x2 x3 d h
    · have h := Eq.mp (if_neg hc_1) h
      refine st_if (t := 32) (b := true) rfl (decide_eq_true (Int32.not_lt.mp hc_1)) rfl ?_
      refine vmWp.sub (lo' := [(0, .long x0), (2, .int x2), (3, .int x3)]) ⟨rfl, rfl, rfl, trivial⟩ ?_
      exact tNames_signOf_32 hQ x0 x2 x3 d h
set_option maxRecDepth 100000 in
def Names_signOf (x0 : Int64) (x2 : Int32) (d : vmD) (Q : Int32 → vmD → Prop) : Prop :=
  ∃ m5, Names_signOf_5 Q m5 x0 x2 0 x0 d
set_option maxRecDepth 100000 in
set_option maxHeartbeats 4000000 in
theorem tNames_signOf {L : Nat} {e : vmD} {Qo : Option Value → vmW → Prop} {Q : Int32 → vmD → Prop} (hQ : ∀ r d, Q r d → Qo (some (.int r)) (wC L d e)) (x0 : Int64) (x2 : Int32) (d : vmD) (h : Names_signOf x0 x2 d Q) : vmWp 137 0 [(0, .long x0), (2, .int x2)] [] (wC L d e) Qo := by
  unfold Names_signOf at h
  refine st_go 4 (pc' := 5) (lo' := [(4, .long x0), (3, .int 0), (0, .long x0), (2, .int x2)]) (st' := []) rfl ?_
  obtain ⟨m5, h⟩ := h
  refine vmWp.sub (lo' := [(0, .long x0), (2, .int x2), (3, .int 0), (4, .long x0)]) ⟨rfl, rfl, rfl, rfl, trivial⟩ ?_
  exact tNames_signOf_5 hQ m5 x0 x2 0 x0 d h
set_option maxRecDepth 100000 in
def OF_labelSign (x1 : Int32) (x2 : Int32) (d : vmD) (Q : Int32 → vmD → Prop) : Prop :=
  Names_labelKey x1 d fun r_2 d_1 =>
  Names_signOf r_2 x2 d_1 fun r_4 d_3 =>
  Q r_4 d_3
set_option maxRecDepth 100000 in
set_option maxHeartbeats 4000000 in
theorem tOF_labelSign {L : Nat} {e : vmD} {Qo : Option Value → vmW → Prop} {Q : Int32 → vmD → Prop} (hQ : ∀ r d, Q r d → Qo (some (.int r)) (wC L d e)) (x1 : Int32) (x2 : Int32) (d : vmD) (h : OF_labelSign x1 x2 d Q) : vmWp 226 0 [(0, .ref 0), (1, .int x1), (2, .int x2)] [] (wC L d e) Qo := by
  unfold OF_labelSign at h
  refine st_go 3 (pc' := 5) (lo' := [(0, .ref 0), (1, .int x1), (2, .int x2)]) (st' := [.int x1, .ref 3]) rfl ?_
  refine st_calll (k' := 148) (as := [.ref 3, .int x1]) (rest := []) (lo' := [(0, .ref 3), (1, .int x1)]) (wf := fun d => wC L d e) rfl rfl rfl ?_
  refine tNames_labelKey (fun r_2 d_1 h => ⟨r_2, d_1, rfl, rfl, ?_⟩) x1 d h
  refine st_go 1 (pc' := 9) (lo' := [(0, .ref 0), (1, .int x1), (2, .int x2)]) (st' := [.int x2, .long r_2]) rfl ?_
  refine st_calli (k' := 137) (as := [.long r_2, .int x2]) (rest := []) (lo' := [(0, .long r_2), (2, .int x2)]) (wf := fun d => wC L d e) rfl rfl rfl ?_
  refine tNames_signOf (fun r_4 d_3 h => ⟨r_4, d_3, rfl, rfl, ?_⟩) r_2 x2 d_1 h
  exact st_retI rfl rfl (hQ _ _ h)
set_option maxRecDepth 100000 in
def Memory_at (x1 : Int32) (d : vmD) (Q : Int32 → vmD → Prop) : Prop :=
  ixOk (x1 &&& 65535) 65536 ∧
  bnd (gA d 2 (x1 &&& 65535).toNatClampNeg) fun y_2 =>
  Q (y_2 &&& 255) d
set_option maxRecDepth 100000 in
set_option maxHeartbeats 4000000 in
theorem tMemory_at {L : Nat} {e : vmD} {Qo : Option Value → vmW → Prop} {Q : Int32 → vmD → Prop} (hQ : ∀ r d, Q r d → Qo (some (.int r)) (wC L d e)) (x1 : Int32) (d : vmD) (h : Memory_at x1 d Q) : vmWp 128 0 [(0, .ref 1), (1, .int x1)] [] (wC L d e) Qo := by
  unfold Memory_at at h
  refine st_go 5 (pc' := 8) (lo' := [(0, .ref 1), (1, .int x1)]) (st' := [.int (x1 &&& 65535), .ref 2]) rfl ?_
  obtain ⟨hj_1, h⟩ := h
  refine st_baldC (o := 2) rfl rfl hj_1 rfl (fun y_2 hy_y_2 => ?_)
  have h := h y_2 hy_y_2
  refine st_go 2 (pc' := 13) (lo' := [(0, .ref 1), (1, .int x1)]) (st' := [.int (y_2 &&& 255)]) rfl ?_
  exact st_retI rfl rfl (hQ _ _ h)
set_option maxRecDepth 100000 in
def Instruction_groupOf (x0 : Int32) (d : vmD) (Q : Int32 → vmD → Prop) : Prop :=
  if x0 = 203 then
  (Q 1 d)
  else
  if x0 = 221 then
  (Q 3 d)
  else
  if x0 = 237 then
  (Q 2 d)
  else
  if x0 = 253 then
  (Q 4 d)
  else
  (Q 0 d)
set_option maxRecDepth 100000 in
set_option maxHeartbeats 4000000 in
theorem tInstruction_groupOf {L : Nat} {e : vmD} {Qo : Option Value → vmW → Prop} {Q : Int32 → vmD → Prop} (hQ : ∀ r d, Q r d → Qo (some (.int r)) (wC L d e)) (x0 : Int32) (d : vmD) (h : Instruction_groupOf x0 d Q) : vmWp 59 0 [(0, .int x0)] [] (wC L d e) Qo := by
  unfold Instruction_groupOf at h
  refine st_go 1 (pc' := 1) (lo' := [(0, .int x0)]) (st' := [.int x0]) rfl ?_
  by_cases hc_1 : x0 = 203
  · have h := Eq.mp (if_pos hc_1) h
    refine st_look (t := 44) rfl (by rw [hc_1]; rfl) ?_
    refine st_go 1 (pc' := 45) (lo' := [(0, .int x0)]) (st' := [.int 1]) rfl ?_
    exact st_retI rfl rfl (hQ _ _ h)
  · have h := Eq.mp (if_neg hc_1) h
    by_cases hc_2 : x0 = 221
    · have h := Eq.mp (if_pos hc_2) h
      refine st_look (t := 48) rfl (by rw [hc_2]; rfl) ?_
      refine st_go 1 (pc' := 49) (lo' := [(0, .int x0)]) (st' := [.int 3]) rfl ?_
      exact st_retI rfl rfl (hQ _ _ h)
    · have h := Eq.mp (if_neg hc_2) h
      by_cases hc_3 : x0 = 237
      · have h := Eq.mp (if_pos hc_3) h
        refine st_look (t := 46) rfl (by rw [hc_3]; rfl) ?_
        refine st_go 1 (pc' := 47) (lo' := [(0, .int x0)]) (st' := [.int 2]) rfl ?_
        exact st_retI rfl rfl (hQ _ _ h)
      · have h := Eq.mp (if_neg hc_3) h
        by_cases hc_4 : x0 = 253
        · have h := Eq.mp (if_pos hc_4) h
          refine st_look (t := 50) rfl (by rw [hc_4]; rfl) ?_
          refine st_go 1 (pc' := 51) (lo' := [(0, .int x0)]) (st' := [.int 4]) rfl ?_
          exact st_retI rfl rfl (hQ _ _ h)
        · have h := Eq.mp (if_neg hc_4) h
          refine st_look (t := 52) rfl (look_def (by
            intro q hq hx
            simp only [List.mem_cons, List.not_mem_nil, or_false] at hq
            rcases hq with rfl | rfl | rfl | rfl <;> first | rfl | exact absurd (Int32.toInt_inj.mp hx.symm) hc_1 | exact absurd (Int32.toInt_inj.mp hx.symm) hc_2 | exact absurd (Int32.toInt_inj.mp hx.symm) hc_3 | exact absurd (Int32.toInt_inj.mp hx.symm) hc_4) rfl) ?_
          refine st_go 1 (pc' := 53) (lo' := [(0, .int x0)]) (st' := [.int 0]) rfl ?_
          exact st_retI rfl rfl (hQ _ _ h)
set_option maxRecDepth 100000 in
def Instruction_isNear (x0 : Int32) (d : vmD) (Q : Int32 → vmD → Prop) : Prop :=
  if x0 = 32 then
  (Q 1 d)
  else
  (if x0 = 33 then
  (Q 1 d)
  else
  (Q 0 d))
set_option maxRecDepth 100000 in
set_option maxHeartbeats 4000000 in
theorem tInstruction_isNear {L : Nat} {e : vmD} {Qo : Option Value → vmW → Prop} {Q : Int32 → vmD → Prop} (hQ : ∀ r d, Q r d → Qo (some (.int r)) (wC L d e)) (x0 : Int32) (d : vmD) (h : Instruction_isNear x0 d Q) : vmWp 60 0 [(0, .int x0)] [] (wC L d e) Qo := by
  unfold Instruction_isNear at h
  refine st_go 2 (pc' := 3) (lo' := [(0, .int x0)]) (st' := [.int 32, .int x0]) rfl ?_
  by_cases hc_1 : x0 = 32
  · have h := Eq.mp (if_pos hc_1) h
    refine st_icmp (t := 12) (b := true) rfl (decide_eq_true hc_1) rfl ?_
    refine st_go 2 (pc' := 17) (lo' := [(0, .int x0)]) (st' := [.int 1]) rfl ?_
    exact st_retZ rfl rfl (Or.inr rfl) (hQ _ _ h)
  · have h := Eq.mp (if_neg hc_1) h
    refine st_icmp (t := 6) (b := false) rfl (decide_eq_false hc_1) rfl ?_
    refine st_go 2 (pc' := 9) (lo' := [(0, .int x0)]) (st' := [.int 33, .int x0]) rfl ?_
    by_cases hc_2 : x0 = 33
    · have h := Eq.mp (if_pos hc_2) h
      refine st_icmp (t := 12) (b := false) rfl (decide_eq_false (fun z => z hc_2)) rfl ?_
      refine st_go 2 (pc' := 17) (lo' := [(0, .int x0)]) (st' := [.int 1]) rfl ?_
      exact st_retZ rfl rfl (Or.inr rfl) (hQ _ _ h)
    · have h := Eq.mp (if_neg hc_2) h
      refine st_icmp (t := 16) (b := true) rfl (decide_eq_true hc_2) rfl ?_
      refine st_go 1 (pc' := 17) (lo' := [(0, .int x0)]) (st' := [.int 0]) rfl ?_
      exact st_retZ rfl rfl (Or.inl rfl) (hQ _ _ h)
set_option maxRecDepth 100000 in
def Instruction_isNumber (x0 : Int32) (d : vmD) (Q : Int32 → vmD → Prop) : Prop :=
  if x0 < 36 then
  (Q 0 d)
  else
  (if (43 : Int32) < x0 then
  (Q 0 d)
  else
  (Q 1 d))
set_option maxRecDepth 100000 in
set_option maxHeartbeats 4000000 in
theorem tInstruction_isNumber {L : Nat} {e : vmD} {Qo : Option Value → vmW → Prop} {Q : Int32 → vmD → Prop} (hQ : ∀ r d, Q r d → Qo (some (.int r)) (wC L d e)) (x0 : Int32) (d : vmD) (h : Instruction_isNumber x0 d Q) : vmWp 61 0 [(0, .int x0)] [] (wC L d e) Qo := by
  unfold Instruction_isNumber at h
  refine st_go 2 (pc' := 3) (lo' := [(0, .int x0)]) (st' := [.int 36, .int x0]) rfl ?_
  by_cases hc_1 : x0 < 36
  · have h := Eq.mp (if_pos hc_1) h
    refine st_icmp (t := 16) (b := true) rfl (decide_eq_true hc_1) rfl ?_
    refine st_go 1 (pc' := 17) (lo' := [(0, .int x0)]) (st' := [.int 0]) rfl ?_
    exact st_retZ rfl rfl (Or.inl rfl) (hQ _ _ h)
  · have h := Eq.mp (if_neg hc_1) h
    refine st_icmp (t := 6) (b := false) rfl (decide_eq_false hc_1) rfl ?_
    refine st_go 2 (pc' := 9) (lo' := [(0, .int x0)]) (st' := [.int 43, .int x0]) rfl ?_
    by_cases hc_2 : (43 : Int32) < x0
    · have h := Eq.mp (if_pos hc_2) h
      refine st_icmp (t := 16) (b := true) rfl (decide_eq_true hc_2) rfl ?_
      refine st_go 1 (pc' := 17) (lo' := [(0, .int x0)]) (st' := [.int 0]) rfl ?_
      exact st_retZ rfl rfl (Or.inl rfl) (hQ _ _ h)
    · have h := Eq.mp (if_neg hc_2) h
      refine st_icmp (t := 12) (b := false) rfl (decide_eq_false hc_2) rfl ?_
      refine st_go 2 (pc' := 17) (lo' := [(0, .int x0)]) (st' := [.int 1]) rfl ?_
      exact st_retZ rfl rfl (Or.inr rfl) (hQ _ _ h)
set_option maxRecDepth 100000 in
def Memory_wordAt (x1 : Int32) (d : vmD) (Q : Int32 → vmD → Prop) : Prop :=
  Memory_at x1 d fun r_2 d_1 =>
  Memory_at (x1 + 1) d_1 fun r_4 d_3 =>
  Q (r_2 ||| (r_4 <<< ((8 : Int32) &&& 31))) d_3
set_option maxRecDepth 100000 in
set_option maxHeartbeats 4000000 in
theorem tMemory_wordAt {L : Nat} {e : vmD} {Qo : Option Value → vmW → Prop} {Q : Int32 → vmD → Prop} (hQ : ∀ r d, Q r d → Qo (some (.int r)) (wC L d e)) (x1 : Int32) (d : vmD) (h : Memory_wordAt x1 d Q) : vmWp 129 0 [(0, .ref 1), (1, .int x1)] [] (wC L d e) Qo := by
  unfold Memory_wordAt at h
  refine st_go 2 (pc' := 2) (lo' := [(0, .ref 1), (1, .int x1)]) (st' := [.int x1, .ref 1]) rfl ?_
  refine st_calli (k' := 128) (as := [.ref 1, .int x1]) (rest := []) (lo' := [(0, .ref 1), (1, .int x1)]) (wf := fun d => wC L d e) rfl rfl rfl ?_
  refine tMemory_at (fun r_2 d_1 h => ⟨r_2, d_1, rfl, rfl, ?_⟩) x1 d h
  refine st_go 4 (pc' := 9) (lo' := [(0, .ref 1), (1, .int x1)]) (st' := [.int (x1 + 1), .ref 1, .int r_2]) rfl ?_
  refine st_calli (k' := 128) (as := [.ref 1, .int (x1 + 1)]) (rest := [.int r_2]) (lo' := [(0, .ref 1), (1, .int (x1 + 1))]) (wf := fun d => wC L d e) rfl rfl rfl ?_
  refine tMemory_at (fun r_4 d_3 h => ⟨r_4, d_3, rfl, rfl, ?_⟩) (x1 + 1) d_1 h
  refine st_go 3 (pc' := 16) (lo' := [(0, .ref 1), (1, .int x1)]) (st' := [.int (r_2 ||| (r_4 <<< ((8 : Int32) &&& 31)))]) rfl ?_
  exact st_retI rfl rfl (hQ _ _ h)
set_option maxRecDepth 100000 in
def Instruction_numberOf (x1 : Int32) (x2 : Int32) (d : vmD) (Q : Int32 → vmD → Prop) : Prop :=
  if x1 = 36 then
  (Memory_at x2 d fun r_3 d_2 =>
  Q r_3 d_2)
  else
  if x1 = 37 then
  (Memory_wordAt x2 d fun r_6 d_5 =>
  Q r_6 d_5)
  else
  if x1 = 38 then
  (Memory_at x2 d fun r_9 d_8 =>
  Q (((x2 + 1) + (Int8.toInt32 (Int32.toInt8 r_9))) &&& 65535) d_8)
  else
  if x1 = 39 then
  (Q (((gF d 19 4) >>> ((3 : Int32) &&& 31)) &&& 7) d)
  else
  if x1 = 40 then
  (Q ((gF d 19 4) &&& 56) d)
  else
  if x1 = 41 then
  (Q (if ((((gF d 19 4) >>> ((3 : Int32) &&& 31)) &&& 7) - 1) < 0 then 0 else ((((gF d 19 4) >>> ((3 : Int32) &&& 31)) &&& 7) - 1)) d)
  else
  if x1 = 42 then
  (Memory_at x2 d fun r_15 d_14 =>
  Q r_15 d_14)
  else
  if x1 = 43 then
  (Memory_wordAt x2 d fun r_18 d_17 =>
  Q r_18 d_17)
  else
  (Q 0 d)
set_option maxRecDepth 100000 in
set_option maxHeartbeats 4000000 in
theorem tInstruction_numberOf {L : Nat} {e : vmD} {Qo : Option Value → vmW → Prop} {Q : Int32 → vmD → Prop} (hQ : ∀ r d, Q r d → Qo (some (.int r)) (wC L d e)) (x1 : Int32) (x2 : Int32) (d : vmD) (h : Instruction_numberOf x1 x2 d Q) : vmWp 62 0 [(0, .ref 19), (1, .int x1), (2, .int x2)] [] (wC L d e) Qo := by
  unfold Instruction_numberOf at h
  refine st_go 1 (pc' := 1) (lo' := [(0, .ref 19), (1, .int x1), (2, .int x2)]) (st' := [.int x1]) rfl ?_
  by_cases hc_1 : x1 = 36
  · have h := Eq.mp (if_pos hc_1) h
    refine st_tab (t := 48) rfl (by rw [hc_1]; rfl) ?_
    refine st_go 3 (pc' := 53) (lo' := [(0, .ref 19), (1, .int x1), (2, .int x2)]) (st' := [.int x2, .ref 1]) rfl ?_
    refine st_calli (k' := 128) (as := [.ref 1, .int x2]) (rest := []) (lo' := [(0, .ref 1), (1, .int x2)]) (wf := fun d => wC L d e) rfl rfl rfl ?_
    refine tMemory_at (fun r_3 d_2 h => ⟨r_3, d_2, rfl, rfl, ?_⟩) x2 d h
    exact st_retI rfl rfl (hQ _ _ h)
  · have h := Eq.mp (if_neg hc_1) h
    by_cases hc_4 : x1 = 37
    · have h := Eq.mp (if_pos hc_4) h
      refine st_tab (t := 57) rfl (by rw [hc_4]; rfl) ?_
      refine st_go 3 (pc' := 62) (lo' := [(0, .ref 19), (1, .int x1), (2, .int x2)]) (st' := [.int x2, .ref 1]) rfl ?_
      refine st_calli (k' := 129) (as := [.ref 1, .int x2]) (rest := []) (lo' := [(0, .ref 1), (1, .int x2)]) (wf := fun d => wC L d e) rfl rfl rfl ?_
      refine tMemory_wordAt (fun r_6 d_5 h => ⟨r_6, d_5, rfl, rfl, ?_⟩) x2 d h
      exact st_retI rfl rfl (hQ _ _ h)
    · have h := Eq.mp (if_neg hc_4) h
      by_cases hc_7 : x1 = 38
      · have h := Eq.mp (if_pos hc_7) h
        refine st_tab (t := 66) rfl (by rw [hc_7]; rfl) ?_
        refine st_go 6 (pc' := 74) (lo' := [(0, .ref 19), (1, .int x1), (2, .int x2)]) (st' := [.int x2, .ref 1, .int (x2 + 1)]) rfl ?_
        refine st_calli (k' := 128) (as := [.ref 1, .int x2]) (rest := [.int (x2 + 1)]) (lo' := [(0, .ref 1), (1, .int x2)]) (wf := fun d => wC L d e) rfl rfl rfl ?_
        refine tMemory_at (fun r_9 d_8 h => ⟨r_9, d_8, rfl, rfl, ?_⟩) x2 d h
        refine st_go 4 (pc' := 82) (lo' := [(0, .ref 19), (1, .int x1), (2, .int x2)]) (st' := [.int (((x2 + 1) + (Int8.toInt32 (Int32.toInt8 r_9))) &&& 65535)]) rfl ?_
        exact st_retI rfl rfl (hQ _ _ h)
      · have h := Eq.mp (if_neg hc_7) h
        by_cases hc_10 : x1 = 39
        · have h := Eq.mp (if_pos hc_10) h
          refine st_tab (t := 83) rfl (by rw [hc_10]; rfl) ?_
          refine st_go 6 (pc' := 92) (lo' := [(0, .ref 19), (1, .int x1), (2, .int x2)]) (st' := [.int (((gF d 19 4) >>> ((3 : Int32) &&& 31)) &&& 7)]) rfl ?_
          exact st_retI rfl rfl (hQ _ _ h)
        · have h := Eq.mp (if_neg hc_10) h
          by_cases hc_11 : x1 = 40
          · have h := Eq.mp (if_pos hc_11) h
            refine st_tab (t := 93) rfl (by rw [hc_11]; rfl) ?_
            refine st_go 4 (pc' := 100) (lo' := [(0, .ref 19), (1, .int x1), (2, .int x2)]) (st' := [.int ((gF d 19 4) &&& 56)]) rfl ?_
            exact st_retI rfl rfl (hQ _ _ h)
          · have h := Eq.mp (if_neg hc_11) h
            by_cases hc_12 : x1 = 41
            · have h := Eq.mp (if_pos hc_12) h
              refine st_tab (t := 101) rfl (by rw [hc_12]; rfl) ?_
              refine st_go 10 (pc' := 116) (lo' := [(0, .ref 19), (1, .int x1), (2, .int x2)]) (st' := [.int (if ((((gF d 19 4) >>> ((3 : Int32) &&& 31)) &&& 7) - 1) < 0 then 0 else ((((gF d 19 4) >>> ((3 : Int32) &&& 31)) &&& 7) - 1))]) rfl ?_
              exact st_retI rfl rfl (hQ _ _ h)
            · have h := Eq.mp (if_neg hc_12) h
              by_cases hc_13 : x1 = 42
              · have h := Eq.mp (if_pos hc_13) h
                refine st_tab (t := 48) rfl (by rw [hc_13]; rfl) ?_
                refine st_go 3 (pc' := 53) (lo' := [(0, .ref 19), (1, .int x1), (2, .int x2)]) (st' := [.int x2, .ref 1]) rfl ?_
                refine st_calli (k' := 128) (as := [.ref 1, .int x2]) (rest := []) (lo' := [(0, .ref 1), (1, .int x2)]) (wf := fun d => wC L d e) rfl rfl rfl ?_
                refine tMemory_at (fun r_15 d_14 h => ⟨r_15, d_14, rfl, rfl, ?_⟩) x2 d h
                exact st_retI rfl rfl (hQ _ _ h)
              · have h := Eq.mp (if_neg hc_13) h
                by_cases hc_16 : x1 = 43
                · have h := Eq.mp (if_pos hc_16) h
                  refine st_tab (t := 57) rfl (by rw [hc_16]; rfl) ?_
                  refine st_go 3 (pc' := 62) (lo' := [(0, .ref 19), (1, .int x1), (2, .int x2)]) (st' := [.int x2, .ref 1]) rfl ?_
                  refine st_calli (k' := 129) (as := [.ref 1, .int x2]) (rest := []) (lo' := [(0, .ref 1), (1, .int x2)]) (wf := fun d => wC L d e) rfl rfl rfl ?_
                  refine tMemory_wordAt (fun r_18 d_17 h => ⟨r_18, d_17, rfl, rfl, ?_⟩) x2 d h
                  exact st_retI rfl rfl (hQ _ _ h)
                · have h := Eq.mp (if_neg hc_16) h
                  refine st_tab (t := 117) rfl (tab_def rfl (by decide) rfl (by
                    intro j hj hx
                    have hj : j < 8 := hj
                    rcases (j = 0 ∨ j = 1 ∨ j = 2 ∨ j = 3 ∨ j = 4 ∨ j = 5 ∨ j = 6 ∨ j = 7 : Prop) |> fun _ => (show j = 0 ∨ j = 1 ∨ j = 2 ∨ j = 3 ∨ j = 4 ∨ j = 5 ∨ j = 6 ∨ j = 7 by omega) with rfl | rfl | rfl | rfl | rfl | rfl | rfl | rfl <;> first | rfl | exact absurd hx hc_1 | exact absurd hx hc_4 | exact absurd hx hc_7 | exact absurd hx hc_10 | exact absurd hx hc_11 | exact absurd hx hc_12 | exact absurd hx hc_13 | exact absurd hx hc_16)) ?_
                  refine st_go 1 (pc' := 118) (lo' := [(0, .ref 19), (1, .int x1), (2, .int x2)]) (st' := [.int 0]) rfl ?_
                  exact st_retI rfl rfl (hQ _ _ h)
set_option maxRecDepth 100000 in
def Shapes_word (x1 : Int32) (d : vmD) (Q : Int32 → vmD → Prop) : Prop :=
  Shapes_shapeAt x1 d fun r_2 d_1 =>
  Q (r_2 >>> ((16 : Int32) &&& 31)) d_1
set_option maxRecDepth 100000 in
set_option maxHeartbeats 4000000 in
theorem tShapes_word {L : Nat} {e : vmD} {Qo : Option Value → vmW → Prop} {Q : Int32 → vmD → Prop} (hQ : ∀ r d, Q r d → Qo (some (.int r)) (wC L d e)) (x1 : Int32) (d : vmD) (h : Shapes_word x1 d Q) : vmWp 182 0 [(0, .ref 15), (1, .int x1)] [] (wC L d e) Qo := by
  unfold Shapes_word at h
  refine st_go 2 (pc' := 2) (lo' := [(0, .ref 15), (1, .int x1)]) (st' := [.int x1, .ref 15]) rfl ?_
  refine st_calli (k' := 181) (as := [.ref 15, .int x1]) (rest := []) (lo' := [(0, .ref 15), (1, .int x1)]) (wf := fun d => wC L d e) rfl rfl rfl ?_
  refine tShapes_shapeAt (fun r_2 d_1 h => ⟨r_2, d_1, rfl, rfl, ?_⟩) x1 d h
  refine st_go 2 (pc' := 8) (lo' := [(0, .ref 15), (1, .int x1)]) (st' := [.int (r_2 >>> ((16 : Int32) &&& 31))]) rfl ?_
  exact st_retI rfl rfl (hQ _ _ h)
set_option maxRecDepth 100000 in
def Instruction_look_326 (s0 : Int32) (d : vmD) (Q : vmD → Prop) : Prop :=
  bnd (sF d 19 9 s0) fun d_41 =>
  Q d_41
set_option maxRecDepth 100000 in
set_option maxHeartbeats 4000000 in
theorem tInstruction_look_326 {L : Nat} {e : vmD} {Qo : Option Value → vmW → Prop} {Q : vmD → Prop} (hQ : ∀ d, Q d → Qo none (wC L d e)) (s0 : Int32) (d : vmD) (h : Instruction_look_326 s0 d Q) : vmWp 58 326 [] [.int s0, .ref 19] (wC L d e) Qo := by
  unfold Instruction_look_326 at h
  refine st_putIC (o := 19) (f := 9) rfl rfl rfl rfl rfl (fun d_41 hy_d_41 => ?_)
  have h := h d_41 hy_d_41
  exact st_retV rfl rfl (hQ _ h)
set_option maxRecDepth 100000 in
def Instruction_look_317 (x6 : Int32) (s0 : Int32) (d : vmD) (Q : vmD → Prop) : Prop :=
  Instruction_numberOf s0 x6 d fun r_46 d_45 =>
  Instruction_look_326 r_46 d_45 Q
set_option maxRecDepth 100000 in
set_option maxHeartbeats 4000000 in
theorem tInstruction_look_317 {L : Nat} {e : vmD} {Qo : Option Value → vmW → Prop} {Q : vmD → Prop} (hQ : ∀ d, Q d → Qo none (wC L d e)) (x6 : Int32) (s0 : Int32) (d : vmD) (h : Instruction_look_317 x6 s0 d Q) : vmWp 58 317 [(6, .int x6)] [.int s0, .ref 19, .ref 19] (wC L d e) Qo := by
  unfold Instruction_look_317 at h
  refine st_go 1 (pc' := 319) (lo' := [(6, .int x6)]) (st' := [.int x6, .int s0, .ref 19, .ref 19]) rfl ?_
  refine st_calli (k' := 62) (as := [.ref 19, .int s0, .int x6]) (rest := [.ref 19]) (lo' := [(0, .ref 19), (1, .int s0), (2, .int x6)]) (wf := fun d => wC L d e) rfl rfl rfl ?_
  refine tInstruction_numberOf (fun r_46 d_45 h => ⟨r_46, d_45, rfl, rfl, ?_⟩) s0 x6 d h
  refine st_go 1 (pc' := 326) (lo' := [(6, .int x6)]) (st' := [.int r_46, .ref 19]) rfl ?_
  refine vmWp.sub (lo' := []) trivial ?_
  exact tInstruction_look_326 hQ r_46 d_45 h
set_option maxRecDepth 100000 in
def Instruction_look_287 (x2 : Int32) (x6 : Int32) (d : vmD) (Q : vmD → Prop) : Prop :=
  if (gF d 19 3) = 0 then
  (Instruction_look_326 x2 d Q)
  else
  (Instruction_isNumber (gF d 19 6) d fun r_43 d_42 =>
  if r_43 = 0 then
  (Instruction_look_317 x6 (gF d_42 19 7) d_42 Q)
  else
  (Instruction_look_317 x6 (gF d_42 19 6) d_42 Q))
set_option maxRecDepth 100000 in
set_option maxHeartbeats 4000000 in
theorem tInstruction_look_287 {L : Nat} {e : vmD} {Qo : Option Value → vmW → Prop} {Q : vmD → Prop} (hQ : ∀ d, Q d → Qo none (wC L d e)) (x2 : Int32) (x6 : Int32) (d : vmD) (h : Instruction_look_287 x2 x6 d Q) : vmWp 58 287 [(0, .ref 19), (2, .int x2), (6, .int x6)] [] (wC L d e) Qo := by
  unfold Instruction_look_287 at h
  refine st_go 3 (pc' := 292) (lo' := [(0, .ref 19), (2, .int x2), (6, .int x6)]) (st' := [.int (gF d 19 3), .ref 19]) rfl ?_
  by_cases hc_40 : (gF d 19 3) = 0
  · have h := Eq.mp (if_pos hc_40) h
    refine st_if (t := 325) (b := true) rfl (decide_eq_true hc_40) rfl ?_
    refine st_go 1 (pc' := 326) (lo' := [(0, .ref 19), (2, .int x2), (6, .int x6)]) (st' := [.int x2, .ref 19]) rfl ?_
    refine vmWp.sub (lo' := []) trivial ?_
    exact tInstruction_look_326 hQ x2 d h
  · have h := Eq.mp (if_neg hc_40) h
    refine st_if (t := 295) (b := false) rfl (decide_eq_false hc_40) rfl ?_
    refine st_go 3 (pc' := 300) (lo' := [(0, .ref 19), (2, .int x2), (6, .int x6)]) (st' := [.int (gF d 19 6), .ref 19, .ref 19]) rfl ?_
    refine st_calli (k' := 61) (as := [.int (gF d 19 6)]) (rest := [.ref 19, .ref 19]) (lo' := [(0, .int (gF d 19 6))]) (wf := fun d => wC L d e) rfl rfl rfl ?_
    refine tInstruction_isNumber (fun r_43 d_42 h => ⟨r_43, d_42, rfl, rfl, ?_⟩) (gF d 19 6) d h
    by_cases hc_44 : r_43 = 0
    · have h := Eq.mp (if_pos hc_44) h
      refine st_if (t := 313) (b := true) rfl (decide_eq_true hc_44) rfl ?_
      refine st_go 2 (pc' := 317) (lo' := [(0, .ref 19), (2, .int x2), (6, .int x6)]) (st' := [.int (gF d_42 19 7), .ref 19, .ref 19]) rfl ?_
      refine vmWp.sub (lo' := [(6, .int x6)]) ⟨rfl, trivial⟩ ?_
      exact tInstruction_look_317 hQ x6 (gF d_42 19 7) d_42 h
    · have h := Eq.mp (if_neg hc_44) h
      refine st_if (t := 306) (b := false) rfl (decide_eq_false hc_44) rfl ?_
      refine st_go 3 (pc' := 317) (lo' := [(0, .ref 19), (2, .int x2), (6, .int x6)]) (st' := [.int (gF d_42 19 6), .ref 19, .ref 19]) rfl ?_
      refine vmWp.sub (lo' := [(6, .int x6)]) ⟨rfl, trivial⟩ ?_
      exact tInstruction_look_317 hQ x6 (gF d_42 19 6) d_42 h
set_option maxRecDepth 100000 in
def Instruction_look_284 (x2 : Int32) (x6 : Int32) (d : vmD) (Q : vmD → Prop) : Prop :=
  bnd (x6 + 1) fun x6_48 =>
  Instruction_look_287 x2 x6_48 d Q
set_option maxRecDepth 100000 in
set_option maxHeartbeats 4000000 in
theorem tInstruction_look_284 {L : Nat} {e : vmD} {Qo : Option Value → vmW → Prop} {Q : vmD → Prop} (hQ : ∀ d, Q d → Qo none (wC L d e)) (x2 : Int32) (x6 : Int32) (d : vmD) (h : Instruction_look_284 x2 x6 d Q) : vmWp 58 284 [(0, .ref 19), (2, .int x2), (6, .int x6)] [] (wC L d e) Qo := by
  unfold Instruction_look_284 at h
  refine st_go 1 (pc' := 287) (lo' := [(6, .int (x6 + 1)), (0, .ref 19), (2, .int x2)]) (st' := []) rfl ?_
  refine st_locI (fun x6_48 hy_x6_48 => ?_)
  have h := h x6_48 hy_x6_48
  refine vmWp.sub (lo' := [(0, .ref 19), (2, .int x2), (6, .int x6_48)]) ⟨rfl, rfl, rfl, trivial⟩ ?_
  exact tInstruction_look_287 hQ x2 x6_48 d h
set_option maxRecDepth 100000 in
def Instruction_look_269 (x2 : Int32) (x6 : Int32) (x7 : Int32) (d : vmD) (Q : vmD → Prop) : Prop :=
  Instruction_isNear (gF d 19 7) d fun r_38 d_37 =>
  if r_38 = 0 then
  (Instruction_look_287 x2 x6 d_37 Q)
  else
  (if x7 = 0 then
  (Instruction_look_284 x2 x6 d_37 Q)
  else
  (Instruction_look_287 x2 x6 d_37 Q))
set_option maxRecDepth 100000 in
set_option maxHeartbeats 4000000 in
theorem tInstruction_look_269 {L : Nat} {e : vmD} {Qo : Option Value → vmW → Prop} {Q : vmD → Prop} (hQ : ∀ d, Q d → Qo none (wC L d e)) (x2 : Int32) (x6 : Int32) (x7 : Int32) (d : vmD) (h : Instruction_look_269 x2 x6 x7 d Q) : vmWp 58 269 [(0, .ref 19), (2, .int x2), (6, .int x6), (7, .int x7)] [] (wC L d e) Qo := by
  unfold Instruction_look_269 at h
  refine st_go 2 (pc' := 273) (lo' := [(0, .ref 19), (2, .int x2), (6, .int x6), (7, .int x7)]) (st' := [.int (gF d 19 7)]) rfl ?_
  refine st_calli (k' := 60) (as := [.int (gF d 19 7)]) (rest := []) (lo' := [(0, .int (gF d 19 7))]) (wf := fun d => wC L d e) rfl rfl rfl ?_
  refine tInstruction_isNear (fun r_38 d_37 h => ⟨r_38, d_37, rfl, rfl, ?_⟩) (gF d 19 7) d h
  by_cases hc_39 : r_38 = 0
  · have h := Eq.mp (if_pos hc_39) h
    refine st_if (t := 287) (b := true) rfl (decide_eq_true hc_39) rfl ?_
    refine vmWp.sub (lo' := [(0, .ref 19), (2, .int x2), (6, .int x6)]) ⟨rfl, rfl, rfl, trivial⟩ ?_
    exact tInstruction_look_287 hQ x2 x6 d_37 h
  · have h := Eq.mp (if_neg hc_39) h
    refine st_if (t := 279) (b := false) rfl (decide_eq_false hc_39) rfl ?_
    refine st_go 1 (pc' := 281) (lo' := [(0, .ref 19), (2, .int x2), (6, .int x6), (7, .int x7)]) (st' := [.int x7]) rfl ?_
    by_cases hc_47 : x7 = 0
    · have h := Eq.mp (if_pos hc_47) h
      refine st_if (t := 284) (b := false) rfl (decide_eq_false (fun z => z hc_47)) rfl ?_
      refine vmWp.sub (lo' := [(0, .ref 19), (2, .int x2), (6, .int x6)]) ⟨rfl, rfl, rfl, trivial⟩ ?_
      exact tInstruction_look_284 hQ x2 x6 d_37 h
    · have h := Eq.mp (if_neg hc_47) h
      refine st_if (t := 287) (b := true) rfl (decide_eq_true hc_47) rfl ?_
      refine vmWp.sub (lo' := [(0, .ref 19), (2, .int x2), (6, .int x6)]) ⟨rfl, rfl, rfl, trivial⟩ ?_
      exact tInstruction_look_287 hQ x2 x6 d_37 h
set_option maxRecDepth 100000 in
def Instruction_look_247 (x2 : Int32) (x6 : Int32) (x7 : Int32) (s0 : Int32) (d : vmD) (Q : vmD → Prop) : Prop :=
  Memory_at s0 d fun r_32 d_31 =>
  bnd (sF d_31 19 8 (Int8.toInt32 (Int32.toInt8 r_32))) fun d_33 =>
  Instruction_isNear (gF d_33 19 6) d_33 fun r_35 d_34 =>
  if r_35 = 0 then
  (Instruction_look_269 x2 x6 x7 d_34 Q)
  else
  (if x7 = 0 then
  (Instruction_look_284 x2 x6 d_34 Q)
  else
  (Instruction_look_269 x2 x6 x7 d_34 Q))
set_option maxRecDepth 100000 in
set_option maxHeartbeats 4000000 in
theorem tInstruction_look_247 {L : Nat} {e : vmD} {Qo : Option Value → vmW → Prop} {Q : vmD → Prop} (hQ : ∀ d, Q d → Qo none (wC L d e)) (x2 : Int32) (x6 : Int32) (x7 : Int32) (s0 : Int32) (d : vmD) (h : Instruction_look_247 x2 x6 x7 s0 d Q) : vmWp 58 247 [(0, .ref 19), (2, .int x2), (6, .int x6), (7, .int x7)] [.int s0, .ref 1, .ref 19] (wC L d e) Qo := by
  unfold Instruction_look_247 at h
  refine st_calli (k' := 128) (as := [.ref 1, .int s0]) (rest := [.ref 19]) (lo' := [(0, .ref 1), (1, .int s0)]) (wf := fun d => wC L d e) rfl rfl rfl ?_
  refine tMemory_at (fun r_32 d_31 h => ⟨r_32, d_31, rfl, rfl, ?_⟩) s0 d h
  refine st_go 1 (pc' := 251) (lo' := [(0, .ref 19), (2, .int x2), (6, .int x6), (7, .int x7)]) (st' := [.int (Int8.toInt32 (Int32.toInt8 r_32)), .ref 19]) rfl ?_
  refine st_putIC (o := 19) (f := 8) rfl rfl rfl rfl rfl (fun d_33 hy_d_33 => ?_)
  have h := h d_33 hy_d_33
  refine st_go 2 (pc' := 258) (lo' := [(0, .ref 19), (2, .int x2), (6, .int x6), (7, .int x7)]) (st' := [.int (gF d_33 19 6)]) rfl ?_
  refine st_calli (k' := 60) (as := [.int (gF d_33 19 6)]) (rest := []) (lo' := [(0, .int (gF d_33 19 6))]) (wf := fun d => wC L d e) rfl rfl rfl ?_
  refine tInstruction_isNear (fun r_35 d_34 h => ⟨r_35, d_34, rfl, rfl, ?_⟩) (gF d_33 19 6) d_33 h
  by_cases hc_36 : r_35 = 0
  · have h := Eq.mp (if_pos hc_36) h
    refine st_if (t := 269) (b := true) rfl (decide_eq_true hc_36) rfl ?_
    refine vmWp.sub (lo' := [(0, .ref 19), (2, .int x2), (6, .int x6), (7, .int x7)]) ⟨rfl, rfl, rfl, rfl, trivial⟩ ?_
    exact tInstruction_look_269 hQ x2 x6 x7 d_34 h
  · have h := Eq.mp (if_neg hc_36) h
    refine st_if (t := 264) (b := false) rfl (decide_eq_false hc_36) rfl ?_
    refine st_go 1 (pc' := 266) (lo' := [(0, .ref 19), (2, .int x2), (6, .int x6), (7, .int x7)]) (st' := [.int x7]) rfl ?_
    by_cases hc_49 : x7 = 0
    · have h := Eq.mp (if_pos hc_49) h
      refine st_if (t := 284) (b := true) rfl (decide_eq_true hc_49) rfl ?_
      refine vmWp.sub (lo' := [(0, .ref 19), (2, .int x2), (6, .int x6)]) ⟨rfl, rfl, rfl, trivial⟩ ?_
      exact tInstruction_look_284 hQ x2 x6 d_34 h
    · have h := Eq.mp (if_neg hc_49) h
      refine st_if (t := 269) (b := false) rfl (decide_eq_false hc_49) rfl ?_
      refine vmWp.sub (lo' := [(0, .ref 19), (2, .int x2), (6, .int x6), (7, .int x7)]) ⟨rfl, rfl, rfl, rfl, trivial⟩ ?_
      exact tInstruction_look_269 hQ x2 x6 x7 d_34 h
set_option maxRecDepth 100000 in
def Instruction_look_226 (x2 : Int32) (x4 : Int32) (x6 : Int32) (s0 : Int32) (d : vmD) (Q : vmD → Prop) : Prop :=
  if s0 = 0 then
  (Instruction_look_247 x2 x6 s0 x6 d Q)
  else
  (Instruction_look_247 x2 x6 s0 (x4 - 1) d Q)
set_option maxRecDepth 100000 in
set_option maxHeartbeats 4000000 in
theorem tInstruction_look_226 {L : Nat} {e : vmD} {Qo : Option Value → vmW → Prop} {Q : vmD → Prop} (hQ : ∀ d, Q d → Qo none (wC L d e)) (x2 : Int32) (x4 : Int32) (x6 : Int32) (s0 : Int32) (d : vmD) (h : Instruction_look_226 x2 x4 x6 s0 d Q) : vmWp 58 226 [(0, .ref 19), (2, .int x2), (4, .int x4), (6, .int x6)] [.int s0] (wC L d e) Qo := by
  unfold Instruction_look_226 at h
  refine st_go 5 (pc' := 235) (lo' := [(7, .int s0), (0, .ref 19), (2, .int x2), (4, .int x4), (6, .int x6)]) (st' := [.int s0, .ref 1, .ref 19]) rfl ?_
  by_cases hc_30 : s0 = 0
  · have h := Eq.mp (if_pos hc_30) h
    refine st_if (t := 245) (b := true) rfl (decide_eq_true hc_30) rfl ?_
    refine st_go 1 (pc' := 247) (lo' := [(7, .int s0), (0, .ref 19), (2, .int x2), (4, .int x4), (6, .int x6)]) (st' := [.int x6, .ref 1, .ref 19]) rfl ?_
    refine vmWp.sub (lo' := [(0, .ref 19), (2, .int x2), (6, .int x6), (7, .int s0)]) ⟨rfl, rfl, rfl, rfl, trivial⟩ ?_
    exact tInstruction_look_247 hQ x2 x6 s0 x6 d h
  · have h := Eq.mp (if_neg hc_30) h
    refine st_if (t := 238) (b := false) rfl (decide_eq_false hc_30) rfl ?_
    refine st_go 4 (pc' := 247) (lo' := [(7, .int s0), (0, .ref 19), (2, .int x2), (4, .int x4), (6, .int x6)]) (st' := [.int (x4 - 1), .ref 1, .ref 19]) rfl ?_
    refine vmWp.sub (lo' := [(0, .ref 19), (2, .int x2), (6, .int x6), (7, .int s0)]) ⟨rfl, rfl, rfl, rfl, trivial⟩ ?_
    exact tInstruction_look_247 hQ x2 x6 s0 (x4 - 1) d h
set_option maxRecDepth 100000 in
def Instruction_look_221 (x2 : Int32) (x4 : Int32) (x6 : Int32) (d : vmD) (Q : vmD → Prop) : Prop :=
  Instruction_look_226 x2 x4 x6 1 d Q
set_option maxRecDepth 100000 in
set_option maxHeartbeats 4000000 in
theorem tInstruction_look_221 {L : Nat} {e : vmD} {Qo : Option Value → vmW → Prop} {Q : vmD → Prop} (hQ : ∀ d, Q d → Qo none (wC L d e)) (x2 : Int32) (x4 : Int32) (x6 : Int32) (d : vmD) (h : Instruction_look_221 x2 x4 x6 d Q) : vmWp 58 221 [(0, .ref 19), (2, .int x2), (4, .int x4), (6, .int x6)] [] (wC L d e) Qo := by
  unfold Instruction_look_221 at h
  refine st_go 2 (pc' := 226) (lo' := [(0, .ref 19), (2, .int x2), (4, .int x4), (6, .int x6)]) (st' := [.int 1]) rfl ?_
  refine vmWp.sub (lo' := [(0, .ref 19), (2, .int x2), (4, .int x4), (6, .int x6)]) ⟨rfl, rfl, rfl, rfl, trivial⟩ ?_
  exact tInstruction_look_226 hQ x2 x4 x6 1 d h
set_option maxRecDepth 100000 in
def Instruction_look_201 (x2 : Int32) (x3 : Int32) (x4 : Int32) (s0 : Int32) (d : vmD) (Q : vmD → Prop) : Prop :=
  bnd (sF d 19 10 s0) fun d_27 =>
  bnd (x4 + 1) fun x6_28 =>
  if x3 = 5 then
  (Instruction_look_221 x2 x4 x6_28 d_27 Q)
  else
  (if x3 = 6 then
  (Instruction_look_221 x2 x4 x6_28 d_27 Q)
  else
  (Instruction_look_226 x2 x4 x6_28 0 d_27 Q))
set_option maxRecDepth 100000 in
set_option maxHeartbeats 4000000 in
theorem tInstruction_look_201 {L : Nat} {e : vmD} {Qo : Option Value → vmW → Prop} {Q : vmD → Prop} (hQ : ∀ d, Q d → Qo none (wC L d e)) (x2 : Int32) (x3 : Int32) (x4 : Int32) (s0 : Int32) (d : vmD) (h : Instruction_look_201 x2 x3 x4 s0 d Q) : vmWp 58 201 [(0, .ref 19), (2, .int x2), (3, .int x3), (4, .int x4)] [.int s0, .ref 19] (wC L d e) Qo := by
  unfold Instruction_look_201 at h
  refine st_putIC (o := 19) (f := 10) rfl rfl rfl rfl rfl (fun d_27 hy_d_27 => ?_)
  have h := h d_27 hy_d_27
  refine st_go 4 (pc' := 210) (lo' := [(6, .int (x4 + 1)), (0, .ref 19), (2, .int x2), (3, .int x3), (4, .int x4)]) (st' := []) rfl ?_
  refine st_locI (fun x6_28 hy_x6_28 => ?_)
  have h := h x6_28 hy_x6_28
  refine st_go 2 (pc' := 212) (lo' := [(6, .int x6_28), (0, .ref 19), (2, .int x2), (3, .int x3), (4, .int x4)]) (st' := [.int 5, .int x3]) rfl ?_
  by_cases hc_29 : x3 = 5
  · have h := Eq.mp (if_pos hc_29) h
    refine st_icmp (t := 221) (b := true) rfl (decide_eq_true hc_29) rfl ?_
    refine vmWp.sub (lo' := [(0, .ref 19), (2, .int x2), (4, .int x4), (6, .int x6_28)]) ⟨rfl, rfl, rfl, rfl, trivial⟩ ?_
    exact tInstruction_look_221 hQ x2 x4 x6_28 d_27 h
  · have h := Eq.mp (if_neg hc_29) h
    refine st_icmp (t := 215) (b := false) rfl (decide_eq_false hc_29) rfl ?_
    refine st_go 2 (pc' := 218) (lo' := [(6, .int x6_28), (0, .ref 19), (2, .int x2), (3, .int x3), (4, .int x4)]) (st' := [.int 6, .int x3]) rfl ?_
    by_cases hc_50 : x3 = 6
    · have h := Eq.mp (if_pos hc_50) h
      refine st_icmp (t := 221) (b := false) rfl (decide_eq_false (fun z => z hc_50)) rfl ?_
      refine vmWp.sub (lo' := [(0, .ref 19), (2, .int x2), (4, .int x4), (6, .int x6_28)]) ⟨rfl, rfl, rfl, rfl, trivial⟩ ?_
      exact tInstruction_look_221 hQ x2 x4 x6_28 d_27 h
    · have h := Eq.mp (if_neg hc_50) h
      refine st_icmp (t := 225) (b := true) rfl (decide_eq_true hc_50) rfl ?_
      refine st_go 1 (pc' := 226) (lo' := [(6, .int x6_28), (0, .ref 19), (2, .int x2), (3, .int x3), (4, .int x4)]) (st' := [.int 0]) rfl ?_
      refine vmWp.sub (lo' := [(0, .ref 19), (2, .int x2), (4, .int x4), (6, .int x6_28)]) ⟨rfl, rfl, rfl, rfl, trivial⟩ ?_
      exact tInstruction_look_226 hQ x2 x4 x6_28 0 d_27 h
set_option maxRecDepth 100000 in
def Instruction_look_177 (x2 : Int32) (x3 : Int32) (x4 : Int32) (x5 : Int32) (s0 : Int32) (d : vmD) (Q : vmD → Prop) : Prop :=
  bnd (sF d 19 7 s0) fun d_25 =>
  if (gF d_25 19 3) = 0 then
  (Instruction_look_201 x2 x3 x4 1 d_25 Q)
  else
  (Shapes_size x5 d_25 fun r_52 d_51 =>
  Instruction_look_201 x2 x3 x4 r_52 d_51 Q)
set_option maxRecDepth 100000 in
set_option maxHeartbeats 4000000 in
theorem tInstruction_look_177 {L : Nat} {e : vmD} {Qo : Option Value → vmW → Prop} {Q : vmD → Prop} (hQ : ∀ d, Q d → Qo none (wC L d e)) (x2 : Int32) (x3 : Int32) (x4 : Int32) (x5 : Int32) (s0 : Int32) (d : vmD) (h : Instruction_look_177 x2 x3 x4 x5 s0 d Q) : vmWp 58 177 [(0, .ref 19), (2, .int x2), (3, .int x3), (4, .int x4), (5, .int x5)] [.int s0, .ref 19] (wC L d e) Qo := by
  unfold Instruction_look_177 at h
  refine st_putIC (o := 19) (f := 7) rfl rfl rfl rfl rfl (fun d_25 hy_d_25 => ?_)
  have h := h d_25 hy_d_25
  refine st_go 3 (pc' := 185) (lo' := [(0, .ref 19), (2, .int x2), (3, .int x3), (4, .int x4), (5, .int x5)]) (st' := [.int (gF d_25 19 3), .ref 19]) rfl ?_
  by_cases hc_26 : (gF d_25 19 3) = 0
  · have h := Eq.mp (if_pos hc_26) h
    refine st_if (t := 200) (b := true) rfl (decide_eq_true hc_26) rfl ?_
    refine st_go 1 (pc' := 201) (lo' := [(0, .ref 19), (2, .int x2), (3, .int x3), (4, .int x4), (5, .int x5)]) (st' := [.int 1, .ref 19]) rfl ?_
    refine vmWp.sub (lo' := [(0, .ref 19), (2, .int x2), (3, .int x3), (4, .int x4)]) ⟨rfl, rfl, rfl, rfl, trivial⟩ ?_
    exact tInstruction_look_201 hQ x2 x3 x4 1 d_25 h
  · have h := Eq.mp (if_neg hc_26) h
    refine st_if (t := 188) (b := false) rfl (decide_eq_false hc_26) rfl ?_
    refine st_go 3 (pc' := 194) (lo' := [(0, .ref 19), (2, .int x2), (3, .int x3), (4, .int x4), (5, .int x5)]) (st' := [.int x5, .ref 15, .ref 19]) rfl ?_
    refine st_calli (k' := 186) (as := [.ref 15, .int x5]) (rest := [.ref 19]) (lo' := [(0, .ref 15), (1, .int x5)]) (wf := fun d => wC L d e) rfl rfl rfl ?_
    refine tShapes_size (fun r_52 d_51 h => ⟨r_52, d_51, rfl, rfl, ?_⟩) x5 d_25 h
    refine st_go 1 (pc' := 201) (lo' := [(0, .ref 19), (2, .int x2), (3, .int x3), (4, .int x4), (5, .int x5)]) (st' := [.int r_52, .ref 19]) rfl ?_
    refine vmWp.sub (lo' := [(0, .ref 19), (2, .int x2), (3, .int x3), (4, .int x4)]) ⟨rfl, rfl, rfl, rfl, trivial⟩ ?_
    exact tInstruction_look_201 hQ x2 x3 x4 r_52 d_51 h
set_option maxRecDepth 100000 in
def Instruction_look_152 (x2 : Int32) (x3 : Int32) (x4 : Int32) (x5 : Int32) (s0 : Int32) (d : vmD) (Q : vmD → Prop) : Prop :=
  bnd (sF d 19 6 s0) fun d_23 =>
  if (gF d_23 19 3) = 0 then
  (Instruction_look_177 x2 x3 x4 x5 0 d_23 Q)
  else
  (Shapes_kind x5 1 d_23 fun r_54 d_53 =>
  Instruction_look_177 x2 x3 x4 x5 r_54 d_53 Q)
set_option maxRecDepth 100000 in
set_option maxHeartbeats 4000000 in
theorem tInstruction_look_152 {L : Nat} {e : vmD} {Qo : Option Value → vmW → Prop} {Q : vmD → Prop} (hQ : ∀ d, Q d → Qo none (wC L d e)) (x2 : Int32) (x3 : Int32) (x4 : Int32) (x5 : Int32) (s0 : Int32) (d : vmD) (h : Instruction_look_152 x2 x3 x4 x5 s0 d Q) : vmWp 58 152 [(0, .ref 19), (2, .int x2), (3, .int x3), (4, .int x4), (5, .int x5)] [.int s0, .ref 19] (wC L d e) Qo := by
  unfold Instruction_look_152 at h
  refine st_putIC (o := 19) (f := 6) rfl rfl rfl rfl rfl (fun d_23 hy_d_23 => ?_)
  have h := h d_23 hy_d_23
  refine st_go 3 (pc' := 160) (lo' := [(0, .ref 19), (2, .int x2), (3, .int x3), (4, .int x4), (5, .int x5)]) (st' := [.int (gF d_23 19 3), .ref 19]) rfl ?_
  by_cases hc_24 : (gF d_23 19 3) = 0
  · have h := Eq.mp (if_pos hc_24) h
    refine st_if (t := 176) (b := true) rfl (decide_eq_true hc_24) rfl ?_
    refine st_go 1 (pc' := 177) (lo' := [(0, .ref 19), (2, .int x2), (3, .int x3), (4, .int x4), (5, .int x5)]) (st' := [.int 0, .ref 19]) rfl ?_
    refine vmWp.sub (lo' := [(0, .ref 19), (2, .int x2), (3, .int x3), (4, .int x4), (5, .int x5)]) ⟨rfl, rfl, rfl, rfl, rfl, trivial⟩ ?_
    exact tInstruction_look_177 hQ x2 x3 x4 x5 0 d_23 h
  · have h := Eq.mp (if_neg hc_24) h
    refine st_if (t := 163) (b := false) rfl (decide_eq_false hc_24) rfl ?_
    refine st_go 4 (pc' := 170) (lo' := [(0, .ref 19), (2, .int x2), (3, .int x3), (4, .int x4), (5, .int x5)]) (st' := [.int 1, .int x5, .ref 15, .ref 19]) rfl ?_
    refine st_calli (k' := 183) (as := [.ref 15, .int x5, .int 1]) (rest := [.ref 19]) (lo' := [(0, .ref 15), (1, .int x5), (2, .int 1)]) (wf := fun d => wC L d e) rfl rfl rfl ?_
    refine tShapes_kind (fun r_54 d_53 h => ⟨r_54, d_53, rfl, rfl, ?_⟩) x5 1 d_23 h
    refine st_go 1 (pc' := 177) (lo' := [(0, .ref 19), (2, .int x2), (3, .int x3), (4, .int x4), (5, .int x5)]) (st' := [.int r_54, .ref 19]) rfl ?_
    refine vmWp.sub (lo' := [(0, .ref 19), (2, .int x2), (3, .int x3), (4, .int x4), (5, .int x5)]) ⟨rfl, rfl, rfl, rfl, rfl, trivial⟩ ?_
    exact tInstruction_look_177 hQ x2 x3 x4 x5 r_54 d_53 h
set_option maxRecDepth 100000 in
def Instruction_look_126 (x2 : Int32) (x3 : Int32) (x4 : Int32) (x5 : Int32) (s0 : Int32) (d : vmD) (Q : vmD → Prop) : Prop :=
  bnd (sF d 19 5 s0) fun d_21 =>
  if (gF d_21 19 3) = 0 then
  (Instruction_look_152 x2 x3 x4 x5 36 d_21 Q)
  else
  (Shapes_kind x5 0 d_21 fun r_56 d_55 =>
  Instruction_look_152 x2 x3 x4 x5 r_56 d_55 Q)
set_option maxRecDepth 100000 in
set_option maxHeartbeats 4000000 in
theorem tInstruction_look_126 {L : Nat} {e : vmD} {Qo : Option Value → vmW → Prop} {Q : vmD → Prop} (hQ : ∀ d, Q d → Qo none (wC L d e)) (x2 : Int32) (x3 : Int32) (x4 : Int32) (x5 : Int32) (s0 : Int32) (d : vmD) (h : Instruction_look_126 x2 x3 x4 x5 s0 d Q) : vmWp 58 126 [(0, .ref 19), (2, .int x2), (3, .int x3), (4, .int x4), (5, .int x5)] [.int s0, .ref 19] (wC L d e) Qo := by
  unfold Instruction_look_126 at h
  refine st_putIC (o := 19) (f := 5) rfl rfl rfl rfl rfl (fun d_21 hy_d_21 => ?_)
  have h := h d_21 hy_d_21
  refine st_go 3 (pc' := 134) (lo' := [(0, .ref 19), (2, .int x2), (3, .int x3), (4, .int x4), (5, .int x5)]) (st' := [.int (gF d_21 19 3), .ref 19]) rfl ?_
  by_cases hc_22 : (gF d_21 19 3) = 0
  · have h := Eq.mp (if_pos hc_22) h
    refine st_if (t := 150) (b := true) rfl (decide_eq_true hc_22) rfl ?_
    refine st_go 1 (pc' := 152) (lo' := [(0, .ref 19), (2, .int x2), (3, .int x3), (4, .int x4), (5, .int x5)]) (st' := [.int 36, .ref 19]) rfl ?_
    refine vmWp.sub (lo' := [(0, .ref 19), (2, .int x2), (3, .int x3), (4, .int x4), (5, .int x5)]) ⟨rfl, rfl, rfl, rfl, rfl, trivial⟩ ?_
    exact tInstruction_look_152 hQ x2 x3 x4 x5 36 d_21 h
  · have h := Eq.mp (if_neg hc_22) h
    refine st_if (t := 137) (b := false) rfl (decide_eq_false hc_22) rfl ?_
    refine st_go 4 (pc' := 144) (lo' := [(0, .ref 19), (2, .int x2), (3, .int x3), (4, .int x4), (5, .int x5)]) (st' := [.int 0, .int x5, .ref 15, .ref 19]) rfl ?_
    refine st_calli (k' := 183) (as := [.ref 15, .int x5, .int 0]) (rest := [.ref 19]) (lo' := [(0, .ref 15), (1, .int x5), (2, .int 0)]) (wf := fun d => wC L d e) rfl rfl rfl ?_
    refine tShapes_kind (fun r_56 d_55 h => ⟨r_56, d_55, rfl, rfl, ?_⟩) x5 0 d_21 h
    refine st_go 1 (pc' := 152) (lo' := [(0, .ref 19), (2, .int x2), (3, .int x3), (4, .int x4), (5, .int x5)]) (st' := [.int r_56, .ref 19]) rfl ?_
    refine vmWp.sub (lo' := [(0, .ref 19), (2, .int x2), (3, .int x3), (4, .int x4), (5, .int x5)]) ⟨rfl, rfl, rfl, rfl, rfl, trivial⟩ ?_
    exact tInstruction_look_152 hQ x2 x3 x4 x5 r_56 d_55 h
set_option maxRecDepth 100000 in
def Instruction_look_67 (x2 : Int32) (x3 : Int32) (x4 : Int32) (d : vmD) (Q : vmD → Prop) : Prop :=
  Memory_at x4 d fun r_13 d_12 =>
  bnd (sF d_12 19 4 r_13) fun d_14 =>
  bnd ((x3 <<< ((8 : Int32) &&& 31)) ||| (gF d_14 19 4)) fun x5_15 =>
  Shapes_has x5_15 d_14 fun r_17 d_16 =>
  (r_17 = 0 ∨ r_17 = 1) ∧
  bnd (sF d_16 19 3 r_17) fun d_18 =>
  if (gF d_18 19 3) = 0 then
  (Instruction_look_126 x2 x3 x4 x5_15 101 d_18 Q)
  else
  (Shapes_word x5_15 d_18 fun r_58 d_57 =>
  Instruction_look_126 x2 x3 x4 x5_15 r_58 d_57 Q)
set_option maxRecDepth 100000 in
set_option maxHeartbeats 4000000 in
theorem tInstruction_look_67 {L : Nat} {e : vmD} {Qo : Option Value → vmW → Prop} {Q : vmD → Prop} (hQ : ∀ d, Q d → Qo none (wC L d e)) (x2 : Int32) (x3 : Int32) (x4 : Int32) (d : vmD) (h : Instruction_look_67 x2 x3 x4 d Q) : vmWp 58 67 [(0, .ref 19), (2, .int x2), (3, .int x3), (4, .int x4)] [] (wC L d e) Qo := by
  unfold Instruction_look_67 at h
  refine st_go 4 (pc' := 74) (lo' := [(0, .ref 19), (2, .int x2), (3, .int x3), (4, .int x4)]) (st' := [.int x4, .ref 1, .ref 19]) rfl ?_
  refine st_calli (k' := 128) (as := [.ref 1, .int x4]) (rest := [.ref 19]) (lo' := [(0, .ref 1), (1, .int x4)]) (wf := fun d => wC L d e) rfl rfl rfl ?_
  refine tMemory_at (fun r_13 d_12 h => ⟨r_13, d_12, rfl, rfl, ?_⟩) x4 d h
  refine st_putIC (o := 19) (f := 4) rfl rfl rfl rfl rfl (fun d_14 hy_d_14 => ?_)
  have h := h d_14 hy_d_14
  refine st_go 7 (pc' := 91) (lo' := [(5, .int ((x3 <<< ((8 : Int32) &&& 31)) ||| (gF d_14 19 4))), (0, .ref 19), (2, .int x2), (3, .int x3), (4, .int x4)]) (st' := []) rfl ?_
  refine st_locI (fun x5_15 hy_x5_15 => ?_)
  have h := h x5_15 hy_x5_15
  refine st_go 4 (pc' := 98) (lo' := [(5, .int x5_15), (0, .ref 19), (2, .int x2), (3, .int x3), (4, .int x4)]) (st' := [.int x5_15, .ref 15, .ref 19]) rfl ?_
  refine st_calli (k' := 180) (as := [.ref 15, .int x5_15]) (rest := [.ref 19]) (lo' := [(0, .ref 15), (1, .int x5_15)]) (wf := fun d => wC L d e) rfl rfl rfl ?_
  refine tShapes_has (fun r_17 d_16 h => ⟨r_17, d_16, rfl, rfl, ?_⟩) x5_15 d_14 h
  obtain ⟨hz_19, h⟩ := h
  refine st_putZC (o := 19) (f := 3) rfl rfl rfl rfl hz_19 rfl (fun d_18 hy_d_18 => ?_)
  have h := h d_18 hy_d_18
  refine st_go 3 (pc' := 109) (lo' := [(5, .int x5_15), (0, .ref 19), (2, .int x2), (3, .int x3), (4, .int x4)]) (st' := [.int (gF d_18 19 3), .ref 19]) rfl ?_
  by_cases hc_20 : (gF d_18 19 3) = 0
  · have h := Eq.mp (if_pos hc_20) h
    refine st_if (t := 124) (b := true) rfl (decide_eq_true hc_20) rfl ?_
    refine st_go 1 (pc' := 126) (lo' := [(5, .int x5_15), (0, .ref 19), (2, .int x2), (3, .int x3), (4, .int x4)]) (st' := [.int 101, .ref 19]) rfl ?_
    refine vmWp.sub (lo' := [(0, .ref 19), (2, .int x2), (3, .int x3), (4, .int x4), (5, .int x5_15)]) ⟨rfl, rfl, rfl, rfl, rfl, trivial⟩ ?_
    exact tInstruction_look_126 hQ x2 x3 x4 x5_15 101 d_18 h
  · have h := Eq.mp (if_neg hc_20) h
    refine st_if (t := 112) (b := false) rfl (decide_eq_false hc_20) rfl ?_
    refine st_go 3 (pc' := 118) (lo' := [(5, .int x5_15), (0, .ref 19), (2, .int x2), (3, .int x3), (4, .int x4)]) (st' := [.int x5_15, .ref 15, .ref 19]) rfl ?_
    refine st_calli (k' := 182) (as := [.ref 15, .int x5_15]) (rest := [.ref 19]) (lo' := [(0, .ref 15), (1, .int x5_15)]) (wf := fun d => wC L d e) rfl rfl rfl ?_
    refine tShapes_word (fun r_58 d_57 h => ⟨r_58, d_57, rfl, rfl, ?_⟩) x5_15 d_18 h
    refine st_go 1 (pc' := 126) (lo' := [(5, .int x5_15), (0, .ref 19), (2, .int x2), (3, .int x3), (4, .int x4)]) (st' := [.int r_58, .ref 19]) rfl ?_
    refine vmWp.sub (lo' := [(0, .ref 19), (2, .int x2), (3, .int x3), (4, .int x4), (5, .int x5_15)]) ⟨rfl, rfl, rfl, rfl, rfl, trivial⟩ ?_
    exact tInstruction_look_126 hQ x2 x3 x4 x5_15 r_58 d_57 h
set_option maxRecDepth 100000 in
def Instruction_look_63 (x2 : Int32) (x4 : Int32) (s0 : Int32) (d : vmD) (Q : vmD → Prop) : Prop :=
  bnd (x4 + 2) fun x4_11 =>
  Instruction_look_67 x2 s0 x4_11 d Q
set_option maxRecDepth 100000 in
set_option maxHeartbeats 4000000 in
theorem tInstruction_look_63 {L : Nat} {e : vmD} {Qo : Option Value → vmW → Prop} {Q : vmD → Prop} (hQ : ∀ d, Q d → Qo none (wC L d e)) (x2 : Int32) (x4 : Int32) (s0 : Int32) (d : vmD) (h : Instruction_look_63 x2 x4 s0 d Q) : vmWp 58 63 [(0, .ref 19), (2, .int x2), (4, .int x4)] [.int s0] (wC L d e) Qo := by
  unfold Instruction_look_63 at h
  refine st_go 2 (pc' := 67) (lo' := [(4, .int (x4 + 2)), (3, .int s0), (0, .ref 19), (2, .int x2)]) (st' := []) rfl ?_
  refine st_locI (fun x4_11 hy_x4_11 => ?_)
  have h := h x4_11 hy_x4_11
  refine vmWp.sub (lo' := [(0, .ref 19), (2, .int x2), (3, .int s0), (4, .int x4_11)]) ⟨rfl, rfl, rfl, rfl, trivial⟩ ?_
  exact tInstruction_look_67 hQ x2 s0 x4_11 d h
set_option maxRecDepth 100000 in
def Instruction_look_37 (x2 : Int32) (x3 : Int32) (x4 : Int32) (d : vmD) (Q : vmD → Prop) : Prop :=
  Memory_at x4 d fun r_8 d_7 =>
  if r_8 = 203 then
  (if x3 = 3 then
  (Instruction_look_63 x2 x4 5 d_7 Q)
  else
  (Instruction_look_63 x2 x4 6 d_7 Q))
  else
  (Instruction_look_67 x2 x3 x4 d_7 Q)
set_option maxRecDepth 100000 in
set_option maxHeartbeats 4000000 in
theorem tInstruction_look_37 {L : Nat} {e : vmD} {Qo : Option Value → vmW → Prop} {Q : vmD → Prop} (hQ : ∀ d, Q d → Qo none (wC L d e)) (x2 : Int32) (x3 : Int32) (x4 : Int32) (d : vmD) (h : Instruction_look_37 x2 x3 x4 d Q) : vmWp 58 37 [(0, .ref 19), (2, .int x2), (3, .int x3), (4, .int x4)] [] (wC L d e) Qo := by
  unfold Instruction_look_37 at h
  refine st_go 3 (pc' := 43) (lo' := [(0, .ref 19), (2, .int x2), (3, .int x3), (4, .int x4)]) (st' := [.int x4, .ref 1]) rfl ?_
  refine st_calli (k' := 128) (as := [.ref 1, .int x4]) (rest := []) (lo' := [(0, .ref 1), (1, .int x4)]) (wf := fun d => wC L d e) rfl rfl rfl ?_
  refine tMemory_at (fun r_8 d_7 h => ⟨r_8, d_7, rfl, rfl, ?_⟩) x4 d h
  refine st_go 1 (pc' := 49) (lo' := [(0, .ref 19), (2, .int x2), (3, .int x3), (4, .int x4)]) (st' := [.int 203, .int r_8]) rfl ?_
  by_cases hc_9 : r_8 = 203
  · have h := Eq.mp (if_pos hc_9) h
    refine st_icmp (t := 52) (b := false) rfl (decide_eq_false (fun z => z hc_9)) rfl ?_
    refine st_go 2 (pc' := 54) (lo' := [(0, .ref 19), (2, .int x2), (3, .int x3), (4, .int x4)]) (st' := [.int 3, .int x3]) rfl ?_
    by_cases hc_10 : x3 = 3
    · have h := Eq.mp (if_pos hc_10) h
      refine st_icmp (t := 57) (b := false) rfl (decide_eq_false (fun z => z hc_10)) rfl ?_
      refine st_go 2 (pc' := 63) (lo' := [(0, .ref 19), (2, .int x2), (3, .int x3), (4, .int x4)]) (st' := [.int 5]) rfl ?_
      refine vmWp.sub (lo' := [(0, .ref 19), (2, .int x2), (4, .int x4)]) ⟨rfl, rfl, rfl, trivial⟩ ?_
      exact tInstruction_look_63 hQ x2 x4 5 d_7 h
    · have h := Eq.mp (if_neg hc_10) h
      refine st_icmp (t := 61) (b := true) rfl (decide_eq_true hc_10) rfl ?_
      refine st_go 1 (pc' := 63) (lo' := [(0, .ref 19), (2, .int x2), (3, .int x3), (4, .int x4)]) (st' := [.int 6]) rfl ?_
      refine vmWp.sub (lo' := [(0, .ref 19), (2, .int x2), (4, .int x4)]) ⟨rfl, rfl, rfl, trivial⟩ ?_
      exact tInstruction_look_63 hQ x2 x4 6 d_7 h
  · have h := Eq.mp (if_neg hc_9) h
    refine st_icmp (t := 67) (b := true) rfl (decide_eq_true hc_9) rfl ?_
    refine vmWp.sub (lo' := [(0, .ref 19), (2, .int x2), (3, .int x3), (4, .int x4)]) ⟨rfl, rfl, rfl, rfl, trivial⟩ ?_
    exact tInstruction_look_67 hQ x2 x3 x4 d_7 h
set_option maxRecDepth 100000 in
def Instruction_look_25 (x2 : Int32) (x3 : Int32) (s0 : Int32) (d : vmD) (Q : vmD → Prop) : Prop :=
  if x3 = 3 then
  (Instruction_look_37 x2 x3 s0 d Q)
  else
  (if x3 = 4 then
  (Instruction_look_37 x2 x3 s0 d Q)
  else
  (Instruction_look_67 x2 x3 s0 d Q))
set_option maxRecDepth 100000 in
set_option maxHeartbeats 4000000 in
theorem tInstruction_look_25 {L : Nat} {e : vmD} {Qo : Option Value → vmW → Prop} {Q : vmD → Prop} (hQ : ∀ d, Q d → Qo none (wC L d e)) (x2 : Int32) (x3 : Int32) (s0 : Int32) (d : vmD) (h : Instruction_look_25 x2 x3 s0 d Q) : vmWp 58 25 [(0, .ref 19), (2, .int x2), (3, .int x3)] [.int s0] (wC L d e) Qo := by
  unfold Instruction_look_25 at h
  refine st_go 3 (pc' := 29) (lo' := [(4, .int s0), (0, .ref 19), (2, .int x2), (3, .int x3)]) (st' := [.int 3, .int x3]) rfl ?_
  by_cases hc_6 : x3 = 3
  · have h := Eq.mp (if_pos hc_6) h
    refine st_icmp (t := 37) (b := true) rfl (decide_eq_true hc_6) rfl ?_
    refine vmWp.sub (lo' := [(0, .ref 19), (2, .int x2), (3, .int x3), (4, .int s0)]) ⟨rfl, rfl, rfl, rfl, trivial⟩ ?_
    exact tInstruction_look_37 hQ x2 x3 s0 d h
  · have h := Eq.mp (if_neg hc_6) h
    refine st_icmp (t := 32) (b := false) rfl (decide_eq_false hc_6) rfl ?_
    refine st_go 2 (pc' := 34) (lo' := [(4, .int s0), (0, .ref 19), (2, .int x2), (3, .int x3)]) (st' := [.int 4, .int x3]) rfl ?_
    by_cases hc_59 : x3 = 4
    · have h := Eq.mp (if_pos hc_59) h
      refine st_icmp (t := 37) (b := false) rfl (decide_eq_false (fun z => z hc_59)) rfl ?_
      refine vmWp.sub (lo' := [(0, .ref 19), (2, .int x2), (3, .int x3), (4, .int s0)]) ⟨rfl, rfl, rfl, rfl, trivial⟩ ?_
      exact tInstruction_look_37 hQ x2 x3 s0 d h
    · have h := Eq.mp (if_neg hc_59) h
      refine st_icmp (t := 67) (b := true) rfl (decide_eq_true hc_59) rfl ?_
      refine vmWp.sub (lo' := [(0, .ref 19), (2, .int x2), (3, .int x3), (4, .int s0)]) ⟨rfl, rfl, rfl, rfl, trivial⟩ ?_
      exact tInstruction_look_67 hQ x2 x3 s0 d h
set_option maxRecDepth 100000 in
def Instruction_look (x1 : Int32) (d : vmD) (Q : vmD → Prop) : Prop :=
  Memory_at x1 d fun r_2 d_1 =>
  Instruction_groupOf r_2 d_1 fun r_4 d_3 =>
  if r_4 = 0 then
  (Instruction_look_25 r_2 r_4 x1 d_3 Q)
  else
  (Instruction_look_25 r_2 r_4 (x1 + 1) d_3 Q)
set_option maxRecDepth 100000 in
set_option maxHeartbeats 4000000 in
theorem tInstruction_look {L : Nat} {e : vmD} {Qo : Option Value → vmW → Prop} {Q : vmD → Prop} (hQ : ∀ d, Q d → Qo none (wC L d e)) (x1 : Int32) (d : vmD) (h : Instruction_look x1 d Q) : vmWp 58 0 [(0, .ref 19), (1, .int x1)] [] (wC L d e) Qo := by
  unfold Instruction_look at h
  refine st_go 3 (pc' := 5) (lo' := [(0, .ref 19), (1, .int x1)]) (st' := [.int x1, .ref 1]) rfl ?_
  refine st_calli (k' := 128) (as := [.ref 1, .int x1]) (rest := []) (lo' := [(0, .ref 1), (1, .int x1)]) (wf := fun d => wC L d e) rfl rfl rfl ?_
  refine tMemory_at (fun r_2 d_1 h => ⟨r_2, d_1, rfl, rfl, ?_⟩) x1 d h
  refine st_go 2 (pc' := 10) (lo' := [(2, .int r_2), (0, .ref 19), (1, .int x1)]) (st' := [.int r_2]) rfl ?_
  refine st_calli (k' := 59) (as := [.int r_2]) (rest := []) (lo' := [(0, .int r_2)]) (wf := fun d => wC L d e) rfl rfl rfl ?_
  refine tInstruction_groupOf (fun r_4 d_3 h => ⟨r_4, d_3, rfl, rfl, ?_⟩) r_2 d_1 h
  refine st_go 2 (pc' := 15) (lo' := [(3, .int r_4), (2, .int r_2), (0, .ref 19), (1, .int x1)]) (st' := [.int r_4]) rfl ?_
  by_cases hc_5 : r_4 = 0
  · have h := Eq.mp (if_pos hc_5) h
    refine st_if (t := 18) (b := false) rfl (decide_eq_false (fun z => z hc_5)) rfl ?_
    refine st_go 2 (pc' := 25) (lo' := [(3, .int r_4), (2, .int r_2), (0, .ref 19), (1, .int x1)]) (st' := [.int x1]) rfl ?_
    refine vmWp.sub (lo' := [(0, .ref 19), (2, .int r_2), (3, .int r_4)]) ⟨rfl, rfl, rfl, trivial⟩ ?_
    exact tInstruction_look_25 hQ r_2 r_4 x1 d_3 h
  · have h := Eq.mp (if_neg hc_5) h
    refine st_if (t := 22) (b := true) rfl (decide_eq_true hc_5) rfl ?_
    refine st_go 3 (pc' := 25) (lo' := [(3, .int r_4), (2, .int r_2), (0, .ref 19), (1, .int x1)]) (st' := [.int (x1 + 1)]) rfl ?_
    refine vmWp.sub (lo' := [(0, .ref 19), (2, .int r_2), (3, .int r_4)]) ⟨rfl, rfl, rfl, trivial⟩ ?_
    exact tInstruction_look_25 hQ r_2 r_4 (x1 + 1) d_3 h
set_option maxRecDepth 100000 in
def Text_empty_wri (d : vmD) (Q : vmD → Prop) : Prop :=
  bnd (sF d 13 1 0) fun d_1 =>
  Q d_1
set_option maxRecDepth 100000 in
set_option maxHeartbeats 4000000 in
theorem tText_empty_wri {L : Nat} {e : vmD} {Qo : Option Value → vmW → Prop} {Q : vmD → Prop} (hQ : ∀ d, Q d → Qo none (wC L d e)) (d : vmD) (h : Text_empty_wri d Q) : vmWp 189 0 [(0, .ref 13)] [] (wC L d e) Qo := by
  unfold Text_empty_wri at h
  refine st_go 2 (pc' := 2) (lo' := [(0, .ref 13)]) (st' := [.int 0, .ref 13]) rfl ?_
  refine st_putIC (o := 13) (f := 1) rfl rfl rfl rfl rfl (fun d_1 hy_d_1 => ?_)
  have h := h d_1 hy_d_1
  exact st_retV rfl rfl (hQ _ h)
set_option maxRecDepth 100000 in
def Text_add_wri (x1 : Int32) (d : vmD) (Q : vmD → Prop) : Prop :=
  if (gF d 13 1) < 0 then
  (Q d)
  else
  (if (gF d 13 1) < 32 then
  (ixOk (gF d 13 1) 32 ∧
  bnd (sA d 14 (gF d 13 1).toNatClampNeg ((Int8.toInt32 (Int32.toInt8 x1)).toInt8.toInt32)) fun d_4 =>
  bnd (sF d_4 13 1 ((gF d_4 13 1) + 1)) fun d_5 =>
  Q d_5)
  else
  (Q d))
set_option maxRecDepth 100000 in
set_option maxHeartbeats 4000000 in
theorem tText_add_wri {L : Nat} {e : vmD} {Qo : Option Value → vmW → Prop} {Q : vmD → Prop} (hQ : ∀ d, Q d → Qo none (wC L d e)) (x1 : Int32) (d : vmD) (h : Text_add_wri x1 d Q) : vmWp 192 0 [(0, .ref 13), (1, .int x1)] [] (wC L d e) Qo := by
  unfold Text_add_wri at h
  refine st_go 2 (pc' := 4) (lo' := [(0, .ref 13), (1, .int x1)]) (st' := [.int (gF d 13 1)]) rfl ?_
  by_cases hc_1 : (gF d 13 1) < 0
  · have h := Eq.mp (if_pos hc_1) h
    refine st_if (t := 40) (b := true) rfl (decide_eq_true hc_1) rfl ?_
    exact st_retV rfl rfl (hQ _ h)
  · have h := Eq.mp (if_neg hc_1) h
    refine st_if (t := 7) (b := false) rfl (decide_eq_false hc_1) rfl ?_
    refine st_go 5 (pc' := 16) (lo' := [(0, .ref 13), (1, .int x1)]) (st' := [.int 32, .int (gF d 13 1)]) rfl ?_
    by_cases hc_2 : (gF d 13 1) < 32
    · have h := Eq.mp (if_pos hc_2) h
      refine st_icmp (t := 19) (b := false) rfl (decide_eq_false (Int32.not_le.mpr hc_2)) rfl ?_
      refine st_go 6 (pc' := 29) (lo' := [(0, .ref 13), (1, .int x1)]) (st' := [.int (Int8.toInt32 (Int32.toInt8 x1)), .int (gF d 13 1), .ref 14]) rfl ?_
      obtain ⟨hj_3, h⟩ := h
      refine st_bastC (o := 14) rfl rfl hj_3 rfl (fun d_4 hy_d_4 => ?_)
      have h := h d_4 hy_d_4
      refine st_go 5 (pc' := 37) (lo' := [(0, .ref 13), (1, .int x1)]) (st' := [.int ((gF d_4 13 1) + 1), .ref 13]) rfl ?_
      refine st_putIC (o := 13) (f := 1) rfl rfl rfl rfl rfl (fun d_5 hy_d_5 => ?_)
      have h := h d_5 hy_d_5
      exact st_retV rfl rfl (hQ _ h)
    · have h := Eq.mp (if_neg hc_2) h
      refine st_icmp (t := 40) (b := true) rfl (decide_eq_true (Int32.not_lt.mp hc_2)) rfl ?_
      exact st_retV rfl rfl (hQ _ h)
set_option maxRecDepth 100000 in
def Names_append_wri_53 (b27 : Int64 → Int32 → vmD → Prop) (x3 : Int64) (x5 : Int32) (d : vmD) (Q : vmD → Prop) : Prop :=
  bnd (x5 + 1) fun x5_6 =>
  b27 x3 x5_6 d
set_option maxRecDepth 100000 in
set_option maxHeartbeats 4000000 in
theorem tNames_append_wri_53 {L : Nat} {e : vmD} {Qo : Option Value → vmW → Prop} {b27 : Int64 → Int32 → vmD → Prop} {Q : vmD → Prop} (hb27 : ∀ x3 x5 d, b27 x3 x5 d → vmWp 138 27 [(1, .ref 13), (3, .long x3), (5, .int x5)] [] (wC L d e) Qo) (hQ : ∀ d, Q d → Qo none (wC L d e)) (x3 : Int64) (x5 : Int32) (d : vmD) (h : Names_append_wri_53 b27 x3 x5 d Q) : vmWp 138 53 [(1, .ref 13), (3, .long x3), (5, .int x5)] [] (wC L d e) Qo := by
  unfold Names_append_wri_53 at h
  refine st_go 1 (pc' := 56) (lo' := [(5, .int (x5 + 1)), (1, .ref 13), (3, .long x3)]) (st' := []) rfl ?_
  refine st_locI (fun x5_6 hy_x5_6 => ?_)
  have h := h x5_6 hy_x5_6
  refine st_go 1 (pc' := 27) (lo' := [(5, .int x5_6), (1, .ref 13), (3, .long x3)]) (st' := []) rfl ?_
  refine vmWp.sub (lo' := [(1, .ref 13), (3, .long x3), (5, .int x5_6)]) ⟨rfl, rfl, rfl, trivial⟩ ?_
  exact hb27 x3 x5_6 d h
set_option maxRecDepth 100000 in
def Names_append_wri_27 (Q : vmD → Prop) : Nat → Int64 → Int32 → vmD → Prop
  | 0, _, _, _ => False
  | n + 1, x3, x5, d => if x5 < 12 then
  (Names_signOf x3 x5 d fun r_4 d_3 =>
  if r_4 < 0 then
  (Names_append_wri_53 (Names_append_wri_27 Q n) x3 x5 d_3 Q)
  else
  (Text_add_wri r_4 d_3 fun d_7 =>
  Names_append_wri_53 (Names_append_wri_27 Q n) x3 x5 d_7 Q))
  else
  (Q d)
set_option maxRecDepth 100000 in
set_option maxHeartbeats 4000000 in
theorem tNames_append_wri_27 {L : Nat} {e : vmD} {Qo : Option Value → vmW → Prop} {Q : vmD → Prop} (hQ : ∀ d, Q d → Qo none (wC L d e)) : ∀ (n : Nat) (x3 : Int64) (x5 : Int32) (d : vmD), Names_append_wri_27 Q n x3 x5 d → vmWp 138 27 [(1, .ref 13), (3, .long x3), (5, .int x5)] [] (wC L d e) Qo := by
  intro n
  induction n with
  | zero => intro x3 x5 d h; exact h.elim
  | succ n ih =>
    intro x3 x5 d h
    unfold Names_append_wri_27 at h
    refine st_go 2 (pc' := 31) (lo' := [(1, .ref 13), (3, .long x3), (5, .int x5)]) (st' := [.int 12, .int x5]) rfl ?_
    by_cases hc_2 : x5 < 12
    · have h := Eq.mp (if_pos hc_2) h
      refine st_icmp (t := 34) (b := false) rfl (decide_eq_false (Int32.not_le.mpr hc_2)) rfl ?_
      refine st_go 2 (pc' := 37) (lo' := [(1, .ref 13), (3, .long x3), (5, .int x5)]) (st' := [.int x5, .long x3]) rfl ?_
      refine st_calli (k' := 137) (as := [.long x3, .int x5]) (rest := []) (lo' := [(0, .long x3), (2, .int x5)]) (wf := fun d => wC L d e) rfl rfl rfl ?_
      refine tNames_signOf (fun r_4 d_3 h => ⟨r_4, d_3, rfl, rfl, ?_⟩) x3 x5 d h
      refine st_go 2 (pc' := 44) (lo' := [(6, .int r_4), (1, .ref 13), (3, .long x3), (5, .int x5)]) (st' := [.int r_4]) rfl ?_
      by_cases hc_5 : r_4 < 0
      · have h := Eq.mp (if_pos hc_5) h
        refine st_if (t := 53) (b := true) rfl (decide_eq_true hc_5) rfl ?_
        refine vmWp.sub (lo' := [(1, .ref 13), (3, .long x3), (5, .int x5)]) ⟨rfl, rfl, rfl, trivial⟩ ?_
        exact tNames_append_wri_53 ih hQ x3 x5 d_3 h
      · have h := Eq.mp (if_neg hc_5) h
        refine st_if (t := 47) (b := false) rfl (decide_eq_false hc_5) rfl ?_
        refine st_go 2 (pc' := 50) (lo' := [(6, .int r_4), (1, .ref 13), (3, .long x3), (5, .int x5)]) (st' := [.int r_4, .ref 13]) rfl ?_
        refine st_callv (k' := 192) (as := [.ref 13, .int r_4]) (rest := []) (lo' := [(0, .ref 13), (1, .int r_4)]) (wf := fun d => wC L d e) rfl rfl rfl ?_
        refine tText_add_wri (fun d_7 h => ⟨d_7, rfl, rfl, ?_⟩) r_4 d_3 h
        refine vmWp.sub (lo' := [(1, .ref 13), (3, .long x3), (5, .int x5)]) ⟨rfl, rfl, rfl, trivial⟩ ?_
        exact tNames_append_wri_53 ih hQ x3 x5 d_7 h
    · have h := Eq.mp (if_neg hc_2) h
      refine st_icmp (t := 59) (b := true) rfl (decide_eq_true (Int32.not_lt.mp hc_2)) rfl ?_
      exact st_retV rfl rfl (hQ _ h)
set_option maxRecDepth 100000 in
def Names_append_wri_23 (s0 : Int64) (d : vmD) (Q : vmD → Prop) : Prop :=
  ∃ m27, Names_append_wri_27 Q m27 s0 0 d
set_option maxRecDepth 100000 in
set_option maxHeartbeats 4000000 in
theorem tNames_append_wri_23 {L : Nat} {e : vmD} {Qo : Option Value → vmW → Prop} {Q : vmD → Prop} (hQ : ∀ d, Q d → Qo none (wC L d e)) (s0 : Int64) (d : vmD) (h : Names_append_wri_23 s0 d Q) : vmWp 138 23 [(1, .ref 13)] [.long s0] (wC L d e) Qo := by
  unfold Names_append_wri_23 at h
  refine st_go 3 (pc' := 27) (lo' := [(5, .int 0), (3, .long s0), (1, .ref 13)]) (st' := []) rfl ?_
  obtain ⟨m27, h⟩ := h
  refine vmWp.sub (lo' := [(1, .ref 13), (3, .long s0), (5, .int 0)]) ⟨rfl, rfl, rfl, trivial⟩ ?_
  exact tNames_append_wri_27 hQ m27 s0 0 d h
set_option maxRecDepth 100000 in
def Names_append_wri_22 (d : vmD) (Q : vmD → Prop) : Prop :=
  Names_append_wri_23 0 d Q
set_option maxRecDepth 100000 in
set_option maxHeartbeats 4000000 in
theorem tNames_append_wri_22 {L : Nat} {e : vmD} {Qo : Option Value → vmW → Prop} {Q : vmD → Prop} (hQ : ∀ d, Q d → Qo none (wC L d e)) (d : vmD) (h : Names_append_wri_22 d Q) : vmWp 138 22 [(1, .ref 13)] [] (wC L d e) Qo := by
  unfold Names_append_wri_22 at h
  refine st_go 1 (pc' := 23) (lo' := [(1, .ref 13)]) (st' := [.long 0]) rfl ?_
  refine vmWp.sub (lo' := [(1, .ref 13)]) ⟨rfl, trivial⟩ ?_
  exact tNames_append_wri_23 hQ 0 d h
set_option maxRecDepth 100000 in
def Names_append_wri (x2 : Int32) (d : vmD) (Q : vmD → Prop) : Prop :=
  if x2 < 0 then
  (Names_append_wri_22 d Q)
  else
  (if x2 < 107 then
  (ixOk x2 107 ∧
  bnd (gL d 4 x2.toNatClampNeg) fun y_10 =>
  Names_append_wri_23 y_10 d Q)
  else
  (Names_append_wri_22 d Q))
set_option maxRecDepth 100000 in
set_option maxHeartbeats 4000000 in
theorem tNames_append_wri {L : Nat} {e : vmD} {Qo : Option Value → vmW → Prop} {Q : vmD → Prop} (hQ : ∀ d, Q d → Qo none (wC L d e)) (x2 : Int32) (d : vmD) (h : Names_append_wri x2 d Q) : vmWp 138 0 [(0, .ref 3), (1, .ref 13), (2, .int x2)] [] (wC L d e) Qo := by
  unfold Names_append_wri at h
  refine st_go 1 (pc' := 1) (lo' := [(0, .ref 3), (1, .ref 13), (2, .int x2)]) (st' := [.int x2]) rfl ?_
  by_cases hc_1 : x2 < 0
  · have h := Eq.mp (if_pos hc_1) h
    refine st_if (t := 22) (b := true) rfl (decide_eq_true hc_1) rfl ?_
    refine vmWp.sub (lo' := [(1, .ref 13)]) ⟨rfl, trivial⟩ ?_
    exact tNames_append_wri_22 hQ d h
  · have h := Eq.mp (if_neg hc_1) h
    refine st_if (t := 4) (b := false) rfl (decide_eq_false hc_1) rfl ?_
    refine st_go 4 (pc' := 10) (lo' := [(0, .ref 3), (1, .ref 13), (2, .int x2)]) (st' := [.int 107, .int x2]) rfl ?_
    by_cases hc_8 : x2 < 107
    · have h := Eq.mp (if_pos hc_8) h
      refine st_icmp (t := 13) (b := false) rfl (decide_eq_false (Int32.not_le.mpr hc_8)) rfl ?_
      refine st_go 3 (pc' := 18) (lo' := [(0, .ref 3), (1, .ref 13), (2, .int x2)]) (st' := [.int x2, .ref 4]) rfl ?_
      obtain ⟨hj_9, h⟩ := h
      refine st_laldC (o := 4) rfl rfl hj_9 rfl (fun y_10 hy_y_10 => ?_)
      have h := h y_10 hy_y_10
      refine st_go 1 (pc' := 23) (lo' := [(0, .ref 3), (1, .ref 13), (2, .int x2)]) (st' := [.long y_10]) rfl ?_
      refine vmWp.sub (lo' := [(1, .ref 13)]) ⟨rfl, trivial⟩ ?_
      exact tNames_append_wri_23 hQ y_10 d h
    · have h := Eq.mp (if_neg hc_8) h
      refine st_icmp (t := 22) (b := true) rfl (decide_eq_true (Int32.not_lt.mp hc_8)) rfl ?_
      refine vmWp.sub (lo' := [(1, .ref 13)]) ⟨rfl, trivial⟩ ?_
      exact tNames_append_wri_22 hQ d h
set_option maxRecDepth 100000 in
def Instruction_insideOf (x0 : Int32) (d : vmD) (Q : Int32 → vmD → Prop) : Prop :=
  if x0 = 7 then
  (Q 11 d)
  else
  if x0 = 26 then
  (Q 9 d)
  else
  if x0 = 27 then
  (Q 10 d)
  else
  if x0 = 28 then
  (Q 12 d)
  else
  if x0 = 29 then
  (Q 2 d)
  else
  if x0 = 30 then
  (Q 15 d)
  else
  if x0 = 31 then
  (Q 16 d)
  else
  if x0 = 32 then
  (Q 15 d)
  else
  if x0 = 33 then
  (Q 16 d)
  else
  if x0 = 42 then
  (Q 36 d)
  else
  if x0 = 43 then
  (Q 36 d)
  else
  (Q x0 d)
set_option maxRecDepth 100000 in
set_option maxHeartbeats 4000000 in
theorem tInstruction_insideOf {L : Nat} {e : vmD} {Qo : Option Value → vmW → Prop} {Q : Int32 → vmD → Prop} (hQ : ∀ r d, Q r d → Qo (some (.int r)) (wC L d e)) (x0 : Int32) (d : vmD) (h : Instruction_insideOf x0 d Q) : vmWp 72 0 [(0, .int x0)] [] (wC L d e) Qo := by
  unfold Instruction_insideOf at h
  refine st_go 1 (pc' := 1) (lo' := [(0, .int x0)]) (st' := [.int x0]) rfl ?_
  by_cases hc_1 : x0 = 7
  · have h := Eq.mp (if_pos hc_1) h
    refine st_tab (t := 164) rfl (by rw [hc_1]; rfl) ?_
    refine st_go 1 (pc' := 166) (lo' := [(0, .int x0)]) (st' := [.int 11]) rfl ?_
    exact st_retI rfl rfl (hQ _ _ h)
  · have h := Eq.mp (if_neg hc_1) h
    by_cases hc_2 : x0 = 26
    · have h := Eq.mp (if_pos hc_2) h
      refine st_tab (t := 167) rfl (by rw [hc_2]; rfl) ?_
      refine st_go 1 (pc' := 169) (lo' := [(0, .int x0)]) (st' := [.int 9]) rfl ?_
      exact st_retI rfl rfl (hQ _ _ h)
    · have h := Eq.mp (if_neg hc_2) h
      by_cases hc_3 : x0 = 27
      · have h := Eq.mp (if_pos hc_3) h
        refine st_tab (t := 170) rfl (by rw [hc_3]; rfl) ?_
        refine st_go 1 (pc' := 172) (lo' := [(0, .int x0)]) (st' := [.int 10]) rfl ?_
        exact st_retI rfl rfl (hQ _ _ h)
      · have h := Eq.mp (if_neg hc_3) h
        by_cases hc_4 : x0 = 28
        · have h := Eq.mp (if_pos hc_4) h
          refine st_tab (t := 173) rfl (by rw [hc_4]; rfl) ?_
          refine st_go 1 (pc' := 175) (lo' := [(0, .int x0)]) (st' := [.int 12]) rfl ?_
          exact st_retI rfl rfl (hQ _ _ h)
        · have h := Eq.mp (if_neg hc_4) h
          by_cases hc_5 : x0 = 29
          · have h := Eq.mp (if_pos hc_5) h
            refine st_tab (t := 176) rfl (by rw [hc_5]; rfl) ?_
            refine st_go 1 (pc' := 177) (lo' := [(0, .int x0)]) (st' := [.int 2]) rfl ?_
            exact st_retI rfl rfl (hQ _ _ h)
          · have h := Eq.mp (if_neg hc_5) h
            by_cases hc_6 : x0 = 30
            · have h := Eq.mp (if_pos hc_6) h
              refine st_tab (t := 178) rfl (by rw [hc_6]; rfl) ?_
              refine st_go 1 (pc' := 180) (lo' := [(0, .int x0)]) (st' := [.int 15]) rfl ?_
              exact st_retI rfl rfl (hQ _ _ h)
            · have h := Eq.mp (if_neg hc_6) h
              by_cases hc_7 : x0 = 31
              · have h := Eq.mp (if_pos hc_7) h
                refine st_tab (t := 181) rfl (by rw [hc_7]; rfl) ?_
                refine st_go 1 (pc' := 183) (lo' := [(0, .int x0)]) (st' := [.int 16]) rfl ?_
                exact st_retI rfl rfl (hQ _ _ h)
              · have h := Eq.mp (if_neg hc_7) h
                by_cases hc_8 : x0 = 32
                · have h := Eq.mp (if_pos hc_8) h
                  refine st_tab (t := 178) rfl (by rw [hc_8]; rfl) ?_
                  refine st_go 1 (pc' := 180) (lo' := [(0, .int x0)]) (st' := [.int 15]) rfl ?_
                  exact st_retI rfl rfl (hQ _ _ h)
                · have h := Eq.mp (if_neg hc_8) h
                  by_cases hc_9 : x0 = 33
                  · have h := Eq.mp (if_pos hc_9) h
                    refine st_tab (t := 181) rfl (by rw [hc_9]; rfl) ?_
                    refine st_go 1 (pc' := 183) (lo' := [(0, .int x0)]) (st' := [.int 16]) rfl ?_
                    exact st_retI rfl rfl (hQ _ _ h)
                  · have h := Eq.mp (if_neg hc_9) h
                    by_cases hc_10 : x0 = 42
                    · have h := Eq.mp (if_pos hc_10) h
                      refine st_tab (t := 184) rfl (by rw [hc_10]; rfl) ?_
                      refine st_go 1 (pc' := 186) (lo' := [(0, .int x0)]) (st' := [.int 36]) rfl ?_
                      exact st_retI rfl rfl (hQ _ _ h)
                    · have h := Eq.mp (if_neg hc_10) h
                      by_cases hc_11 : x0 = 43
                      · have h := Eq.mp (if_pos hc_11) h
                        refine st_tab (t := 184) rfl (by rw [hc_11]; rfl) ?_
                        refine st_go 1 (pc' := 186) (lo' := [(0, .int x0)]) (st' := [.int 36]) rfl ?_
                        exact st_retI rfl rfl (hQ _ _ h)
                      · have h := Eq.mp (if_neg hc_11) h
                        refine st_tab (t := 187) rfl (tab_def rfl (by decide) rfl (by
                          intro j hj hx
                          have hj : j < 37 := hj
                          rcases (j = 0 ∨ j = 1 ∨ j = 2 ∨ j = 3 ∨ j = 4 ∨ j = 5 ∨ j = 6 ∨ j = 7 ∨ j = 8 ∨ j = 9 ∨ j = 10 ∨ j = 11 ∨ j = 12 ∨ j = 13 ∨ j = 14 ∨ j = 15 ∨ j = 16 ∨ j = 17 ∨ j = 18 ∨ j = 19 ∨ j = 20 ∨ j = 21 ∨ j = 22 ∨ j = 23 ∨ j = 24 ∨ j = 25 ∨ j = 26 ∨ j = 27 ∨ j = 28 ∨ j = 29 ∨ j = 30 ∨ j = 31 ∨ j = 32 ∨ j = 33 ∨ j = 34 ∨ j = 35 ∨ j = 36 : Prop) |> fun _ => (show j = 0 ∨ j = 1 ∨ j = 2 ∨ j = 3 ∨ j = 4 ∨ j = 5 ∨ j = 6 ∨ j = 7 ∨ j = 8 ∨ j = 9 ∨ j = 10 ∨ j = 11 ∨ j = 12 ∨ j = 13 ∨ j = 14 ∨ j = 15 ∨ j = 16 ∨ j = 17 ∨ j = 18 ∨ j = 19 ∨ j = 20 ∨ j = 21 ∨ j = 22 ∨ j = 23 ∨ j = 24 ∨ j = 25 ∨ j = 26 ∨ j = 27 ∨ j = 28 ∨ j = 29 ∨ j = 30 ∨ j = 31 ∨ j = 32 ∨ j = 33 ∨ j = 34 ∨ j = 35 ∨ j = 36 by omega) with rfl | rfl | rfl | rfl | rfl | rfl | rfl | rfl | rfl | rfl | rfl | rfl | rfl | rfl | rfl | rfl | rfl | rfl | rfl | rfl | rfl | rfl | rfl | rfl | rfl | rfl | rfl | rfl | rfl | rfl | rfl | rfl | rfl | rfl | rfl | rfl | rfl <;> first | rfl | exact absurd hx hc_1 | exact absurd hx hc_2 | exact absurd hx hc_3 | exact absurd hx hc_4 | exact absurd hx hc_5 | exact absurd hx hc_6 | exact absurd hx hc_7 | exact absurd hx hc_8 | exact absurd hx hc_9 | exact absurd hx hc_10 | exact absurd hx hc_11)) ?_
                        refine st_go 1 (pc' := 188) (lo' := [(0, .int x0)]) (st' := [.int x0]) rfl ?_
                        exact st_retI rfl rfl (hQ _ _ h)
set_option maxRecDepth 100000 in
def Text_addNumber_wri_51 (b6 : Int32 → Int32 → Int32 → vmD → Prop) (x1 : Int32) (x2 : Int32) (x3 : Int32) (d : vmD) (Q : vmD → Prop) : Prop :=
  bnd (x3 / 10) fun x3_7 =>
  b6 x1 x2 x3_7 d
set_option maxRecDepth 100000 in
set_option maxHeartbeats 4000000 in
theorem tText_addNumber_wri_51 {L : Nat} {e : vmD} {Qo : Option Value → vmW → Prop} {b6 : Int32 → Int32 → Int32 → vmD → Prop} {Q : vmD → Prop} (hb6 : ∀ x1 x2 x3 d, b6 x1 x2 x3 d → vmWp 193 6 [(0, .ref 13), (1, .int x1), (2, .int x2), (3, .int x3)] [] (wC L d e) Qo) (hQ : ∀ d, Q d → Qo none (wC L d e)) (x1 : Int32) (x2 : Int32) (x3 : Int32) (d : vmD) (h : Text_addNumber_wri_51 b6 x1 x2 x3 d Q) : vmWp 193 51 [(0, .ref 13), (1, .int x1), (2, .int x2), (3, .int x3)] [] (wC L d e) Qo := by
  unfold Text_addNumber_wri_51 at h
  refine st_go 2 (pc' := 54) (lo' := [(0, .ref 13), (1, .int x1), (2, .int x2), (3, .int x3)]) (st' := [.int 10, .int x3]) rfl ?_
  refine st_idiv rfl (by decide) ?_
  refine st_go 1 (pc' := 56) (lo' := [(3, .int (x3 / 10)), (0, .ref 13), (1, .int x1), (2, .int x2)]) (st' := []) rfl ?_
  refine st_locI (fun x3_7 hy_x3_7 => ?_)
  have h := h x3_7 hy_x3_7
  refine st_go 1 (pc' := 6) (lo' := [(3, .int x3_7), (0, .ref 13), (1, .int x1), (2, .int x2)]) (st' := []) rfl ?_
  refine vmWp.sub (lo' := [(0, .ref 13), (1, .int x1), (2, .int x2), (3, .int x3_7)]) ⟨rfl, rfl, rfl, rfl, trivial⟩ ?_
  exact hb6 x1 x2 x3_7 d h
set_option maxRecDepth 100000 in
def Text_addNumber_wri_37 (b6 : Int32 → Int32 → Int32 → vmD → Prop) (x1 : Int32) (x3 : Int32) (x4 : Int32) (s0 : Int32) (d : vmD) (Q : vmD → Prop) : Prop :=
  if s0 = 0 then
  (Text_addNumber_wri_51 b6 x1 s0 x3 d Q)
  else
  (Text_add_wri ((48 : Int32) + x4) d fun d_8 =>
  Text_addNumber_wri_51 b6 x1 s0 x3 d_8 Q)
set_option maxRecDepth 100000 in
set_option maxHeartbeats 4000000 in
theorem tText_addNumber_wri_37 {L : Nat} {e : vmD} {Qo : Option Value → vmW → Prop} {b6 : Int32 → Int32 → Int32 → vmD → Prop} {Q : vmD → Prop} (hb6 : ∀ x1 x2 x3 d, b6 x1 x2 x3 d → vmWp 193 6 [(0, .ref 13), (1, .int x1), (2, .int x2), (3, .int x3)] [] (wC L d e) Qo) (hQ : ∀ d, Q d → Qo none (wC L d e)) (x1 : Int32) (x3 : Int32) (x4 : Int32) (s0 : Int32) (d : vmD) (h : Text_addNumber_wri_37 b6 x1 x3 x4 s0 d Q) : vmWp 193 37 [(0, .ref 13), (1, .int x1), (3, .int x3), (4, .int x4)] [.int s0] (wC L d e) Qo := by
  unfold Text_addNumber_wri_37 at h
  refine st_go 2 (pc' := 39) (lo' := [(2, .int s0), (0, .ref 13), (1, .int x1), (3, .int x3), (4, .int x4)]) (st' := [.int s0]) rfl ?_
  by_cases hc_6 : s0 = 0
  · have h := Eq.mp (if_pos hc_6) h
    refine st_if (t := 51) (b := true) rfl (decide_eq_true hc_6) rfl ?_
    refine vmWp.sub (lo' := [(0, .ref 13), (1, .int x1), (2, .int s0), (3, .int x3)]) ⟨rfl, rfl, rfl, rfl, trivial⟩ ?_
    exact tText_addNumber_wri_51 hb6 hQ x1 s0 x3 d h
  · have h := Eq.mp (if_neg hc_6) h
    refine st_if (t := 42) (b := false) rfl (decide_eq_false hc_6) rfl ?_
    refine st_go 4 (pc' := 48) (lo' := [(2, .int s0), (0, .ref 13), (1, .int x1), (3, .int x3), (4, .int x4)]) (st' := [.int ((48 : Int32) + x4), .ref 13]) rfl ?_
    refine st_callv (k' := 192) (as := [.ref 13, .int ((48 : Int32) + x4)]) (rest := []) (lo' := [(0, .ref 13), (1, .int ((48 : Int32) + x4))]) (wf := fun d => wC L d e) rfl rfl rfl ?_
    refine tText_add_wri (fun d_8 h => ⟨d_8, rfl, rfl, ?_⟩) ((48 : Int32) + x4) d h
    refine vmWp.sub (lo' := [(0, .ref 13), (1, .int x1), (2, .int s0), (3, .int x3)]) ⟨rfl, rfl, rfl, rfl, trivial⟩ ?_
    exact tText_addNumber_wri_51 hb6 hQ x1 s0 x3 d_8 h
set_option maxRecDepth 100000 in
def Text_addNumber_wri_32 (b6 : Int32 → Int32 → Int32 → vmD → Prop) (x1 : Int32) (x3 : Int32) (x4 : Int32) (d : vmD) (Q : vmD → Prop) : Prop :=
  Text_addNumber_wri_37 b6 x1 x3 x4 1 d Q
set_option maxRecDepth 100000 in
set_option maxHeartbeats 4000000 in
theorem tText_addNumber_wri_32 {L : Nat} {e : vmD} {Qo : Option Value → vmW → Prop} {b6 : Int32 → Int32 → Int32 → vmD → Prop} {Q : vmD → Prop} (hb6 : ∀ x1 x2 x3 d, b6 x1 x2 x3 d → vmWp 193 6 [(0, .ref 13), (1, .int x1), (2, .int x2), (3, .int x3)] [] (wC L d e) Qo) (hQ : ∀ d, Q d → Qo none (wC L d e)) (x1 : Int32) (x3 : Int32) (x4 : Int32) (d : vmD) (h : Text_addNumber_wri_32 b6 x1 x3 x4 d Q) : vmWp 193 32 [(0, .ref 13), (1, .int x1), (3, .int x3), (4, .int x4)] [] (wC L d e) Qo := by
  unfold Text_addNumber_wri_32 at h
  refine st_go 2 (pc' := 37) (lo' := [(0, .ref 13), (1, .int x1), (3, .int x3), (4, .int x4)]) (st' := [.int 1]) rfl ?_
  refine vmWp.sub (lo' := [(0, .ref 13), (1, .int x1), (3, .int x3), (4, .int x4)]) ⟨rfl, rfl, rfl, rfl, trivial⟩ ?_
  exact tText_addNumber_wri_37 hb6 hQ x1 x3 x4 1 d h
set_option maxRecDepth 100000 in
def Text_addNumber_wri_6 (Q : vmD → Prop) : Nat → Int32 → Int32 → Int32 → vmD → Prop
  | 0, _, _, _, _ => False
  | n + 1, x1, x2, x3, d => if (0 : Int32) < x3 then
  (¬ x3 = 0 ∧
  bnd ((x1 / x3) - (x1 / x3) / 10 * 10) fun x4_3 =>
  if x2 = 0 then
  (if (0 : Int32) < x4_3 then
  (Text_addNumber_wri_32 (Text_addNumber_wri_6 Q n) x1 x3 x4_3 d Q)
  else
  (if x3 = 1 then
  (Text_addNumber_wri_32 (Text_addNumber_wri_6 Q n) x1 x3 x4_3 d Q)
  else
  (Text_addNumber_wri_37 (Text_addNumber_wri_6 Q n) x1 x3 x4_3 0 d Q)))
  else
  (Text_addNumber_wri_32 (Text_addNumber_wri_6 Q n) x1 x3 x4_3 d Q))
  else
  (Q d)
set_option maxRecDepth 100000 in
set_option maxHeartbeats 4000000 in
theorem tText_addNumber_wri_6 {L : Nat} {e : vmD} {Qo : Option Value → vmW → Prop} {Q : vmD → Prop} (hQ : ∀ d, Q d → Qo none (wC L d e)) : ∀ (n : Nat) (x1 : Int32) (x2 : Int32) (x3 : Int32) (d : vmD), Text_addNumber_wri_6 Q n x1 x2 x3 d → vmWp 193 6 [(0, .ref 13), (1, .int x1), (2, .int x2), (3, .int x3)] [] (wC L d e) Qo := by
  intro n
  induction n with
  | zero => intro x1 x2 x3 d h; exact h.elim
  | succ n ih =>
    intro x1 x2 x3 d h
    unfold Text_addNumber_wri_6 at h
    refine st_go 1 (pc' := 7) (lo' := [(0, .ref 13), (1, .int x1), (2, .int x2), (3, .int x3)]) (st' := [.int x3]) rfl ?_
    by_cases hc_1 : (0 : Int32) < x3
    · have h := Eq.mp (if_pos hc_1) h
      refine st_if (t := 10) (b := false) rfl (decide_eq_false (Int32.not_le.mpr hc_1)) rfl ?_
      refine st_go 2 (pc' := 12) (lo' := [(0, .ref 13), (1, .int x1), (2, .int x2), (3, .int x3)]) (st' := [.int x3, .int x1]) rfl ?_
      obtain ⟨hz_2, h⟩ := h
      refine st_idiv rfl hz_2 ?_
      refine st_go 1 (pc' := 15) (lo' := [(0, .ref 13), (1, .int x1), (2, .int x2), (3, .int x3)]) (st' := [.int 10, .int (x1 / x3)]) rfl ?_
      refine st_irem rfl (by decide) ?_
      refine st_go 1 (pc' := 18) (lo' := [(4, .int ((x1 / x3) - (x1 / x3) / 10 * 10)), (0, .ref 13), (1, .int x1), (2, .int x2), (3, .int x3)]) (st' := []) rfl ?_
      refine st_locI (fun x4_3 hy_x4_3 => ?_)
      have h := h x4_3 hy_x4_3
      refine st_go 1 (pc' := 19) (lo' := [(4, .int x4_3), (0, .ref 13), (1, .int x1), (2, .int x2), (3, .int x3)]) (st' := [.int x2]) rfl ?_
      by_cases hc_4 : x2 = 0
      · have h := Eq.mp (if_pos hc_4) h
        refine st_if (t := 22) (b := false) rfl (decide_eq_false (fun z => z hc_4)) rfl ?_
        refine st_go 1 (pc' := 24) (lo' := [(4, .int x4_3), (0, .ref 13), (1, .int x1), (2, .int x2), (3, .int x3)]) (st' := [.int x4_3]) rfl ?_
        by_cases hc_5 : (0 : Int32) < x4_3
        · have h := Eq.mp (if_pos hc_5) h
          refine st_if (t := 32) (b := true) rfl (decide_eq_true hc_5) rfl ?_
          refine vmWp.sub (lo' := [(0, .ref 13), (1, .int x1), (3, .int x3), (4, .int x4_3)]) ⟨rfl, rfl, rfl, rfl, trivial⟩ ?_
          exact tText_addNumber_wri_32 ih hQ x1 x3 x4_3 d h
        · have h := Eq.mp (if_neg hc_5) h
          refine st_if (t := 27) (b := false) rfl (decide_eq_false hc_5) rfl ?_
          refine st_go 2 (pc' := 29) (lo' := [(4, .int x4_3), (0, .ref 13), (1, .int x1), (2, .int x2), (3, .int x3)]) (st' := [.int 1, .int x3]) rfl ?_
          by_cases hc_9 : x3 = 1
          · have h := Eq.mp (if_pos hc_9) h
            refine st_icmp (t := 32) (b := false) rfl (decide_eq_false (fun z => z hc_9)) rfl ?_
            refine vmWp.sub (lo' := [(0, .ref 13), (1, .int x1), (3, .int x3), (4, .int x4_3)]) ⟨rfl, rfl, rfl, rfl, trivial⟩ ?_
            exact tText_addNumber_wri_32 ih hQ x1 x3 x4_3 d h
          · have h := Eq.mp (if_neg hc_9) h
            refine st_icmp (t := 36) (b := true) rfl (decide_eq_true hc_9) rfl ?_
            refine st_go 1 (pc' := 37) (lo' := [(4, .int x4_3), (0, .ref 13), (1, .int x1), (2, .int x2), (3, .int x3)]) (st' := [.int 0]) rfl ?_
            refine vmWp.sub (lo' := [(0, .ref 13), (1, .int x1), (3, .int x3), (4, .int x4_3)]) ⟨rfl, rfl, rfl, rfl, trivial⟩ ?_
            exact tText_addNumber_wri_37 ih hQ x1 x3 x4_3 0 d h
      · have h := Eq.mp (if_neg hc_4) h
        refine st_if (t := 32) (b := true) rfl (decide_eq_true hc_4) rfl ?_
        refine vmWp.sub (lo' := [(0, .ref 13), (1, .int x1), (3, .int x3), (4, .int x4_3)]) ⟨rfl, rfl, rfl, rfl, trivial⟩ ?_
        exact tText_addNumber_wri_32 ih hQ x1 x3 x4_3 d h
    · have h := Eq.mp (if_neg hc_1) h
      refine st_if (t := 59) (b := true) rfl (decide_eq_true (Int32.not_lt.mp hc_1)) rfl ?_
      exact st_retV rfl rfl (hQ _ h)
set_option maxRecDepth 100000 in
def Text_addNumber_wri (x1 : Int32) (d : vmD) (Q : vmD → Prop) : Prop :=
  ∃ m6, Text_addNumber_wri_6 Q m6 x1 0 10000 d
set_option maxRecDepth 100000 in
set_option maxHeartbeats 4000000 in
theorem tText_addNumber_wri {L : Nat} {e : vmD} {Qo : Option Value → vmW → Prop} {Q : vmD → Prop} (hQ : ∀ d, Q d → Qo none (wC L d e)) (x1 : Int32) (d : vmD) (h : Text_addNumber_wri x1 d Q) : vmWp 193 0 [(0, .ref 13), (1, .int x1)] [] (wC L d e) Qo := by
  unfold Text_addNumber_wri at h
  refine st_go 4 (pc' := 6) (lo' := [(3, .int 10000), (2, .int 0), (0, .ref 13), (1, .int x1)]) (st' := []) rfl ?_
  obtain ⟨m6, h⟩ := h
  refine vmWp.sub (lo' := [(0, .ref 13), (1, .int x1), (2, .int 0), (3, .int 10000)]) ⟨rfl, rfl, rfl, rfl, trivial⟩ ?_
  exact tText_addNumber_wri_6 hQ m6 x1 0 10000 d h
set_option maxRecDepth 100000 in
def Instruction_appendOperand_wri_91 (x4 : Int32) (d : vmD) (Q : vmD → Prop) : Prop :=
  if x4 = 0 then
  (Q d)
  else
  (Text_add_wri 41 d fun d_13 =>
  Q d_13)
set_option maxRecDepth 100000 in
set_option maxHeartbeats 4000000 in
theorem tInstruction_appendOperand_wri_91 {L : Nat} {e : vmD} {Qo : Option Value → vmW → Prop} {Q : vmD → Prop} (hQ : ∀ d, Q d → Qo none (wC L d e)) (x4 : Int32) (d : vmD) (h : Instruction_appendOperand_wri_91 x4 d Q) : vmWp 71 91 [(1, .ref 13), (4, .int x4)] [] (wC L d e) Qo := by
  unfold Instruction_appendOperand_wri_91 at h
  refine st_go 1 (pc' := 93) (lo' := [(1, .ref 13), (4, .int x4)]) (st' := [.int x4]) rfl ?_
  by_cases hc_12 : x4 = 0
  · have h := Eq.mp (if_pos hc_12) h
    refine st_if (t := 102) (b := true) rfl (decide_eq_true hc_12) rfl ?_
    exact st_retV rfl rfl (hQ _ h)
  · have h := Eq.mp (if_neg hc_12) h
    refine st_if (t := 96) (b := false) rfl (decide_eq_false hc_12) rfl ?_
    refine st_go 2 (pc' := 99) (lo' := [(1, .ref 13), (4, .int x4)]) (st' := [.int 41, .ref 13]) rfl ?_
    refine st_callv (k' := 192) (as := [.ref 13, .int 41]) (rest := []) (lo' := [(0, .ref 13), (1, .int 41)]) (wf := fun d => wC L d e) rfl rfl rfl ?_
    refine tText_add_wri (fun d_13 h => ⟨d_13, rfl, rfl, ?_⟩) 41 d h
    exact st_retV rfl rfl (hQ _ h)
set_option maxRecDepth 100000 in
def Instruction_appendOperand_wri_77 (x4 : Int32) (s0 : Int32) (d : vmD) (Q : vmD → Prop) : Prop :=
  Text_add_wri s0 d fun d_15 =>
  Text_addNumber_wri (if 0 ≤ (gF d_15 19 8) then (gF d_15 19 8) else 0 - (gF d_15 19 8)) d_15 fun d_16 =>
  Instruction_appendOperand_wri_91 x4 d_16 Q
set_option maxRecDepth 100000 in
set_option maxHeartbeats 4000000 in
theorem tInstruction_appendOperand_wri_77 {L : Nat} {e : vmD} {Qo : Option Value → vmW → Prop} {Q : vmD → Prop} (hQ : ∀ d, Q d → Qo none (wC L d e)) (x4 : Int32) (s0 : Int32) (d : vmD) (h : Instruction_appendOperand_wri_77 x4 s0 d Q) : vmWp 71 77 [(0, .ref 19), (1, .ref 13), (4, .int x4)] [.int s0, .ref 13] (wC L d e) Qo := by
  unfold Instruction_appendOperand_wri_77 at h
  refine st_callv (k' := 192) (as := [.ref 13, .int s0]) (rest := []) (lo' := [(0, .ref 13), (1, .int s0)]) (wf := fun d => wC L d e) rfl rfl rfl ?_
  refine tText_add_wri (fun d_15 h => ⟨d_15, rfl, rfl, ?_⟩) s0 d h
  refine st_go 4 (pc' := 88) (lo' := [(0, .ref 19), (1, .ref 13), (4, .int x4)]) (st' := [.int (if 0 ≤ (gF d_15 19 8) then (gF d_15 19 8) else 0 - (gF d_15 19 8)), .ref 13]) rfl ?_
  refine st_callv (k' := 193) (as := [.ref 13, .int (if 0 ≤ (gF d_15 19 8) then (gF d_15 19 8) else 0 - (gF d_15 19 8))]) (rest := []) (lo' := [(0, .ref 13), (1, .int (if 0 ≤ (gF d_15 19 8) then (gF d_15 19 8) else 0 - (gF d_15 19 8)))]) (wf := fun d => wC L d e) rfl rfl rfl ?_
  refine tText_addNumber_wri (fun d_16 h => ⟨d_16, rfl, rfl, ?_⟩) (if 0 ≤ (gF d_15 19 8) then (gF d_15 19 8) else 0 - (gF d_15 19 8)) d_15 h
  refine vmWp.sub (lo' := [(1, .ref 13), (4, .int x4)]) ⟨rfl, rfl, trivial⟩ ?_
  exact tInstruction_appendOperand_wri_91 hQ x4 d_16 h
set_option maxRecDepth 100000 in
def Instruction_appendOperand_wri_55 (x2 : Int32) (x4 : Int32) (d : vmD) (Q : vmD → Prop) : Prop :=
  Instruction_isNear x2 d fun r_10 d_9 =>
  if r_10 = 0 then
  (Instruction_appendOperand_wri_91 x4 d_9 Q)
  else
  (if (gF d_9 19 8) < 0 then
  (Instruction_appendOperand_wri_77 x4 45 d_9 Q)
  else
  (Instruction_appendOperand_wri_77 x4 43 d_9 Q))
set_option maxRecDepth 100000 in
set_option maxHeartbeats 4000000 in
theorem tInstruction_appendOperand_wri_55 {L : Nat} {e : vmD} {Qo : Option Value → vmW → Prop} {Q : vmD → Prop} (hQ : ∀ d, Q d → Qo none (wC L d e)) (x2 : Int32) (x4 : Int32) (d : vmD) (h : Instruction_appendOperand_wri_55 x2 x4 d Q) : vmWp 71 55 [(0, .ref 19), (1, .ref 13), (2, .int x2), (4, .int x4)] [] (wC L d e) Qo := by
  unfold Instruction_appendOperand_wri_55 at h
  refine st_go 1 (pc' := 56) (lo' := [(0, .ref 19), (1, .ref 13), (2, .int x2), (4, .int x4)]) (st' := [.int x2]) rfl ?_
  refine st_calli (k' := 60) (as := [.int x2]) (rest := []) (lo' := [(0, .int x2)]) (wf := fun d => wC L d e) rfl rfl rfl ?_
  refine tInstruction_isNear (fun r_10 d_9 h => ⟨r_10, d_9, rfl, rfl, ?_⟩) x2 d h
  by_cases hc_11 : r_10 = 0
  · have h := Eq.mp (if_pos hc_11) h
    refine st_if (t := 91) (b := true) rfl (decide_eq_true hc_11) rfl ?_
    refine vmWp.sub (lo' := [(1, .ref 13), (4, .int x4)]) ⟨rfl, rfl, trivial⟩ ?_
    exact tInstruction_appendOperand_wri_91 hQ x4 d_9 h
  · have h := Eq.mp (if_neg hc_11) h
    refine st_if (t := 62) (b := false) rfl (decide_eq_false hc_11) rfl ?_
    refine st_go 3 (pc' := 67) (lo' := [(0, .ref 19), (1, .ref 13), (2, .int x2), (4, .int x4)]) (st' := [.int (gF d_9 19 8), .ref 13]) rfl ?_
    by_cases hc_14 : (gF d_9 19 8) < 0
    · have h := Eq.mp (if_pos hc_14) h
      refine st_if (t := 70) (b := false) rfl (decide_eq_false (Int32.not_le.mpr hc_14)) rfl ?_
      refine st_go 2 (pc' := 77) (lo' := [(0, .ref 19), (1, .ref 13), (2, .int x2), (4, .int x4)]) (st' := [.int 45, .ref 13]) rfl ?_
      refine vmWp.sub (lo' := [(0, .ref 19), (1, .ref 13), (4, .int x4)]) ⟨rfl, rfl, rfl, trivial⟩ ?_
      exact tInstruction_appendOperand_wri_77 hQ x4 45 d_9 h
    · have h := Eq.mp (if_neg hc_14) h
      refine st_if (t := 75) (b := true) rfl (decide_eq_true (Int32.not_lt.mp hc_14)) rfl ?_
      refine st_go 1 (pc' := 77) (lo' := [(0, .ref 19), (1, .ref 13), (2, .int x2), (4, .int x4)]) (st' := [.int 43, .ref 13]) rfl ?_
      refine vmWp.sub (lo' := [(0, .ref 19), (1, .ref 13), (4, .int x4)]) ⟨rfl, rfl, rfl, trivial⟩ ?_
      exact tInstruction_appendOperand_wri_77 hQ x4 43 d_9 h
set_option maxRecDepth 100000 in
def Instruction_appendOperand_wri_28 (x2 : Int32) (x3 : Int32) (x4 : Int32) (d : vmD) (Q : vmD → Prop) : Prop :=
  Instruction_isNumber x2 d fun r_6 d_5 =>
  if r_6 = 0 then
  (Names_append_wri x3 d_5 fun d_8 =>
  Instruction_appendOperand_wri_55 x2 x4 d_8 Q)
  else
  (Text_addNumber_wri (gF d_5 19 9) d_5 fun d_17 =>
  Instruction_appendOperand_wri_55 x2 x4 d_17 Q)
set_option maxRecDepth 100000 in
set_option maxHeartbeats 4000000 in
theorem tInstruction_appendOperand_wri_28 {L : Nat} {e : vmD} {Qo : Option Value → vmW → Prop} {Q : vmD → Prop} (hQ : ∀ d, Q d → Qo none (wC L d e)) (x2 : Int32) (x3 : Int32) (x4 : Int32) (d : vmD) (h : Instruction_appendOperand_wri_28 x2 x3 x4 d Q) : vmWp 71 28 [(0, .ref 19), (1, .ref 13), (2, .int x2), (3, .int x3), (4, .int x4)] [] (wC L d e) Qo := by
  unfold Instruction_appendOperand_wri_28 at h
  refine st_go 1 (pc' := 29) (lo' := [(0, .ref 19), (1, .ref 13), (2, .int x2), (3, .int x3), (4, .int x4)]) (st' := [.int x2]) rfl ?_
  refine st_calli (k' := 61) (as := [.int x2]) (rest := []) (lo' := [(0, .int x2)]) (wf := fun d => wC L d e) rfl rfl rfl ?_
  refine tInstruction_isNumber (fun r_6 d_5 h => ⟨r_6, d_5, rfl, rfl, ?_⟩) x2 d h
  by_cases hc_7 : r_6 = 0
  · have h := Eq.mp (if_pos hc_7) h
    refine st_if (t := 46) (b := true) rfl (decide_eq_true hc_7) rfl ?_
    refine st_go 4 (pc' := 52) (lo' := [(0, .ref 19), (1, .ref 13), (2, .int x2), (3, .int x3), (4, .int x4)]) (st' := [.int x3, .ref 13, .ref 3]) rfl ?_
    refine st_callv (k' := 138) (as := [.ref 3, .ref 13, .int x3]) (rest := []) (lo' := [(0, .ref 3), (1, .ref 13), (2, .int x3)]) (wf := fun d => wC L d e) rfl rfl rfl ?_
    refine tNames_append_wri (fun d_8 h => ⟨d_8, rfl, rfl, ?_⟩) x3 d_5 h
    refine vmWp.sub (lo' := [(0, .ref 19), (1, .ref 13), (2, .int x2), (4, .int x4)]) ⟨rfl, rfl, rfl, rfl, trivial⟩ ?_
    exact tInstruction_appendOperand_wri_55 hQ x2 x4 d_8 h
  · have h := Eq.mp (if_neg hc_7) h
    refine st_if (t := 35) (b := false) rfl (decide_eq_false hc_7) rfl ?_
    refine st_go 3 (pc' := 40) (lo' := [(0, .ref 19), (1, .ref 13), (2, .int x2), (3, .int x3), (4, .int x4)]) (st' := [.int (gF d_5 19 9), .ref 13]) rfl ?_
    refine st_callv (k' := 193) (as := [.ref 13, .int (gF d_5 19 9)]) (rest := []) (lo' := [(0, .ref 13), (1, .int (gF d_5 19 9))]) (wf := fun d => wC L d e) rfl rfl rfl ?_
    refine tText_addNumber_wri (fun d_17 h => ⟨d_17, rfl, rfl, ?_⟩) (gF d_5 19 9) d_5 h
    refine st_go 1 (pc' := 55) (lo' := [(0, .ref 19), (1, .ref 13), (2, .int x2), (3, .int x3), (4, .int x4)]) (st' := []) rfl ?_
    refine vmWp.sub (lo' := [(0, .ref 19), (1, .ref 13), (2, .int x2), (4, .int x4)]) ⟨rfl, rfl, rfl, rfl, trivial⟩ ?_
    exact tInstruction_appendOperand_wri_55 hQ x2 x4 d_17 h
set_option maxRecDepth 100000 in
def Instruction_appendOperand_wri_15 (x2 : Int32) (x3 : Int32) (s0 : Int32) (d : vmD) (Q : vmD → Prop) : Prop :=
  if s0 = 0 then
  (Instruction_appendOperand_wri_28 x2 x3 s0 d Q)
  else
  (Text_add_wri 40 d fun d_18 =>
  Instruction_appendOperand_wri_28 x2 x3 s0 d_18 Q)
set_option maxRecDepth 100000 in
set_option maxHeartbeats 4000000 in
theorem tInstruction_appendOperand_wri_15 {L : Nat} {e : vmD} {Qo : Option Value → vmW → Prop} {Q : vmD → Prop} (hQ : ∀ d, Q d → Qo none (wC L d e)) (x2 : Int32) (x3 : Int32) (s0 : Int32) (d : vmD) (h : Instruction_appendOperand_wri_15 x2 x3 s0 d Q) : vmWp 71 15 [(0, .ref 19), (1, .ref 13), (2, .int x2), (3, .int x3)] [.int s0] (wC L d e) Qo := by
  unfold Instruction_appendOperand_wri_15 at h
  refine st_go 2 (pc' := 19) (lo' := [(4, .int s0), (0, .ref 19), (1, .ref 13), (2, .int x2), (3, .int x3)]) (st' := [.int s0]) rfl ?_
  by_cases hc_4 : s0 = 0
  · have h := Eq.mp (if_pos hc_4) h
    refine st_if (t := 28) (b := true) rfl (decide_eq_true hc_4) rfl ?_
    refine vmWp.sub (lo' := [(0, .ref 19), (1, .ref 13), (2, .int x2), (3, .int x3), (4, .int s0)]) ⟨rfl, rfl, rfl, rfl, rfl, trivial⟩ ?_
    exact tInstruction_appendOperand_wri_28 hQ x2 x3 s0 d h
  · have h := Eq.mp (if_neg hc_4) h
    refine st_if (t := 22) (b := false) rfl (decide_eq_false hc_4) rfl ?_
    refine st_go 2 (pc' := 25) (lo' := [(4, .int s0), (0, .ref 19), (1, .ref 13), (2, .int x2), (3, .int x3)]) (st' := [.int 40, .ref 13]) rfl ?_
    refine st_callv (k' := 192) (as := [.ref 13, .int 40]) (rest := []) (lo' := [(0, .ref 13), (1, .int 40)]) (wf := fun d => wC L d e) rfl rfl rfl ?_
    refine tText_add_wri (fun d_18 h => ⟨d_18, rfl, rfl, ?_⟩) 40 d h
    refine vmWp.sub (lo' := [(0, .ref 19), (1, .ref 13), (2, .int x2), (3, .int x3), (4, .int s0)]) ⟨rfl, rfl, rfl, rfl, rfl, trivial⟩ ?_
    exact tInstruction_appendOperand_wri_28 hQ x2 x3 s0 d_18 h
set_option maxRecDepth 100000 in
def Instruction_appendOperand_wri (x2 : Int32) (d : vmD) (Q : vmD → Prop) : Prop :=
  Instruction_insideOf x2 d fun r_2 d_1 =>
  if r_2 = x2 then
  (Instruction_appendOperand_wri_15 x2 r_2 0 d_1 Q)
  else
  (Instruction_appendOperand_wri_15 x2 r_2 1 d_1 Q)
set_option maxRecDepth 100000 in
set_option maxHeartbeats 4000000 in
theorem tInstruction_appendOperand_wri {L : Nat} {e : vmD} {Qo : Option Value → vmW → Prop} {Q : vmD → Prop} (hQ : ∀ d, Q d → Qo none (wC L d e)) (x2 : Int32) (d : vmD) (h : Instruction_appendOperand_wri x2 d Q) : vmWp 71 0 [(0, .ref 19), (1, .ref 13), (2, .int x2)] [] (wC L d e) Qo := by
  unfold Instruction_appendOperand_wri at h
  refine st_go 1 (pc' := 1) (lo' := [(0, .ref 19), (1, .ref 13), (2, .int x2)]) (st' := [.int x2]) rfl ?_
  refine st_calli (k' := 72) (as := [.int x2]) (rest := []) (lo' := [(0, .int x2)]) (wf := fun d => wC L d e) rfl rfl rfl ?_
  refine tInstruction_insideOf (fun r_2 d_1 h => ⟨r_2, d_1, rfl, rfl, ?_⟩) x2 d h
  refine st_go 3 (pc' := 7) (lo' := [(3, .int r_2), (0, .ref 19), (1, .ref 13), (2, .int x2)]) (st' := [.int x2, .int r_2]) rfl ?_
  by_cases hc_3 : r_2 = x2
  · have h := Eq.mp (if_pos hc_3) h
    refine st_icmp (t := 14) (b := true) rfl (decide_eq_true hc_3) rfl ?_
    refine st_go 1 (pc' := 15) (lo' := [(3, .int r_2), (0, .ref 19), (1, .ref 13), (2, .int x2)]) (st' := [.int 0]) rfl ?_
    refine vmWp.sub (lo' := [(0, .ref 19), (1, .ref 13), (2, .int x2), (3, .int r_2)]) ⟨rfl, rfl, rfl, rfl, trivial⟩ ?_
    exact tInstruction_appendOperand_wri_15 hQ x2 r_2 0 d_1 h
  · have h := Eq.mp (if_neg hc_3) h
    refine st_icmp (t := 10) (b := false) rfl (decide_eq_false hc_3) rfl ?_
    refine st_go 2 (pc' := 15) (lo' := [(3, .int r_2), (0, .ref 19), (1, .ref 13), (2, .int x2)]) (st' := [.int 1]) rfl ?_
    refine vmWp.sub (lo' := [(0, .ref 19), (1, .ref 13), (2, .int x2), (3, .int r_2)]) ⟨rfl, rfl, rfl, rfl, trivial⟩ ?_
    exact tInstruction_appendOperand_wri_15 hQ x2 r_2 1 d_1 h
set_option maxRecDepth 100000 in
def Instruction_appendTo_wri_34 (d : vmD) (Q : vmD → Prop) : Prop :=
  if (0 : Int32) < (gF d 19 7) then
  (Text_add_wri 44 d fun d_6 =>
  Instruction_appendOperand_wri (gF d_6 19 7) d_6 fun d_7 =>
  Q d_7)
  else
  (Q d)
set_option maxRecDepth 100000 in
set_option maxHeartbeats 4000000 in
theorem tInstruction_appendTo_wri_34 {L : Nat} {e : vmD} {Qo : Option Value → vmW → Prop} {Q : vmD → Prop} (hQ : ∀ d, Q d → Qo none (wC L d e)) (d : vmD) (h : Instruction_appendTo_wri_34 d Q) : vmWp 70 34 [(0, .ref 19), (1, .ref 13)] [] (wC L d e) Qo := by
  unfold Instruction_appendTo_wri_34 at h
  refine st_go 2 (pc' := 38) (lo' := [(0, .ref 19), (1, .ref 13)]) (st' := [.int (gF d 19 7)]) rfl ?_
  by_cases hc_5 : (0 : Int32) < (gF d 19 7)
  · have h := Eq.mp (if_pos hc_5) h
    refine st_if (t := 41) (b := false) rfl (decide_eq_false (Int32.not_le.mpr hc_5)) rfl ?_
    refine st_go 2 (pc' := 44) (lo' := [(0, .ref 19), (1, .ref 13)]) (st' := [.int 44, .ref 13]) rfl ?_
    refine st_callv (k' := 192) (as := [.ref 13, .int 44]) (rest := []) (lo' := [(0, .ref 13), (1, .int 44)]) (wf := fun d => wC L d e) rfl rfl rfl ?_
    refine tText_add_wri (fun d_6 h => ⟨d_6, rfl, rfl, ?_⟩) 44 d h
    refine st_go 4 (pc' := 53) (lo' := [(0, .ref 19), (1, .ref 13)]) (st' := [.int (gF d_6 19 7), .ref 13, .ref 19]) rfl ?_
    refine st_callv (k' := 71) (as := [.ref 19, .ref 13, .int (gF d_6 19 7)]) (rest := []) (lo' := [(0, .ref 19), (1, .ref 13), (2, .int (gF d_6 19 7))]) (wf := fun d => wC L d e) rfl rfl rfl ?_
    refine tInstruction_appendOperand_wri (fun d_7 h => ⟨d_7, rfl, rfl, ?_⟩) (gF d_6 19 7) d_6 h
    exact st_retV rfl rfl (hQ _ h)
  · have h := Eq.mp (if_neg hc_5) h
    refine st_if (t := 56) (b := true) rfl (decide_eq_true (Int32.not_lt.mp hc_5)) rfl ?_
    exact st_retV rfl rfl (hQ _ h)
set_option maxRecDepth 100000 in
def Instruction_appendTo_wri (d : vmD) (Q : vmD → Prop) : Prop :=
  Names_append_wri (gF d 19 5) d fun d_1 =>
  if (0 : Int32) < (gF d_1 19 6) then
  (Text_add_wri 32 d_1 fun d_3 =>
  Instruction_appendOperand_wri (gF d_3 19 6) d_3 fun d_4 =>
  Instruction_appendTo_wri_34 d_4 Q)
  else
  (Instruction_appendTo_wri_34 d_1 Q)
set_option maxRecDepth 100000 in
set_option maxHeartbeats 4000000 in
theorem tInstruction_appendTo_wri {L : Nat} {e : vmD} {Qo : Option Value → vmW → Prop} {Q : vmD → Prop} (hQ : ∀ d, Q d → Qo none (wC L d e)) (d : vmD) (h : Instruction_appendTo_wri d Q) : vmWp 70 0 [(0, .ref 19), (1, .ref 13)] [] (wC L d e) Qo := by
  unfold Instruction_appendTo_wri at h
  refine st_go 5 (pc' := 9) (lo' := [(0, .ref 19), (1, .ref 13)]) (st' := [.int (gF d 19 5), .ref 13, .ref 3]) rfl ?_
  refine st_callv (k' := 138) (as := [.ref 3, .ref 13, .int (gF d 19 5)]) (rest := []) (lo' := [(0, .ref 3), (1, .ref 13), (2, .int (gF d 19 5))]) (wf := fun d => wC L d e) rfl rfl rfl ?_
  refine tNames_append_wri (fun d_1 h => ⟨d_1, rfl, rfl, ?_⟩) (gF d 19 5) d h
  refine st_go 2 (pc' := 16) (lo' := [(0, .ref 19), (1, .ref 13)]) (st' := [.int (gF d_1 19 6)]) rfl ?_
  by_cases hc_2 : (0 : Int32) < (gF d_1 19 6)
  · have h := Eq.mp (if_pos hc_2) h
    refine st_if (t := 19) (b := false) rfl (decide_eq_false (Int32.not_le.mpr hc_2)) rfl ?_
    refine st_go 2 (pc' := 22) (lo' := [(0, .ref 19), (1, .ref 13)]) (st' := [.int 32, .ref 13]) rfl ?_
    refine st_callv (k' := 192) (as := [.ref 13, .int 32]) (rest := []) (lo' := [(0, .ref 13), (1, .int 32)]) (wf := fun d => wC L d e) rfl rfl rfl ?_
    refine tText_add_wri (fun d_3 h => ⟨d_3, rfl, rfl, ?_⟩) 32 d_1 h
    refine st_go 4 (pc' := 31) (lo' := [(0, .ref 19), (1, .ref 13)]) (st' := [.int (gF d_3 19 6), .ref 13, .ref 19]) rfl ?_
    refine st_callv (k' := 71) (as := [.ref 19, .ref 13, .int (gF d_3 19 6)]) (rest := []) (lo' := [(0, .ref 19), (1, .ref 13), (2, .int (gF d_3 19 6))]) (wf := fun d => wC L d e) rfl rfl rfl ?_
    refine tInstruction_appendOperand_wri (fun d_4 h => ⟨d_4, rfl, rfl, ?_⟩) (gF d_3 19 6) d_3 h
    refine vmWp.sub (lo' := [(0, .ref 19), (1, .ref 13)]) ⟨rfl, rfl, trivial⟩ ?_
    exact tInstruction_appendTo_wri_34 hQ d_4 h
  · have h := Eq.mp (if_neg hc_2) h
    refine st_if (t := 34) (b := true) rfl (decide_eq_true (Int32.not_lt.mp hc_2)) rfl ?_
    refine vmWp.sub (lo' := [(0, .ref 19), (1, .ref 13)]) ⟨rfl, rfl, trivial⟩ ?_
    exact tInstruction_appendTo_wri_34 hQ d_1 h
set_option maxRecDepth 100000 in
def Instruction_size (d : vmD) (Q : Int32 → vmD → Prop) : Prop :=
  Q (gF d 19 10) d
set_option maxRecDepth 100000 in
set_option maxHeartbeats 4000000 in
theorem tInstruction_size {L : Nat} {e : vmD} {Qo : Option Value → vmW → Prop} {Q : Int32 → vmD → Prop} (hQ : ∀ r d, Q r d → Qo (some (.int r)) (wC L d e)) (d : vmD) (h : Instruction_size d Q) : vmWp 69 0 [(0, .ref 19)] [] (wC L d e) Qo := by
  unfold Instruction_size at h
  refine st_go 2 (pc' := 4) (lo' := [(0, .ref 19)]) (st' := [.int (gF d 19 10)]) rfl ?_
  exact st_retI rfl rfl (hQ _ _ h)
set_option maxRecDepth 100000 in
def OF_write (x1 : Int32) (d : vmD) (Q : Int32 → vmD → Prop) : Prop :=
  if x1 < 0 then
  (Q (-2) d)
  else
  (if x1 < 65536 then
  (Instruction_look x1 d fun d_3 =>
  Text_empty_wri d_3 fun d_4 =>
  Instruction_appendTo_wri d_4 fun d_5 =>
  Instruction_size d_5 fun r_7 d_6 =>
  Q r_7 d_6)
  else
  (Q (-2) d))
set_option maxRecDepth 100000 in
set_option maxHeartbeats 4000000 in
theorem tOF_write {L : Nat} {e : vmD} {Qo : Option Value → vmW → Prop} {Q : Int32 → vmD → Prop} (hQ : ∀ r d, Q r d → Qo (some (.int r)) (wC L d e)) (x1 : Int32) (d : vmD) (h : OF_write x1 d Q) : vmWp 227 0 [(0, .ref 0), (1, .int x1)] [] (wC L d e) Qo := by
  unfold OF_write at h
  refine st_go 1 (pc' := 1) (lo' := [(0, .ref 0), (1, .int x1)]) (st' := [.int x1]) rfl ?_
  by_cases hc_1 : x1 < 0
  · have h := Eq.mp (if_pos hc_1) h
    refine st_if (t := 10) (b := true) rfl (decide_eq_true hc_1) rfl ?_
    refine st_go 1 (pc' := 12) (lo' := [(0, .ref 0), (1, .int x1)]) (st' := [.int (-2)]) rfl ?_
    exact st_retI rfl rfl (hQ _ _ h)
  · have h := Eq.mp (if_neg hc_1) h
    refine st_if (t := 4) (b := false) rfl (decide_eq_false hc_1) rfl ?_
    refine st_go 2 (pc' := 7) (lo' := [(0, .ref 0), (1, .int x1)]) (st' := [.int 65536, .int x1]) rfl ?_
    by_cases hc_2 : x1 < 65536
    · have h := Eq.mp (if_pos hc_2) h
      refine st_icmp (t := 13) (b := true) rfl (decide_eq_true hc_2) rfl ?_
      refine st_go 3 (pc' := 18) (lo' := [(0, .ref 0), (1, .int x1)]) (st' := [.int x1, .ref 19]) rfl ?_
      refine st_callv (k' := 58) (as := [.ref 19, .int x1]) (rest := []) (lo' := [(0, .ref 19), (1, .int x1)]) (wf := fun d => wC L d e) rfl rfl rfl ?_
      refine tInstruction_look (fun d_3 h => ⟨d_3, rfl, rfl, ?_⟩) x1 d h
      refine st_go 2 (pc' := 25) (lo' := [(0, .ref 0), (1, .int x1)]) (st' := [.ref 13]) rfl ?_
      refine st_callv (k' := 189) (as := [.ref 13]) (rest := []) (lo' := [(0, .ref 13)]) (wf := fun d => wC L d e) rfl rfl rfl ?_
      refine tText_empty_wri (fun d_4 h => ⟨d_4, rfl, rfl, ?_⟩) d_3 h
      refine st_go 4 (pc' := 36) (lo' := [(0, .ref 0), (1, .int x1)]) (st' := [.ref 13, .ref 19]) rfl ?_
      refine st_callv (k' := 70) (as := [.ref 19, .ref 13]) (rest := []) (lo' := [(0, .ref 19), (1, .ref 13)]) (wf := fun d => wC L d e) rfl rfl rfl ?_
      refine tInstruction_appendTo_wri (fun d_5 h => ⟨d_5, rfl, rfl, ?_⟩) d_4 h
      refine st_go 2 (pc' := 43) (lo' := [(0, .ref 0), (1, .int x1)]) (st' := [.ref 19]) rfl ?_
      refine st_calli (k' := 69) (as := [.ref 19]) (rest := []) (lo' := [(0, .ref 19)]) (wf := fun d => wC L d e) rfl rfl rfl ?_
      refine tInstruction_size (fun r_7 d_6 h => ⟨r_7, d_6, rfl, rfl, ?_⟩) d_5 h
      exact st_retI rfl rfl (hQ _ _ h)
    · have h := Eq.mp (if_neg hc_2) h
      refine st_icmp (t := 10) (b := false) rfl (decide_eq_false hc_2) rfl ?_
      refine st_go 1 (pc' := 12) (lo' := [(0, .ref 0), (1, .int x1)]) (st' := [.int (-2)]) rfl ?_
      exact st_retI rfl rfl (hQ _ _ h)
set_option maxRecDepth 100000 in
def Text_at_wri (x1 : Int32) (d : vmD) (Q : Int32 → vmD → Prop) : Prop :=
  if x1 < 0 then
  (Q (-1) d)
  else
  (if x1 < (gF d 13 1) then
  (if x1 < 32 then
  (ixOk x1 32 ∧
  bnd (gA d 14 x1.toNatClampNeg) fun y_5 =>
  Q (y_5 &&& 255) d)
  else
  (Q (-1) d))
  else
  (Q (-1) d))
set_option maxRecDepth 100000 in
set_option maxHeartbeats 4000000 in
theorem tText_at_wri {L : Nat} {e : vmD} {Qo : Option Value → vmW → Prop} {Q : Int32 → vmD → Prop} (hQ : ∀ r d, Q r d → Qo (some (.int r)) (wC L d e)) (x1 : Int32) (d : vmD) (h : Text_at_wri x1 d Q) : vmWp 191 0 [(0, .ref 13), (1, .int x1)] [] (wC L d e) Qo := by
  unfold Text_at_wri at h
  refine st_go 1 (pc' := 1) (lo' := [(0, .ref 13), (1, .int x1)]) (st' := [.int x1]) rfl ?_
  by_cases hc_1 : x1 < 0
  · have h := Eq.mp (if_pos hc_1) h
    refine st_if (t := 34) (b := true) rfl (decide_eq_true hc_1) rfl ?_
    refine st_go 1 (pc' := 35) (lo' := [(0, .ref 13), (1, .int x1)]) (st' := [.int (-1)]) rfl ?_
    exact st_retI rfl rfl (hQ _ _ h)
  · have h := Eq.mp (if_neg hc_1) h
    refine st_if (t := 4) (b := false) rfl (decide_eq_false hc_1) rfl ?_
    refine st_go 3 (pc' := 9) (lo' := [(0, .ref 13), (1, .int x1)]) (st' := [.int (gF d 13 1), .int x1]) rfl ?_
    by_cases hc_2 : x1 < (gF d 13 1)
    · have h := Eq.mp (if_pos hc_2) h
      refine st_icmp (t := 12) (b := false) rfl (decide_eq_false (Int32.not_le.mpr hc_2)) rfl ?_
      refine st_go 4 (pc' := 18) (lo' := [(0, .ref 13), (1, .int x1)]) (st' := [.int 32, .int x1]) rfl ?_
      by_cases hc_3 : x1 < 32
      · have h := Eq.mp (if_pos hc_3) h
        refine st_icmp (t := 21) (b := false) rfl (decide_eq_false (Int32.not_le.mpr hc_3)) rfl ?_
        refine st_go 3 (pc' := 26) (lo' := [(0, .ref 13), (1, .int x1)]) (st' := [.int x1, .ref 14]) rfl ?_
        obtain ⟨hj_4, h⟩ := h
        refine st_baldC (o := 14) rfl rfl hj_4 rfl (fun y_5 hy_y_5 => ?_)
        have h := h y_5 hy_y_5
        refine st_go 3 (pc' := 35) (lo' := [(0, .ref 13), (1, .int x1)]) (st' := [.int (y_5 &&& 255)]) rfl ?_
        exact st_retI rfl rfl (hQ _ _ h)
      · have h := Eq.mp (if_neg hc_3) h
        refine st_icmp (t := 34) (b := true) rfl (decide_eq_true (Int32.not_lt.mp hc_3)) rfl ?_
        refine st_go 1 (pc' := 35) (lo' := [(0, .ref 13), (1, .int x1)]) (st' := [.int (-1)]) rfl ?_
        exact st_retI rfl rfl (hQ _ _ h)
    · have h := Eq.mp (if_neg hc_2) h
      refine st_icmp (t := 34) (b := true) rfl (decide_eq_true (Int32.not_lt.mp hc_2)) rfl ?_
      refine st_go 1 (pc' := 35) (lo' := [(0, .ref 13), (1, .int x1)]) (st' := [.int (-1)]) rfl ?_
      exact st_retI rfl rfl (hQ _ _ h)
set_option maxRecDepth 100000 in
def OF_sign (x1 : Int32) (d : vmD) (Q : Int32 → vmD → Prop) : Prop :=
  Text_at_wri x1 d fun r_2 d_1 =>
  Q r_2 d_1
set_option maxRecDepth 100000 in
set_option maxHeartbeats 4000000 in
theorem tOF_sign {L : Nat} {e : vmD} {Qo : Option Value → vmW → Prop} {Q : Int32 → vmD → Prop} (hQ : ∀ r d, Q r d → Qo (some (.int r)) (wC L d e)) (x1 : Int32) (d : vmD) (h : OF_sign x1 d Q) : vmWp 228 0 [(0, .ref 0), (1, .int x1)] [] (wC L d e) Qo := by
  unfold OF_sign at h
  refine st_go 3 (pc' := 5) (lo' := [(0, .ref 0), (1, .int x1)]) (st' := [.int x1, .ref 13]) rfl ?_
  refine st_calli (k' := 191) (as := [.ref 13, .int x1]) (rest := []) (lo' := [(0, .ref 13), (1, .int x1)]) (wf := fun d => wC L d e) rfl rfl rfl ?_
  refine tText_at_wri (fun r_2 d_1 h => ⟨r_2, d_1, rfl, rfl, ?_⟩) x1 d h
  exact st_retI rfl rfl (hQ _ _ h)
set_option maxRecDepth 100000 in
def Text_empty_dra (d : vmD) (Q : vmD → Prop) : Prop :=
  bnd (sF d 11 1 0) fun d_1 =>
  Q d_1
set_option maxRecDepth 100000 in
set_option maxHeartbeats 4000000 in
theorem tText_empty_dra {L : Nat} {e : vmD} {Qo : Option Value → vmW → Prop} {Q : vmD → Prop} (hQ : ∀ d, Q d → Qo none (wC L d e)) (d : vmD) (h : Text_empty_dra d Q) : vmWp 189 0 [(0, .ref 11)] [] (wC L d e) Qo := by
  unfold Text_empty_dra at h
  refine st_go 2 (pc' := 2) (lo' := [(0, .ref 11)]) (st' := [.int 0, .ref 11]) rfl ?_
  refine st_putIC (o := 11) (f := 1) rfl rfl rfl rfl rfl (fun d_1 hy_d_1 => ?_)
  have h := h d_1 hy_d_1
  exact st_retV rfl rfl (hQ _ h)
set_option maxRecDepth 100000 in
def Text_add_dra (x1 : Int32) (d : vmD) (Q : vmD → Prop) : Prop :=
  if (gF d 11 1) < 0 then
  (Q d)
  else
  (if (gF d 11 1) < 6001 then
  (ixOk (gF d 11 1) 6001 ∧
  bnd (sA d 12 (gF d 11 1).toNatClampNeg ((Int8.toInt32 (Int32.toInt8 x1)).toInt8.toInt32)) fun d_4 =>
  bnd (sF d_4 11 1 ((gF d_4 11 1) + 1)) fun d_5 =>
  Q d_5)
  else
  (Q d))
set_option maxRecDepth 100000 in
set_option maxHeartbeats 4000000 in
theorem tText_add_dra {L : Nat} {e : vmD} {Qo : Option Value → vmW → Prop} {Q : vmD → Prop} (hQ : ∀ d, Q d → Qo none (wC L d e)) (x1 : Int32) (d : vmD) (h : Text_add_dra x1 d Q) : vmWp 192 0 [(0, .ref 11), (1, .int x1)] [] (wC L d e) Qo := by
  unfold Text_add_dra at h
  refine st_go 2 (pc' := 4) (lo' := [(0, .ref 11), (1, .int x1)]) (st' := [.int (gF d 11 1)]) rfl ?_
  by_cases hc_1 : (gF d 11 1) < 0
  · have h := Eq.mp (if_pos hc_1) h
    refine st_if (t := 40) (b := true) rfl (decide_eq_true hc_1) rfl ?_
    exact st_retV rfl rfl (hQ _ h)
  · have h := Eq.mp (if_neg hc_1) h
    refine st_if (t := 7) (b := false) rfl (decide_eq_false hc_1) rfl ?_
    refine st_go 5 (pc' := 16) (lo' := [(0, .ref 11), (1, .int x1)]) (st' := [.int 6001, .int (gF d 11 1)]) rfl ?_
    by_cases hc_2 : (gF d 11 1) < 6001
    · have h := Eq.mp (if_pos hc_2) h
      refine st_icmp (t := 19) (b := false) rfl (decide_eq_false (Int32.not_le.mpr hc_2)) rfl ?_
      refine st_go 6 (pc' := 29) (lo' := [(0, .ref 11), (1, .int x1)]) (st' := [.int (Int8.toInt32 (Int32.toInt8 x1)), .int (gF d 11 1), .ref 12]) rfl ?_
      obtain ⟨hj_3, h⟩ := h
      refine st_bastC (o := 12) rfl rfl hj_3 rfl (fun d_4 hy_d_4 => ?_)
      have h := h d_4 hy_d_4
      refine st_go 5 (pc' := 37) (lo' := [(0, .ref 11), (1, .int x1)]) (st' := [.int ((gF d_4 11 1) + 1), .ref 11]) rfl ?_
      refine st_putIC (o := 11) (f := 1) rfl rfl rfl rfl rfl (fun d_5 hy_d_5 => ?_)
      have h := h d_5 hy_d_5
      exact st_retV rfl rfl (hQ _ h)
    · have h := Eq.mp (if_neg hc_2) h
      refine st_icmp (t := 40) (b := true) rfl (decide_eq_true (Int32.not_lt.mp hc_2)) rfl ?_
      exact st_retV rfl rfl (hQ _ h)
set_option maxRecDepth 100000 in
def Names_append_dra_53 (b27 : Int64 → Int32 → vmD → Prop) (x3 : Int64) (x5 : Int32) (d : vmD) (Q : vmD → Prop) : Prop :=
  bnd (x5 + 1) fun x5_6 =>
  b27 x3 x5_6 d
set_option maxRecDepth 100000 in
set_option maxHeartbeats 4000000 in
theorem tNames_append_dra_53 {L : Nat} {e : vmD} {Qo : Option Value → vmW → Prop} {b27 : Int64 → Int32 → vmD → Prop} {Q : vmD → Prop} (hb27 : ∀ x3 x5 d, b27 x3 x5 d → vmWp 138 27 [(1, .ref 11), (3, .long x3), (5, .int x5)] [] (wC L d e) Qo) (hQ : ∀ d, Q d → Qo none (wC L d e)) (x3 : Int64) (x5 : Int32) (d : vmD) (h : Names_append_dra_53 b27 x3 x5 d Q) : vmWp 138 53 [(1, .ref 11), (3, .long x3), (5, .int x5)] [] (wC L d e) Qo := by
  unfold Names_append_dra_53 at h
  refine st_go 1 (pc' := 56) (lo' := [(5, .int (x5 + 1)), (1, .ref 11), (3, .long x3)]) (st' := []) rfl ?_
  refine st_locI (fun x5_6 hy_x5_6 => ?_)
  have h := h x5_6 hy_x5_6
  refine st_go 1 (pc' := 27) (lo' := [(5, .int x5_6), (1, .ref 11), (3, .long x3)]) (st' := []) rfl ?_
  refine vmWp.sub (lo' := [(1, .ref 11), (3, .long x3), (5, .int x5_6)]) ⟨rfl, rfl, rfl, trivial⟩ ?_
  exact hb27 x3 x5_6 d h
set_option maxRecDepth 100000 in
def Names_append_dra_27 (Q : vmD → Prop) : Nat → Int64 → Int32 → vmD → Prop
  | 0, _, _, _ => False
  | n + 1, x3, x5, d => if x5 < 12 then
  (Names_signOf x3 x5 d fun r_4 d_3 =>
  if r_4 < 0 then
  (Names_append_dra_53 (Names_append_dra_27 Q n) x3 x5 d_3 Q)
  else
  (Text_add_dra r_4 d_3 fun d_7 =>
  Names_append_dra_53 (Names_append_dra_27 Q n) x3 x5 d_7 Q))
  else
  (Q d)
set_option maxRecDepth 100000 in
set_option maxHeartbeats 4000000 in
theorem tNames_append_dra_27 {L : Nat} {e : vmD} {Qo : Option Value → vmW → Prop} {Q : vmD → Prop} (hQ : ∀ d, Q d → Qo none (wC L d e)) : ∀ (n : Nat) (x3 : Int64) (x5 : Int32) (d : vmD), Names_append_dra_27 Q n x3 x5 d → vmWp 138 27 [(1, .ref 11), (3, .long x3), (5, .int x5)] [] (wC L d e) Qo := by
  intro n
  induction n with
  | zero => intro x3 x5 d h; exact h.elim
  | succ n ih =>
    intro x3 x5 d h
    unfold Names_append_dra_27 at h
    refine st_go 2 (pc' := 31) (lo' := [(1, .ref 11), (3, .long x3), (5, .int x5)]) (st' := [.int 12, .int x5]) rfl ?_
    by_cases hc_2 : x5 < 12
    · have h := Eq.mp (if_pos hc_2) h
      refine st_icmp (t := 34) (b := false) rfl (decide_eq_false (Int32.not_le.mpr hc_2)) rfl ?_
      refine st_go 2 (pc' := 37) (lo' := [(1, .ref 11), (3, .long x3), (5, .int x5)]) (st' := [.int x5, .long x3]) rfl ?_
      refine st_calli (k' := 137) (as := [.long x3, .int x5]) (rest := []) (lo' := [(0, .long x3), (2, .int x5)]) (wf := fun d => wC L d e) rfl rfl rfl ?_
      refine tNames_signOf (fun r_4 d_3 h => ⟨r_4, d_3, rfl, rfl, ?_⟩) x3 x5 d h
      refine st_go 2 (pc' := 44) (lo' := [(6, .int r_4), (1, .ref 11), (3, .long x3), (5, .int x5)]) (st' := [.int r_4]) rfl ?_
      by_cases hc_5 : r_4 < 0
      · have h := Eq.mp (if_pos hc_5) h
        refine st_if (t := 53) (b := true) rfl (decide_eq_true hc_5) rfl ?_
        refine vmWp.sub (lo' := [(1, .ref 11), (3, .long x3), (5, .int x5)]) ⟨rfl, rfl, rfl, trivial⟩ ?_
        exact tNames_append_dra_53 ih hQ x3 x5 d_3 h
      · have h := Eq.mp (if_neg hc_5) h
        refine st_if (t := 47) (b := false) rfl (decide_eq_false hc_5) rfl ?_
        refine st_go 2 (pc' := 50) (lo' := [(6, .int r_4), (1, .ref 11), (3, .long x3), (5, .int x5)]) (st' := [.int r_4, .ref 11]) rfl ?_
        refine st_callv (k' := 192) (as := [.ref 11, .int r_4]) (rest := []) (lo' := [(0, .ref 11), (1, .int r_4)]) (wf := fun d => wC L d e) rfl rfl rfl ?_
        refine tText_add_dra (fun d_7 h => ⟨d_7, rfl, rfl, ?_⟩) r_4 d_3 h
        refine vmWp.sub (lo' := [(1, .ref 11), (3, .long x3), (5, .int x5)]) ⟨rfl, rfl, rfl, trivial⟩ ?_
        exact tNames_append_dra_53 ih hQ x3 x5 d_7 h
    · have h := Eq.mp (if_neg hc_2) h
      refine st_icmp (t := 59) (b := true) rfl (decide_eq_true (Int32.not_lt.mp hc_2)) rfl ?_
      exact st_retV rfl rfl (hQ _ h)
set_option maxRecDepth 100000 in
def Names_append_dra_23 (s0 : Int64) (d : vmD) (Q : vmD → Prop) : Prop :=
  ∃ m27, Names_append_dra_27 Q m27 s0 0 d
set_option maxRecDepth 100000 in
set_option maxHeartbeats 4000000 in
theorem tNames_append_dra_23 {L : Nat} {e : vmD} {Qo : Option Value → vmW → Prop} {Q : vmD → Prop} (hQ : ∀ d, Q d → Qo none (wC L d e)) (s0 : Int64) (d : vmD) (h : Names_append_dra_23 s0 d Q) : vmWp 138 23 [(1, .ref 11)] [.long s0] (wC L d e) Qo := by
  unfold Names_append_dra_23 at h
  refine st_go 3 (pc' := 27) (lo' := [(5, .int 0), (3, .long s0), (1, .ref 11)]) (st' := []) rfl ?_
  obtain ⟨m27, h⟩ := h
  refine vmWp.sub (lo' := [(1, .ref 11), (3, .long s0), (5, .int 0)]) ⟨rfl, rfl, rfl, trivial⟩ ?_
  exact tNames_append_dra_27 hQ m27 s0 0 d h
set_option maxRecDepth 100000 in
def Names_append_dra_22 (d : vmD) (Q : vmD → Prop) : Prop :=
  Names_append_dra_23 0 d Q
set_option maxRecDepth 100000 in
set_option maxHeartbeats 4000000 in
theorem tNames_append_dra_22 {L : Nat} {e : vmD} {Qo : Option Value → vmW → Prop} {Q : vmD → Prop} (hQ : ∀ d, Q d → Qo none (wC L d e)) (d : vmD) (h : Names_append_dra_22 d Q) : vmWp 138 22 [(1, .ref 11)] [] (wC L d e) Qo := by
  unfold Names_append_dra_22 at h
  refine st_go 1 (pc' := 23) (lo' := [(1, .ref 11)]) (st' := [.long 0]) rfl ?_
  refine vmWp.sub (lo' := [(1, .ref 11)]) ⟨rfl, trivial⟩ ?_
  exact tNames_append_dra_23 hQ 0 d h
set_option maxRecDepth 100000 in
def Names_append_dra (x2 : Int32) (d : vmD) (Q : vmD → Prop) : Prop :=
  if x2 < 0 then
  (Names_append_dra_22 d Q)
  else
  (if x2 < 107 then
  (ixOk x2 107 ∧
  bnd (gL d 4 x2.toNatClampNeg) fun y_10 =>
  Names_append_dra_23 y_10 d Q)
  else
  (Names_append_dra_22 d Q))
set_option maxRecDepth 100000 in
set_option maxHeartbeats 4000000 in
theorem tNames_append_dra {L : Nat} {e : vmD} {Qo : Option Value → vmW → Prop} {Q : vmD → Prop} (hQ : ∀ d, Q d → Qo none (wC L d e)) (x2 : Int32) (d : vmD) (h : Names_append_dra x2 d Q) : vmWp 138 0 [(0, .ref 3), (1, .ref 11), (2, .int x2)] [] (wC L d e) Qo := by
  unfold Names_append_dra at h
  refine st_go 1 (pc' := 1) (lo' := [(0, .ref 3), (1, .ref 11), (2, .int x2)]) (st' := [.int x2]) rfl ?_
  by_cases hc_1 : x2 < 0
  · have h := Eq.mp (if_pos hc_1) h
    refine st_if (t := 22) (b := true) rfl (decide_eq_true hc_1) rfl ?_
    refine vmWp.sub (lo' := [(1, .ref 11)]) ⟨rfl, trivial⟩ ?_
    exact tNames_append_dra_22 hQ d h
  · have h := Eq.mp (if_neg hc_1) h
    refine st_if (t := 4) (b := false) rfl (decide_eq_false hc_1) rfl ?_
    refine st_go 4 (pc' := 10) (lo' := [(0, .ref 3), (1, .ref 11), (2, .int x2)]) (st' := [.int 107, .int x2]) rfl ?_
    by_cases hc_8 : x2 < 107
    · have h := Eq.mp (if_pos hc_8) h
      refine st_icmp (t := 13) (b := false) rfl (decide_eq_false (Int32.not_le.mpr hc_8)) rfl ?_
      refine st_go 3 (pc' := 18) (lo' := [(0, .ref 3), (1, .ref 11), (2, .int x2)]) (st' := [.int x2, .ref 4]) rfl ?_
      obtain ⟨hj_9, h⟩ := h
      refine st_laldC (o := 4) rfl rfl hj_9 rfl (fun y_10 hy_y_10 => ?_)
      have h := h y_10 hy_y_10
      refine st_go 1 (pc' := 23) (lo' := [(0, .ref 3), (1, .ref 11), (2, .int x2)]) (st' := [.long y_10]) rfl ?_
      refine vmWp.sub (lo' := [(1, .ref 11)]) ⟨rfl, trivial⟩ ?_
      exact tNames_append_dra_23 hQ y_10 d h
    · have h := Eq.mp (if_neg hc_8) h
      refine st_icmp (t := 22) (b := true) rfl (decide_eq_true (Int32.not_lt.mp hc_8)) rfl ?_
      refine vmWp.sub (lo' := [(1, .ref 11)]) ⟨rfl, trivial⟩ ?_
      exact tNames_append_dra_22 hQ d h
set_option maxRecDepth 100000 in
def Text_addNumber_dra_51 (b6 : Int32 → Int32 → Int32 → vmD → Prop) (x1 : Int32) (x2 : Int32) (x3 : Int32) (d : vmD) (Q : vmD → Prop) : Prop :=
  bnd (x3 / 10) fun x3_7 =>
  b6 x1 x2 x3_7 d
set_option maxRecDepth 100000 in
set_option maxHeartbeats 4000000 in
theorem tText_addNumber_dra_51 {L : Nat} {e : vmD} {Qo : Option Value → vmW → Prop} {b6 : Int32 → Int32 → Int32 → vmD → Prop} {Q : vmD → Prop} (hb6 : ∀ x1 x2 x3 d, b6 x1 x2 x3 d → vmWp 193 6 [(0, .ref 11), (1, .int x1), (2, .int x2), (3, .int x3)] [] (wC L d e) Qo) (hQ : ∀ d, Q d → Qo none (wC L d e)) (x1 : Int32) (x2 : Int32) (x3 : Int32) (d : vmD) (h : Text_addNumber_dra_51 b6 x1 x2 x3 d Q) : vmWp 193 51 [(0, .ref 11), (1, .int x1), (2, .int x2), (3, .int x3)] [] (wC L d e) Qo := by
  unfold Text_addNumber_dra_51 at h
  refine st_go 2 (pc' := 54) (lo' := [(0, .ref 11), (1, .int x1), (2, .int x2), (3, .int x3)]) (st' := [.int 10, .int x3]) rfl ?_
  refine st_idiv rfl (by decide) ?_
  refine st_go 1 (pc' := 56) (lo' := [(3, .int (x3 / 10)), (0, .ref 11), (1, .int x1), (2, .int x2)]) (st' := []) rfl ?_
  refine st_locI (fun x3_7 hy_x3_7 => ?_)
  have h := h x3_7 hy_x3_7
  refine st_go 1 (pc' := 6) (lo' := [(3, .int x3_7), (0, .ref 11), (1, .int x1), (2, .int x2)]) (st' := []) rfl ?_
  refine vmWp.sub (lo' := [(0, .ref 11), (1, .int x1), (2, .int x2), (3, .int x3_7)]) ⟨rfl, rfl, rfl, rfl, trivial⟩ ?_
  exact hb6 x1 x2 x3_7 d h
set_option maxRecDepth 100000 in
def Text_addNumber_dra_37 (b6 : Int32 → Int32 → Int32 → vmD → Prop) (x1 : Int32) (x3 : Int32) (x4 : Int32) (s0 : Int32) (d : vmD) (Q : vmD → Prop) : Prop :=
  if s0 = 0 then
  (Text_addNumber_dra_51 b6 x1 s0 x3 d Q)
  else
  (Text_add_dra ((48 : Int32) + x4) d fun d_8 =>
  Text_addNumber_dra_51 b6 x1 s0 x3 d_8 Q)
set_option maxRecDepth 100000 in
set_option maxHeartbeats 4000000 in
theorem tText_addNumber_dra_37 {L : Nat} {e : vmD} {Qo : Option Value → vmW → Prop} {b6 : Int32 → Int32 → Int32 → vmD → Prop} {Q : vmD → Prop} (hb6 : ∀ x1 x2 x3 d, b6 x1 x2 x3 d → vmWp 193 6 [(0, .ref 11), (1, .int x1), (2, .int x2), (3, .int x3)] [] (wC L d e) Qo) (hQ : ∀ d, Q d → Qo none (wC L d e)) (x1 : Int32) (x3 : Int32) (x4 : Int32) (s0 : Int32) (d : vmD) (h : Text_addNumber_dra_37 b6 x1 x3 x4 s0 d Q) : vmWp 193 37 [(0, .ref 11), (1, .int x1), (3, .int x3), (4, .int x4)] [.int s0] (wC L d e) Qo := by
  unfold Text_addNumber_dra_37 at h
  refine st_go 2 (pc' := 39) (lo' := [(2, .int s0), (0, .ref 11), (1, .int x1), (3, .int x3), (4, .int x4)]) (st' := [.int s0]) rfl ?_
  by_cases hc_6 : s0 = 0
  · have h := Eq.mp (if_pos hc_6) h
    refine st_if (t := 51) (b := true) rfl (decide_eq_true hc_6) rfl ?_
    refine vmWp.sub (lo' := [(0, .ref 11), (1, .int x1), (2, .int s0), (3, .int x3)]) ⟨rfl, rfl, rfl, rfl, trivial⟩ ?_
    exact tText_addNumber_dra_51 hb6 hQ x1 s0 x3 d h
  · have h := Eq.mp (if_neg hc_6) h
    refine st_if (t := 42) (b := false) rfl (decide_eq_false hc_6) rfl ?_
    refine st_go 4 (pc' := 48) (lo' := [(2, .int s0), (0, .ref 11), (1, .int x1), (3, .int x3), (4, .int x4)]) (st' := [.int ((48 : Int32) + x4), .ref 11]) rfl ?_
    refine st_callv (k' := 192) (as := [.ref 11, .int ((48 : Int32) + x4)]) (rest := []) (lo' := [(0, .ref 11), (1, .int ((48 : Int32) + x4))]) (wf := fun d => wC L d e) rfl rfl rfl ?_
    refine tText_add_dra (fun d_8 h => ⟨d_8, rfl, rfl, ?_⟩) ((48 : Int32) + x4) d h
    refine vmWp.sub (lo' := [(0, .ref 11), (1, .int x1), (2, .int s0), (3, .int x3)]) ⟨rfl, rfl, rfl, rfl, trivial⟩ ?_
    exact tText_addNumber_dra_51 hb6 hQ x1 s0 x3 d_8 h
set_option maxRecDepth 100000 in
def Text_addNumber_dra_32 (b6 : Int32 → Int32 → Int32 → vmD → Prop) (x1 : Int32) (x3 : Int32) (x4 : Int32) (d : vmD) (Q : vmD → Prop) : Prop :=
  Text_addNumber_dra_37 b6 x1 x3 x4 1 d Q
set_option maxRecDepth 100000 in
set_option maxHeartbeats 4000000 in
theorem tText_addNumber_dra_32 {L : Nat} {e : vmD} {Qo : Option Value → vmW → Prop} {b6 : Int32 → Int32 → Int32 → vmD → Prop} {Q : vmD → Prop} (hb6 : ∀ x1 x2 x3 d, b6 x1 x2 x3 d → vmWp 193 6 [(0, .ref 11), (1, .int x1), (2, .int x2), (3, .int x3)] [] (wC L d e) Qo) (hQ : ∀ d, Q d → Qo none (wC L d e)) (x1 : Int32) (x3 : Int32) (x4 : Int32) (d : vmD) (h : Text_addNumber_dra_32 b6 x1 x3 x4 d Q) : vmWp 193 32 [(0, .ref 11), (1, .int x1), (3, .int x3), (4, .int x4)] [] (wC L d e) Qo := by
  unfold Text_addNumber_dra_32 at h
  refine st_go 2 (pc' := 37) (lo' := [(0, .ref 11), (1, .int x1), (3, .int x3), (4, .int x4)]) (st' := [.int 1]) rfl ?_
  refine vmWp.sub (lo' := [(0, .ref 11), (1, .int x1), (3, .int x3), (4, .int x4)]) ⟨rfl, rfl, rfl, rfl, trivial⟩ ?_
  exact tText_addNumber_dra_37 hb6 hQ x1 x3 x4 1 d h
set_option maxRecDepth 100000 in
def Text_addNumber_dra_6 (Q : vmD → Prop) : Nat → Int32 → Int32 → Int32 → vmD → Prop
  | 0, _, _, _, _ => False
  | n + 1, x1, x2, x3, d => if (0 : Int32) < x3 then
  (¬ x3 = 0 ∧
  bnd ((x1 / x3) - (x1 / x3) / 10 * 10) fun x4_3 =>
  if x2 = 0 then
  (if (0 : Int32) < x4_3 then
  (Text_addNumber_dra_32 (Text_addNumber_dra_6 Q n) x1 x3 x4_3 d Q)
  else
  (if x3 = 1 then
  (Text_addNumber_dra_32 (Text_addNumber_dra_6 Q n) x1 x3 x4_3 d Q)
  else
  (Text_addNumber_dra_37 (Text_addNumber_dra_6 Q n) x1 x3 x4_3 0 d Q)))
  else
  (Text_addNumber_dra_32 (Text_addNumber_dra_6 Q n) x1 x3 x4_3 d Q))
  else
  (Q d)
set_option maxRecDepth 100000 in
set_option maxHeartbeats 4000000 in
theorem tText_addNumber_dra_6 {L : Nat} {e : vmD} {Qo : Option Value → vmW → Prop} {Q : vmD → Prop} (hQ : ∀ d, Q d → Qo none (wC L d e)) : ∀ (n : Nat) (x1 : Int32) (x2 : Int32) (x3 : Int32) (d : vmD), Text_addNumber_dra_6 Q n x1 x2 x3 d → vmWp 193 6 [(0, .ref 11), (1, .int x1), (2, .int x2), (3, .int x3)] [] (wC L d e) Qo := by
  intro n
  induction n with
  | zero => intro x1 x2 x3 d h; exact h.elim
  | succ n ih =>
    intro x1 x2 x3 d h
    unfold Text_addNumber_dra_6 at h
    refine st_go 1 (pc' := 7) (lo' := [(0, .ref 11), (1, .int x1), (2, .int x2), (3, .int x3)]) (st' := [.int x3]) rfl ?_
    by_cases hc_1 : (0 : Int32) < x3
    · have h := Eq.mp (if_pos hc_1) h
      refine st_if (t := 10) (b := false) rfl (decide_eq_false (Int32.not_le.mpr hc_1)) rfl ?_
      refine st_go 2 (pc' := 12) (lo' := [(0, .ref 11), (1, .int x1), (2, .int x2), (3, .int x3)]) (st' := [.int x3, .int x1]) rfl ?_
      obtain ⟨hz_2, h⟩ := h
      refine st_idiv rfl hz_2 ?_
      refine st_go 1 (pc' := 15) (lo' := [(0, .ref 11), (1, .int x1), (2, .int x2), (3, .int x3)]) (st' := [.int 10, .int (x1 / x3)]) rfl ?_
      refine st_irem rfl (by decide) ?_
      refine st_go 1 (pc' := 18) (lo' := [(4, .int ((x1 / x3) - (x1 / x3) / 10 * 10)), (0, .ref 11), (1, .int x1), (2, .int x2), (3, .int x3)]) (st' := []) rfl ?_
      refine st_locI (fun x4_3 hy_x4_3 => ?_)
      have h := h x4_3 hy_x4_3
      refine st_go 1 (pc' := 19) (lo' := [(4, .int x4_3), (0, .ref 11), (1, .int x1), (2, .int x2), (3, .int x3)]) (st' := [.int x2]) rfl ?_
      by_cases hc_4 : x2 = 0
      · have h := Eq.mp (if_pos hc_4) h
        refine st_if (t := 22) (b := false) rfl (decide_eq_false (fun z => z hc_4)) rfl ?_
        refine st_go 1 (pc' := 24) (lo' := [(4, .int x4_3), (0, .ref 11), (1, .int x1), (2, .int x2), (3, .int x3)]) (st' := [.int x4_3]) rfl ?_
        by_cases hc_5 : (0 : Int32) < x4_3
        · have h := Eq.mp (if_pos hc_5) h
          refine st_if (t := 32) (b := true) rfl (decide_eq_true hc_5) rfl ?_
          refine vmWp.sub (lo' := [(0, .ref 11), (1, .int x1), (3, .int x3), (4, .int x4_3)]) ⟨rfl, rfl, rfl, rfl, trivial⟩ ?_
          exact tText_addNumber_dra_32 ih hQ x1 x3 x4_3 d h
        · have h := Eq.mp (if_neg hc_5) h
          refine st_if (t := 27) (b := false) rfl (decide_eq_false hc_5) rfl ?_
          refine st_go 2 (pc' := 29) (lo' := [(4, .int x4_3), (0, .ref 11), (1, .int x1), (2, .int x2), (3, .int x3)]) (st' := [.int 1, .int x3]) rfl ?_
          by_cases hc_9 : x3 = 1
          · have h := Eq.mp (if_pos hc_9) h
            refine st_icmp (t := 32) (b := false) rfl (decide_eq_false (fun z => z hc_9)) rfl ?_
            refine vmWp.sub (lo' := [(0, .ref 11), (1, .int x1), (3, .int x3), (4, .int x4_3)]) ⟨rfl, rfl, rfl, rfl, trivial⟩ ?_
            exact tText_addNumber_dra_32 ih hQ x1 x3 x4_3 d h
          · have h := Eq.mp (if_neg hc_9) h
            refine st_icmp (t := 36) (b := true) rfl (decide_eq_true hc_9) rfl ?_
            refine st_go 1 (pc' := 37) (lo' := [(4, .int x4_3), (0, .ref 11), (1, .int x1), (2, .int x2), (3, .int x3)]) (st' := [.int 0]) rfl ?_
            refine vmWp.sub (lo' := [(0, .ref 11), (1, .int x1), (3, .int x3), (4, .int x4_3)]) ⟨rfl, rfl, rfl, rfl, trivial⟩ ?_
            exact tText_addNumber_dra_37 ih hQ x1 x3 x4_3 0 d h
      · have h := Eq.mp (if_neg hc_4) h
        refine st_if (t := 32) (b := true) rfl (decide_eq_true hc_4) rfl ?_
        refine vmWp.sub (lo' := [(0, .ref 11), (1, .int x1), (3, .int x3), (4, .int x4_3)]) ⟨rfl, rfl, rfl, rfl, trivial⟩ ?_
        exact tText_addNumber_dra_32 ih hQ x1 x3 x4_3 d h
    · have h := Eq.mp (if_neg hc_1) h
      refine st_if (t := 59) (b := true) rfl (decide_eq_true (Int32.not_lt.mp hc_1)) rfl ?_
      exact st_retV rfl rfl (hQ _ h)
set_option maxRecDepth 100000 in
def Text_addNumber_dra (x1 : Int32) (d : vmD) (Q : vmD → Prop) : Prop :=
  ∃ m6, Text_addNumber_dra_6 Q m6 x1 0 10000 d
set_option maxRecDepth 100000 in
set_option maxHeartbeats 4000000 in
theorem tText_addNumber_dra {L : Nat} {e : vmD} {Qo : Option Value → vmW → Prop} {Q : vmD → Prop} (hQ : ∀ d, Q d → Qo none (wC L d e)) (x1 : Int32) (d : vmD) (h : Text_addNumber_dra x1 d Q) : vmWp 193 0 [(0, .ref 11), (1, .int x1)] [] (wC L d e) Qo := by
  unfold Text_addNumber_dra at h
  refine st_go 4 (pc' := 6) (lo' := [(3, .int 10000), (2, .int 0), (0, .ref 11), (1, .int x1)]) (st' := []) rfl ?_
  obtain ⟨m6, h⟩ := h
  refine vmWp.sub (lo' := [(0, .ref 11), (1, .int x1), (2, .int 0), (3, .int 10000)]) ⟨rfl, rfl, rfl, rfl, trivial⟩ ?_
  exact tText_addNumber_dra_6 hQ m6 x1 0 10000 d h
set_option maxRecDepth 100000 in
def Instruction_appendOperand_dra_91 (x4 : Int32) (d : vmD) (Q : vmD → Prop) : Prop :=
  if x4 = 0 then
  (Q d)
  else
  (Text_add_dra 41 d fun d_13 =>
  Q d_13)
set_option maxRecDepth 100000 in
set_option maxHeartbeats 4000000 in
theorem tInstruction_appendOperand_dra_91 {L : Nat} {e : vmD} {Qo : Option Value → vmW → Prop} {Q : vmD → Prop} (hQ : ∀ d, Q d → Qo none (wC L d e)) (x4 : Int32) (d : vmD) (h : Instruction_appendOperand_dra_91 x4 d Q) : vmWp 71 91 [(1, .ref 11), (4, .int x4)] [] (wC L d e) Qo := by
  unfold Instruction_appendOperand_dra_91 at h
  refine st_go 1 (pc' := 93) (lo' := [(1, .ref 11), (4, .int x4)]) (st' := [.int x4]) rfl ?_
  by_cases hc_12 : x4 = 0
  · have h := Eq.mp (if_pos hc_12) h
    refine st_if (t := 102) (b := true) rfl (decide_eq_true hc_12) rfl ?_
    exact st_retV rfl rfl (hQ _ h)
  · have h := Eq.mp (if_neg hc_12) h
    refine st_if (t := 96) (b := false) rfl (decide_eq_false hc_12) rfl ?_
    refine st_go 2 (pc' := 99) (lo' := [(1, .ref 11), (4, .int x4)]) (st' := [.int 41, .ref 11]) rfl ?_
    refine st_callv (k' := 192) (as := [.ref 11, .int 41]) (rest := []) (lo' := [(0, .ref 11), (1, .int 41)]) (wf := fun d => wC L d e) rfl rfl rfl ?_
    refine tText_add_dra (fun d_13 h => ⟨d_13, rfl, rfl, ?_⟩) 41 d h
    exact st_retV rfl rfl (hQ _ h)
set_option maxRecDepth 100000 in
def Instruction_appendOperand_dra_77 (x4 : Int32) (s0 : Int32) (d : vmD) (Q : vmD → Prop) : Prop :=
  Text_add_dra s0 d fun d_15 =>
  Text_addNumber_dra (if 0 ≤ (gF d_15 19 8) then (gF d_15 19 8) else 0 - (gF d_15 19 8)) d_15 fun d_16 =>
  Instruction_appendOperand_dra_91 x4 d_16 Q
set_option maxRecDepth 100000 in
set_option maxHeartbeats 4000000 in
theorem tInstruction_appendOperand_dra_77 {L : Nat} {e : vmD} {Qo : Option Value → vmW → Prop} {Q : vmD → Prop} (hQ : ∀ d, Q d → Qo none (wC L d e)) (x4 : Int32) (s0 : Int32) (d : vmD) (h : Instruction_appendOperand_dra_77 x4 s0 d Q) : vmWp 71 77 [(0, .ref 19), (1, .ref 11), (4, .int x4)] [.int s0, .ref 11] (wC L d e) Qo := by
  unfold Instruction_appendOperand_dra_77 at h
  refine st_callv (k' := 192) (as := [.ref 11, .int s0]) (rest := []) (lo' := [(0, .ref 11), (1, .int s0)]) (wf := fun d => wC L d e) rfl rfl rfl ?_
  refine tText_add_dra (fun d_15 h => ⟨d_15, rfl, rfl, ?_⟩) s0 d h
  refine st_go 4 (pc' := 88) (lo' := [(0, .ref 19), (1, .ref 11), (4, .int x4)]) (st' := [.int (if 0 ≤ (gF d_15 19 8) then (gF d_15 19 8) else 0 - (gF d_15 19 8)), .ref 11]) rfl ?_
  refine st_callv (k' := 193) (as := [.ref 11, .int (if 0 ≤ (gF d_15 19 8) then (gF d_15 19 8) else 0 - (gF d_15 19 8))]) (rest := []) (lo' := [(0, .ref 11), (1, .int (if 0 ≤ (gF d_15 19 8) then (gF d_15 19 8) else 0 - (gF d_15 19 8)))]) (wf := fun d => wC L d e) rfl rfl rfl ?_
  refine tText_addNumber_dra (fun d_16 h => ⟨d_16, rfl, rfl, ?_⟩) (if 0 ≤ (gF d_15 19 8) then (gF d_15 19 8) else 0 - (gF d_15 19 8)) d_15 h
  refine vmWp.sub (lo' := [(1, .ref 11), (4, .int x4)]) ⟨rfl, rfl, trivial⟩ ?_
  exact tInstruction_appendOperand_dra_91 hQ x4 d_16 h
set_option maxRecDepth 100000 in
def Instruction_appendOperand_dra_55 (x2 : Int32) (x4 : Int32) (d : vmD) (Q : vmD → Prop) : Prop :=
  Instruction_isNear x2 d fun r_10 d_9 =>
  if r_10 = 0 then
  (Instruction_appendOperand_dra_91 x4 d_9 Q)
  else
  (if (gF d_9 19 8) < 0 then
  (Instruction_appendOperand_dra_77 x4 45 d_9 Q)
  else
  (Instruction_appendOperand_dra_77 x4 43 d_9 Q))
set_option maxRecDepth 100000 in
set_option maxHeartbeats 4000000 in
theorem tInstruction_appendOperand_dra_55 {L : Nat} {e : vmD} {Qo : Option Value → vmW → Prop} {Q : vmD → Prop} (hQ : ∀ d, Q d → Qo none (wC L d e)) (x2 : Int32) (x4 : Int32) (d : vmD) (h : Instruction_appendOperand_dra_55 x2 x4 d Q) : vmWp 71 55 [(0, .ref 19), (1, .ref 11), (2, .int x2), (4, .int x4)] [] (wC L d e) Qo := by
  unfold Instruction_appendOperand_dra_55 at h
  refine st_go 1 (pc' := 56) (lo' := [(0, .ref 19), (1, .ref 11), (2, .int x2), (4, .int x4)]) (st' := [.int x2]) rfl ?_
  refine st_calli (k' := 60) (as := [.int x2]) (rest := []) (lo' := [(0, .int x2)]) (wf := fun d => wC L d e) rfl rfl rfl ?_
  refine tInstruction_isNear (fun r_10 d_9 h => ⟨r_10, d_9, rfl, rfl, ?_⟩) x2 d h
  by_cases hc_11 : r_10 = 0
  · have h := Eq.mp (if_pos hc_11) h
    refine st_if (t := 91) (b := true) rfl (decide_eq_true hc_11) rfl ?_
    refine vmWp.sub (lo' := [(1, .ref 11), (4, .int x4)]) ⟨rfl, rfl, trivial⟩ ?_
    exact tInstruction_appendOperand_dra_91 hQ x4 d_9 h
  · have h := Eq.mp (if_neg hc_11) h
    refine st_if (t := 62) (b := false) rfl (decide_eq_false hc_11) rfl ?_
    refine st_go 3 (pc' := 67) (lo' := [(0, .ref 19), (1, .ref 11), (2, .int x2), (4, .int x4)]) (st' := [.int (gF d_9 19 8), .ref 11]) rfl ?_
    by_cases hc_14 : (gF d_9 19 8) < 0
    · have h := Eq.mp (if_pos hc_14) h
      refine st_if (t := 70) (b := false) rfl (decide_eq_false (Int32.not_le.mpr hc_14)) rfl ?_
      refine st_go 2 (pc' := 77) (lo' := [(0, .ref 19), (1, .ref 11), (2, .int x2), (4, .int x4)]) (st' := [.int 45, .ref 11]) rfl ?_
      refine vmWp.sub (lo' := [(0, .ref 19), (1, .ref 11), (4, .int x4)]) ⟨rfl, rfl, rfl, trivial⟩ ?_
      exact tInstruction_appendOperand_dra_77 hQ x4 45 d_9 h
    · have h := Eq.mp (if_neg hc_14) h
      refine st_if (t := 75) (b := true) rfl (decide_eq_true (Int32.not_lt.mp hc_14)) rfl ?_
      refine st_go 1 (pc' := 77) (lo' := [(0, .ref 19), (1, .ref 11), (2, .int x2), (4, .int x4)]) (st' := [.int 43, .ref 11]) rfl ?_
      refine vmWp.sub (lo' := [(0, .ref 19), (1, .ref 11), (4, .int x4)]) ⟨rfl, rfl, rfl, trivial⟩ ?_
      exact tInstruction_appendOperand_dra_77 hQ x4 43 d_9 h
set_option maxRecDepth 100000 in
def Instruction_appendOperand_dra_28 (x2 : Int32) (x3 : Int32) (x4 : Int32) (d : vmD) (Q : vmD → Prop) : Prop :=
  Instruction_isNumber x2 d fun r_6 d_5 =>
  if r_6 = 0 then
  (Names_append_dra x3 d_5 fun d_8 =>
  Instruction_appendOperand_dra_55 x2 x4 d_8 Q)
  else
  (Text_addNumber_dra (gF d_5 19 9) d_5 fun d_17 =>
  Instruction_appendOperand_dra_55 x2 x4 d_17 Q)
set_option maxRecDepth 100000 in
set_option maxHeartbeats 4000000 in
theorem tInstruction_appendOperand_dra_28 {L : Nat} {e : vmD} {Qo : Option Value → vmW → Prop} {Q : vmD → Prop} (hQ : ∀ d, Q d → Qo none (wC L d e)) (x2 : Int32) (x3 : Int32) (x4 : Int32) (d : vmD) (h : Instruction_appendOperand_dra_28 x2 x3 x4 d Q) : vmWp 71 28 [(0, .ref 19), (1, .ref 11), (2, .int x2), (3, .int x3), (4, .int x4)] [] (wC L d e) Qo := by
  unfold Instruction_appendOperand_dra_28 at h
  refine st_go 1 (pc' := 29) (lo' := [(0, .ref 19), (1, .ref 11), (2, .int x2), (3, .int x3), (4, .int x4)]) (st' := [.int x2]) rfl ?_
  refine st_calli (k' := 61) (as := [.int x2]) (rest := []) (lo' := [(0, .int x2)]) (wf := fun d => wC L d e) rfl rfl rfl ?_
  refine tInstruction_isNumber (fun r_6 d_5 h => ⟨r_6, d_5, rfl, rfl, ?_⟩) x2 d h
  by_cases hc_7 : r_6 = 0
  · have h := Eq.mp (if_pos hc_7) h
    refine st_if (t := 46) (b := true) rfl (decide_eq_true hc_7) rfl ?_
    refine st_go 4 (pc' := 52) (lo' := [(0, .ref 19), (1, .ref 11), (2, .int x2), (3, .int x3), (4, .int x4)]) (st' := [.int x3, .ref 11, .ref 3]) rfl ?_
    refine st_callv (k' := 138) (as := [.ref 3, .ref 11, .int x3]) (rest := []) (lo' := [(0, .ref 3), (1, .ref 11), (2, .int x3)]) (wf := fun d => wC L d e) rfl rfl rfl ?_
    refine tNames_append_dra (fun d_8 h => ⟨d_8, rfl, rfl, ?_⟩) x3 d_5 h
    refine vmWp.sub (lo' := [(0, .ref 19), (1, .ref 11), (2, .int x2), (4, .int x4)]) ⟨rfl, rfl, rfl, rfl, trivial⟩ ?_
    exact tInstruction_appendOperand_dra_55 hQ x2 x4 d_8 h
  · have h := Eq.mp (if_neg hc_7) h
    refine st_if (t := 35) (b := false) rfl (decide_eq_false hc_7) rfl ?_
    refine st_go 3 (pc' := 40) (lo' := [(0, .ref 19), (1, .ref 11), (2, .int x2), (3, .int x3), (4, .int x4)]) (st' := [.int (gF d_5 19 9), .ref 11]) rfl ?_
    refine st_callv (k' := 193) (as := [.ref 11, .int (gF d_5 19 9)]) (rest := []) (lo' := [(0, .ref 11), (1, .int (gF d_5 19 9))]) (wf := fun d => wC L d e) rfl rfl rfl ?_
    refine tText_addNumber_dra (fun d_17 h => ⟨d_17, rfl, rfl, ?_⟩) (gF d_5 19 9) d_5 h
    refine st_go 1 (pc' := 55) (lo' := [(0, .ref 19), (1, .ref 11), (2, .int x2), (3, .int x3), (4, .int x4)]) (st' := []) rfl ?_
    refine vmWp.sub (lo' := [(0, .ref 19), (1, .ref 11), (2, .int x2), (4, .int x4)]) ⟨rfl, rfl, rfl, rfl, trivial⟩ ?_
    exact tInstruction_appendOperand_dra_55 hQ x2 x4 d_17 h
set_option maxRecDepth 100000 in
def Instruction_appendOperand_dra_15 (x2 : Int32) (x3 : Int32) (s0 : Int32) (d : vmD) (Q : vmD → Prop) : Prop :=
  if s0 = 0 then
  (Instruction_appendOperand_dra_28 x2 x3 s0 d Q)
  else
  (Text_add_dra 40 d fun d_18 =>
  Instruction_appendOperand_dra_28 x2 x3 s0 d_18 Q)
set_option maxRecDepth 100000 in
set_option maxHeartbeats 4000000 in
theorem tInstruction_appendOperand_dra_15 {L : Nat} {e : vmD} {Qo : Option Value → vmW → Prop} {Q : vmD → Prop} (hQ : ∀ d, Q d → Qo none (wC L d e)) (x2 : Int32) (x3 : Int32) (s0 : Int32) (d : vmD) (h : Instruction_appendOperand_dra_15 x2 x3 s0 d Q) : vmWp 71 15 [(0, .ref 19), (1, .ref 11), (2, .int x2), (3, .int x3)] [.int s0] (wC L d e) Qo := by
  unfold Instruction_appendOperand_dra_15 at h
  refine st_go 2 (pc' := 19) (lo' := [(4, .int s0), (0, .ref 19), (1, .ref 11), (2, .int x2), (3, .int x3)]) (st' := [.int s0]) rfl ?_
  by_cases hc_4 : s0 = 0
  · have h := Eq.mp (if_pos hc_4) h
    refine st_if (t := 28) (b := true) rfl (decide_eq_true hc_4) rfl ?_
    refine vmWp.sub (lo' := [(0, .ref 19), (1, .ref 11), (2, .int x2), (3, .int x3), (4, .int s0)]) ⟨rfl, rfl, rfl, rfl, rfl, trivial⟩ ?_
    exact tInstruction_appendOperand_dra_28 hQ x2 x3 s0 d h
  · have h := Eq.mp (if_neg hc_4) h
    refine st_if (t := 22) (b := false) rfl (decide_eq_false hc_4) rfl ?_
    refine st_go 2 (pc' := 25) (lo' := [(4, .int s0), (0, .ref 19), (1, .ref 11), (2, .int x2), (3, .int x3)]) (st' := [.int 40, .ref 11]) rfl ?_
    refine st_callv (k' := 192) (as := [.ref 11, .int 40]) (rest := []) (lo' := [(0, .ref 11), (1, .int 40)]) (wf := fun d => wC L d e) rfl rfl rfl ?_
    refine tText_add_dra (fun d_18 h => ⟨d_18, rfl, rfl, ?_⟩) 40 d h
    refine vmWp.sub (lo' := [(0, .ref 19), (1, .ref 11), (2, .int x2), (3, .int x3), (4, .int s0)]) ⟨rfl, rfl, rfl, rfl, rfl, trivial⟩ ?_
    exact tInstruction_appendOperand_dra_28 hQ x2 x3 s0 d_18 h
set_option maxRecDepth 100000 in
def Instruction_appendOperand_dra (x2 : Int32) (d : vmD) (Q : vmD → Prop) : Prop :=
  Instruction_insideOf x2 d fun r_2 d_1 =>
  if r_2 = x2 then
  (Instruction_appendOperand_dra_15 x2 r_2 0 d_1 Q)
  else
  (Instruction_appendOperand_dra_15 x2 r_2 1 d_1 Q)
set_option maxRecDepth 100000 in
set_option maxHeartbeats 4000000 in
theorem tInstruction_appendOperand_dra {L : Nat} {e : vmD} {Qo : Option Value → vmW → Prop} {Q : vmD → Prop} (hQ : ∀ d, Q d → Qo none (wC L d e)) (x2 : Int32) (d : vmD) (h : Instruction_appendOperand_dra x2 d Q) : vmWp 71 0 [(0, .ref 19), (1, .ref 11), (2, .int x2)] [] (wC L d e) Qo := by
  unfold Instruction_appendOperand_dra at h
  refine st_go 1 (pc' := 1) (lo' := [(0, .ref 19), (1, .ref 11), (2, .int x2)]) (st' := [.int x2]) rfl ?_
  refine st_calli (k' := 72) (as := [.int x2]) (rest := []) (lo' := [(0, .int x2)]) (wf := fun d => wC L d e) rfl rfl rfl ?_
  refine tInstruction_insideOf (fun r_2 d_1 h => ⟨r_2, d_1, rfl, rfl, ?_⟩) x2 d h
  refine st_go 3 (pc' := 7) (lo' := [(3, .int r_2), (0, .ref 19), (1, .ref 11), (2, .int x2)]) (st' := [.int x2, .int r_2]) rfl ?_
  by_cases hc_3 : r_2 = x2
  · have h := Eq.mp (if_pos hc_3) h
    refine st_icmp (t := 14) (b := true) rfl (decide_eq_true hc_3) rfl ?_
    refine st_go 1 (pc' := 15) (lo' := [(3, .int r_2), (0, .ref 19), (1, .ref 11), (2, .int x2)]) (st' := [.int 0]) rfl ?_
    refine vmWp.sub (lo' := [(0, .ref 19), (1, .ref 11), (2, .int x2), (3, .int r_2)]) ⟨rfl, rfl, rfl, rfl, trivial⟩ ?_
    exact tInstruction_appendOperand_dra_15 hQ x2 r_2 0 d_1 h
  · have h := Eq.mp (if_neg hc_3) h
    refine st_icmp (t := 10) (b := false) rfl (decide_eq_false hc_3) rfl ?_
    refine st_go 2 (pc' := 15) (lo' := [(3, .int r_2), (0, .ref 19), (1, .ref 11), (2, .int x2)]) (st' := [.int 1]) rfl ?_
    refine vmWp.sub (lo' := [(0, .ref 19), (1, .ref 11), (2, .int x2), (3, .int r_2)]) ⟨rfl, rfl, rfl, rfl, trivial⟩ ?_
    exact tInstruction_appendOperand_dra_15 hQ x2 r_2 1 d_1 h
