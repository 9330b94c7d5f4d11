/-! The decompiled program, 4.1 -/
set_option maxRecDepth 100000 in
def Expression_open_54 (x2 : Int32) (s0 : Int32) (d : vmD) (Q : Int32 → vmD → Prop) : Prop :=
  Expression_hold s0 x2 d fun d_6 =>
  Q 1 d_6
set_option maxRecDepth 100000 in
set_option maxHeartbeats 4000000 in
theorem tExpression_open_54 {L : Nat} {e : vmD} {Qo : Option Value → vmW → Prop} {Q : Int32 → vmD → Prop} (hQ : ∀ r d, Q r d → Qo (some (.int r)) (wC L d e)) (x2 : Int32) (s0 : Int32) (d : vmD) (h : Expression_open_54 x2 s0 d Q) : vmWp 14 54 [(2, .int x2)] [.int s0, .ref 28] (wC L d e) Qo := by
  unfold Expression_open_54 at h
  refine st_go 1 (pc' := 55) (lo' := [(2, .int x2)]) (st' := [.int x2, .int s0, .ref 28]) rfl ?_
  refine st_callv (k' := 16) (as := [.ref 28, .int s0, .int x2]) (rest := []) (lo' := [(0, .ref 28), (1, .int s0), (2, .int x2)]) (wf := fun d => wC L d e) rfl rfl rfl ?_
  refine tExpression_hold (fun d_6 h => ⟨d_6, rfl, rfl, ?_⟩) s0 x2 d h
  refine st_go 1 (pc' := 59) (lo' := [(2, .int x2)]) (st' := [.int 1]) rfl ?_
  exact st_retZ rfl rfl (Or.inr rfl) (hQ _ _ h)
set_option maxRecDepth 100000 in
def Expression_open_37 (x1 : Int32) (x2 : Int32) (s0 : Int32) (s1 : Int32) (d : vmD) (Q : Int32 → vmD → Prop) : Prop :=
  bnd (sF d 28 9 (s1 + s0)) fun d_4 =>
  if x1 = 45 then
  (Expression_open_54 x2 109 d_4 Q)
  else
  (Expression_open_54 x2 x1 d_4 Q)
set_option maxRecDepth 100000 in
set_option maxHeartbeats 4000000 in
theorem tExpression_open_37 {L : Nat} {e : vmD} {Qo : Option Value → vmW → Prop} {Q : Int32 → vmD → Prop} (hQ : ∀ r d, Q r d → Qo (some (.int r)) (wC L d e)) (x1 : Int32) (x2 : Int32) (s0 : Int32) (s1 : Int32) (d : vmD) (h : Expression_open_37 x1 x2 s0 s1 d Q) : vmWp 14 37 [(0, .ref 28), (1, .int x1), (2, .int x2)] [.int s0, .int s1, .ref 28] (wC L d e) Qo := by
  unfold Expression_open_37 at h
  refine st_go 1 (pc' := 38) (lo' := [(0, .ref 28), (1, .int x1), (2, .int x2)]) (st' := [.int (s1 + s0), .ref 28]) rfl ?_
  refine st_putIC (o := 28) (f := 9) rfl rfl rfl rfl rfl (fun d_4 hy_d_4 => ?_)
  have h := h d_4 hy_d_4
  refine st_go 3 (pc' := 45) (lo' := [(0, .ref 28), (1, .int x1), (2, .int x2)]) (st' := [.int 45, .int x1, .ref 28]) rfl ?_
  by_cases hc_5 : x1 = 45
  · have h := Eq.mp (if_pos hc_5) h
    refine st_icmp (t := 48) (b := false) rfl (decide_eq_false (fun z => z hc_5)) rfl ?_
    refine st_go 2 (pc' := 54) (lo' := [(0, .ref 28), (1, .int x1), (2, .int x2)]) (st' := [.int 109, .ref 28]) rfl ?_
    refine vmWp.sub (lo' := [(2, .int x2)]) ⟨rfl, trivial⟩ ?_
    exact tExpression_open_54 hQ x2 109 d_4 h
  · have h := Eq.mp (if_neg hc_5) h
    refine st_icmp (t := 53) (b := true) rfl (decide_eq_true hc_5) rfl ?_
    refine st_go 1 (pc' := 54) (lo' := [(0, .ref 28), (1, .int x1), (2, .int x2)]) (st' := [.int x1, .ref 28]) rfl ?_
    refine vmWp.sub (lo' := [(2, .int x2)]) ⟨rfl, trivial⟩ ?_
    exact tExpression_open_54 hQ x2 x1 d_4 h
set_option maxRecDepth 100000 in
def Expression_open (x1 : Int32) (x2 : Int32) (d : vmD) (Q : Int32 → vmD → Prop) : Prop :=
  if (gF d 28 8) < 40 then
  (bnd (sF d 28 8 ((gF d 28 8) + 1)) fun d_2 =>
  if x1 = 40 then
  (Expression_open_37 x1 x2 1 (gF d_2 28 9) d_2 Q)
  else
  (Expression_open_37 x1 x2 0 (gF d_2 28 9) d_2 Q))
  else
  (Q 0 d)
set_option maxRecDepth 100000 in
set_option maxHeartbeats 4000000 in
theorem tExpression_open {L : Nat} {e : vmD} {Qo : Option Value → vmW → Prop} {Q : Int32 → vmD → Prop} (hQ : ∀ r d, Q r d → Qo (some (.int r)) (wC L d e)) (x1 : Int32) (x2 : Int32) (d : vmD) (h : Expression_open x1 x2 d Q) : vmWp 14 0 [(0, .ref 28), (1, .int x1), (2, .int x2)] [] (wC L d e) Qo := by
  unfold Expression_open at h
  refine st_go 3 (pc' := 6) (lo' := [(0, .ref 28), (1, .int x1), (2, .int x2)]) (st' := [.int 40, .int (gF d 28 8)]) rfl ?_
  by_cases hc_1 : (gF d 28 8) < 40
  · have h := Eq.mp (if_pos hc_1) h
    refine st_icmp (t := 11) (b := true) rfl (decide_eq_true hc_1) rfl ?_
    refine st_go 5 (pc' := 18) (lo' := [(0, .ref 28), (1, .int x1), (2, .int x2)]) (st' := [.int ((gF d 28 8) + 1), .ref 28]) rfl ?_
    refine st_putIC (o := 28) (f := 8) rfl rfl rfl rfl rfl (fun d_2 hy_d_2 => ?_)
    have h := h d_2 hy_d_2
    refine st_go 5 (pc' := 29) (lo' := [(0, .ref 28), (1, .int x1), (2, .int x2)]) (st' := [.int 40, .int x1, .int (gF d_2 28 9), .ref 28]) rfl ?_
    by_cases hc_3 : x1 = 40
    · have h := Eq.mp (if_pos hc_3) h
      refine st_icmp (t := 32) (b := false) rfl (decide_eq_false (fun z => z hc_3)) rfl ?_
      refine st_go 2 (pc' := 37) (lo' := [(0, .ref 28), (1, .int x1), (2, .int x2)]) (st' := [.int 1, .int (gF d_2 28 9), .ref 28]) rfl ?_
      refine vmWp.sub (lo' := [(0, .ref 28), (1, .int x1), (2, .int x2)]) ⟨rfl, rfl, rfl, trivial⟩ ?_
      exact tExpression_open_37 hQ x1 x2 1 (gF d_2 28 9) d_2 h
    · have h := Eq.mp (if_neg hc_3) h
      refine st_icmp (t := 36) (b := true) rfl (decide_eq_true hc_3) rfl ?_
      refine st_go 1 (pc' := 37) (lo' := [(0, .ref 28), (1, .int x1), (2, .int x2)]) (st' := [.int 0, .int (gF d_2 28 9), .ref 28]) rfl ?_
      refine vmWp.sub (lo' := [(0, .ref 28), (1, .int x1), (2, .int x2)]) ⟨rfl, rfl, rfl, trivial⟩ ?_
      exact tExpression_open_37 hQ x1 x2 0 (gF d_2 28 9) d_2 h
  · have h := Eq.mp (if_neg hc_1) h
    refine st_icmp (t := 9) (b := false) rfl (decide_eq_false hc_1) rfl ?_
    refine st_go 1 (pc' := 10) (lo' := [(0, .ref 28), (1, .int x1), (2, .int x2)]) (st' := [.int 0]) rfl ?_
    exact st_retZ rfl rfl (Or.inl rfl) (hQ _ _ h)
set_option maxRecDepth 100000 in
def Expression_read_272 (x6 : Int32) (x7 : Int32) (d : vmD) (Q : Int32 → vmD → Prop) : Prop :=
  if x7 = 0 then
  (Q (-1) d)
  else
  (Q x6 d)
set_option maxRecDepth 100000 in
set_option maxHeartbeats 4000000 in
theorem tExpression_read_272 {L : Nat} {e : vmD} {Qo : Option Value → vmW → Prop} {Q : Int32 → vmD → Prop} (hQ : ∀ r d, Q r d → Qo (some (.int r)) (wC L d e)) (x6 : Int32) (x7 : Int32) (d : vmD) (h : Expression_read_272 x6 x7 d Q) : vmWp 9 272 [(6, .int x6), (7, .int x7)] [] (wC L d e) Qo := by
  unfold Expression_read_272 at h
  refine st_go 1 (pc' := 274) (lo' := [(6, .int x6), (7, .int x7)]) (st' := [.int x7]) rfl ?_
  by_cases hc_8 : x7 = 0
  · have h := Eq.mp (if_pos hc_8) h
    refine st_if (t := 282) (b := true) rfl (decide_eq_true hc_8) rfl ?_
    refine st_go 1 (pc' := 283) (lo' := [(6, .int x6), (7, .int x7)]) (st' := [.int (-1)]) rfl ?_
    exact st_retI rfl rfl (hQ _ _ h)
  · have h := Eq.mp (if_neg hc_8) h
    refine st_if (t := 277) (b := false) rfl (decide_eq_false hc_8) rfl ?_
    refine st_go 2 (pc' := 283) (lo' := [(6, .int x6), (7, .int x7)]) (st' := [.int x6]) rfl ?_
    exact st_retI rfl rfl (hQ _ _ h)
set_option maxRecDepth 100000 in
def Expression_read_246 (x3 : Int32) (x6 : Int32) (x7 : Int32) (d : vmD) (Q : Int32 → vmD → Prop) : Prop :=
  if x3 = 0 then
  (Expression_read_272 x6 x7 d Q)
  else
  (if (0 : Int32) < (gF d 28 11) then
  (Tokens_blame (gF d 28 12) (gF d 28 11) d fun d_10 =>
  Expression_read_272 x6 x7 d_10 Q)
  else
  (Expression_read_272 x6 x7 d Q))
set_option maxRecDepth 100000 in
set_option maxHeartbeats 4000000 in
theorem tExpression_read_246 {L : Nat} {e : vmD} {Qo : Option Value → vmW → Prop} {Q : Int32 → vmD → Prop} (hQ : ∀ r d, Q r d → Qo (some (.int r)) (wC L d e)) (x3 : Int32) (x6 : Int32) (x7 : Int32) (d : vmD) (h : Expression_read_246 x3 x6 x7 d Q) : vmWp 9 246 [(0, .ref 28), (3, .int x3), (6, .int x6), (7, .int x7)] [] (wC L d e) Qo := by
  unfold Expression_read_246 at h
  refine st_go 1 (pc' := 247) (lo' := [(0, .ref 28), (3, .int x3), (6, .int x6), (7, .int x7)]) (st' := [.int x3]) rfl ?_
  by_cases hc_7 : x3 = 0
  · have h := Eq.mp (if_pos hc_7) h
    refine st_if (t := 272) (b := true) rfl (decide_eq_true hc_7) rfl ?_
    refine vmWp.sub (lo' := [(6, .int x6), (7, .int x7)]) ⟨rfl, rfl, trivial⟩ ?_
    exact tExpression_read_272 hQ x6 x7 d h
  · have h := Eq.mp (if_neg hc_7) h
    refine st_if (t := 250) (b := false) rfl (decide_eq_false hc_7) rfl ?_
    refine st_go 2 (pc' := 254) (lo' := [(0, .ref 28), (3, .int x3), (6, .int x6), (7, .int x7)]) (st' := [.int (gF d 28 11)]) rfl ?_
    by_cases hc_9 : (0 : Int32) < (gF d 28 11)
    · have h := Eq.mp (if_pos hc_9) h
      refine st_if (t := 257) (b := false) rfl (decide_eq_false (Int32.not_le.mpr hc_9)) rfl ?_
      refine st_go 6 (pc' := 269) (lo' := [(0, .ref 28), (3, .int x3), (6, .int x6), (7, .int x7)]) (st' := [.int (gF d 28 11), .int (gF d 28 12), .ref 24]) rfl ?_
      refine st_callv (k' := 218) (as := [.ref 24, .int (gF d 28 12), .int (gF d 28 11)]) (rest := []) (lo' := [(0, .ref 24), (1, .int (gF d 28 12)), (2, .int (gF d 28 11))]) (wf := fun d => wC L d e) rfl rfl rfl ?_
      refine tTokens_blame (fun d_10 h => ⟨d_10, rfl, rfl, ?_⟩) (gF d 28 12) (gF d 28 11) d h
      refine vmWp.sub (lo' := [(6, .int x6), (7, .int x7)]) ⟨rfl, rfl, trivial⟩ ?_
      exact tExpression_read_272 hQ x6 x7 d_10 h
    · have h := Eq.mp (if_neg hc_9) h
      refine st_if (t := 272) (b := true) rfl (decide_eq_true (Int32.not_lt.mp hc_9)) rfl ?_
      refine vmWp.sub (lo' := [(6, .int x6), (7, .int x7)]) ⟨rfl, rfl, trivial⟩ ?_
      exact tExpression_read_272 hQ x6 x7 d h
set_option maxRecDepth 100000 in
def Expression_read_222 (x3 : Int32) (x6 : Int32) (s0 : Int32) (d : vmD) (Q : Int32 → vmD → Prop) : Prop :=
  if s0 = 0 then
  (Tokens_refuse x6 d fun d_6 =>
  Expression_read_246 x3 x6 s0 d_6 Q)
  else
  (Expression_settle 1 d fun d_11 =>
  Expression_read_246 x3 x6 s0 d_11 Q)
set_option maxRecDepth 100000 in
set_option maxHeartbeats 4000000 in
theorem tExpression_read_222 {L : Nat} {e : vmD} {Qo : Option Value → vmW → Prop} {Q : Int32 → vmD → Prop} (hQ : ∀ r d, Q r d → Qo (some (.int r)) (wC L d e)) (x3 : Int32) (x6 : Int32) (s0 : Int32) (d : vmD) (h : Expression_read_222 x3 x6 s0 d Q) : vmWp 9 222 [(0, .ref 28), (3, .int x3), (6, .int x6)] [.int s0] (wC L d e) Qo := by
  unfold Expression_read_222 at h
  refine st_go 2 (pc' := 226) (lo' := [(7, .int s0), (0, .ref 28), (3, .int x3), (6, .int x6)]) (st' := [.int s0]) rfl ?_
  by_cases hc_5 : s0 = 0
  · have h := Eq.mp (if_pos hc_5) h
    refine st_if (t := 237) (b := true) rfl (decide_eq_true hc_5) rfl ?_
    refine st_go 3 (pc' := 243) (lo' := [(7, .int s0), (0, .ref 28), (3, .int x3), (6, .int x6)]) (st' := [.int x6, .ref 24]) rfl ?_
    refine st_callv (k' := 220) (as := [.ref 24, .int x6]) (rest := []) (lo' := [(0, .ref 24), (1, .int x6)]) (wf := fun d => wC L d e) rfl rfl rfl ?_
    refine tTokens_refuse (fun d_6 h => ⟨d_6, rfl, rfl, ?_⟩) x6 d h
    refine vmWp.sub (lo' := [(0, .ref 28), (3, .int x3), (6, .int x6), (7, .int s0)]) ⟨rfl, rfl, rfl, rfl, trivial⟩ ?_
    exact tExpression_read_246 hQ x3 x6 s0 d_6 h
  · have h := Eq.mp (if_neg hc_5) h
    refine st_if (t := 229) (b := false) rfl (decide_eq_false hc_5) rfl ?_
    refine st_go 2 (pc' := 231) (lo' := [(7, .int s0), (0, .ref 28), (3, .int x3), (6, .int x6)]) (st' := [.int 1, .ref 28]) rfl ?_
    refine st_callv (k' := 18) (as := [.ref 28, .int 1]) (rest := []) (lo' := [(0, .ref 28), (1, .int 1)]) (wf := fun d => wC L d e) rfl rfl rfl ?_
    refine tExpression_settle (fun d_11 h => ⟨d_11, rfl, rfl, ?_⟩) 1 d h
    refine st_go 1 (pc' := 246) (lo' := [(7, .int s0), (0, .ref 28), (3, .int x3), (6, .int x6)]) (st' := []) rfl ?_
    refine vmWp.sub (lo' := [(0, .ref 28), (3, .int x3), (6, .int x6), (7, .int s0)]) ⟨rfl, rfl, rfl, rfl, trivial⟩ ?_
    exact tExpression_read_246 hQ x3 x6 s0 d_11 h
set_option maxRecDepth 100000 in
def Expression_read_221 (x3 : Int32) (x6 : Int32) (d : vmD) (Q : Int32 → vmD → Prop) : Prop :=
  Expression_read_222 x3 x6 0 d Q
set_option maxRecDepth 100000 in
set_option maxHeartbeats 4000000 in
theorem tExpression_read_221 {L : Nat} {e : vmD} {Qo : Option Value → vmW → Prop} {Q : Int32 → vmD → Prop} (hQ : ∀ r d, Q r d → Qo (some (.int r)) (wC L d e)) (x3 : Int32) (x6 : Int32) (d : vmD) (h : Expression_read_221 x3 x6 d Q) : vmWp 9 221 [(0, .ref 28), (3, .int x3), (6, .int x6)] [] (wC L d e) Qo := by
  unfold Expression_read_221 at h
  refine st_go 1 (pc' := 222) (lo' := [(0, .ref 28), (3, .int x3), (6, .int x6)]) (st' := [.int 0]) rfl ?_
  refine vmWp.sub (lo' := [(0, .ref 28), (3, .int x3), (6, .int x6)]) ⟨rfl, rfl, rfl, trivial⟩ ?_
  exact tExpression_read_222 hQ x3 x6 0 d h
set_option maxRecDepth 100000 in
def Expression_read_205 (x3 : Int32) (x4 : Int32) (x6 : Int32) (d : vmD) (Q : Int32 → vmD → Prop) : Prop :=
  if x4 = 0 then
  (if (gF d 28 9) = 0 then
  (Expression_read_222 x3 x6 1 d Q)
  else
  (Expression_read_221 x3 x6 d Q))
  else
  (Expression_read_221 x3 x6 d Q)
set_option maxRecDepth 100000 in
set_option maxHeartbeats 4000000 in
theorem tExpression_read_205 {L : Nat} {e : vmD} {Qo : Option Value → vmW → Prop} {Q : Int32 → vmD → Prop} (hQ : ∀ r d, Q r d → Qo (some (.int r)) (wC L d e)) (x3 : Int32) (x4 : Int32) (x6 : Int32) (d : vmD) (h : Expression_read_205 x3 x4 x6 d Q) : vmWp 9 205 [(0, .ref 28), (3, .int x3), (4, .int x4), (6, .int x6)] [] (wC L d e) Qo := by
  unfold Expression_read_205 at h
  refine st_go 1 (pc' := 207) (lo' := [(0, .ref 28), (3, .int x3), (4, .int x4), (6, .int x6)]) (st' := [.int x4]) rfl ?_
  by_cases hc_3 : x4 = 0
  · have h := Eq.mp (if_pos hc_3) h
    refine st_if (t := 210) (b := false) rfl (decide_eq_false (fun z => z hc_3)) rfl ?_
    refine st_go 2 (pc' := 214) (lo' := [(0, .ref 28), (3, .int x3), (4, .int x4), (6, .int x6)]) (st' := [.int (gF d 28 9)]) rfl ?_
    by_cases hc_4 : (gF d 28 9) = 0
    · have h := Eq.mp (if_pos hc_4) h
      refine st_if (t := 217) (b := false) rfl (decide_eq_false (fun z => z hc_4)) rfl ?_
      refine st_go 2 (pc' := 222) (lo' := [(0, .ref 28), (3, .int x3), (4, .int x4), (6, .int x6)]) (st' := [.int 1]) rfl ?_
      refine vmWp.sub (lo' := [(0, .ref 28), (3, .int x3), (6, .int x6)]) ⟨rfl, rfl, rfl, trivial⟩ ?_
      exact tExpression_read_222 hQ x3 x6 1 d h
    · have h := Eq.mp (if_neg hc_4) h
      refine st_if (t := 221) (b := true) rfl (decide_eq_true hc_4) rfl ?_
      refine vmWp.sub (lo' := [(0, .ref 28), (3, .int x3), (6, .int x6)]) ⟨rfl, rfl, rfl, trivial⟩ ?_
      exact tExpression_read_221 hQ x3 x6 d h
  · have h := Eq.mp (if_neg hc_3) h
    refine st_if (t := 221) (b := true) rfl (decide_eq_true hc_3) rfl ?_
    refine vmWp.sub (lo' := [(0, .ref 28), (3, .int x3), (6, .int x6)]) ⟨rfl, rfl, rfl, trivial⟩ ?_
    exact tExpression_read_221 hQ x3 x6 d h
set_option maxRecDepth 100000 in
def Expression_read_199 (b14 : Int32 → Int32 → Int32 → Int32 → vmD → Prop) (x3 : Int32) (x4 : Int32) (x5 : Int32) (s0 : Int32) (s1 : Int32) (d : vmD) (Q : Int32 → vmD → Prop) : Prop :=
  bnd (s1 + s0) fun x6_27 =>
  b14 x3 x4 x5 x6_27 d
set_option maxRecDepth 100000 in
set_option maxHeartbeats 4000000 in
theorem tExpression_read_199 {L : Nat} {e : vmD} {Qo : Option Value → vmW → Prop} {b14 : Int32 → Int32 → Int32 → Int32 → vmD → Prop} {Q : Int32 → vmD → Prop} (hb14 : ∀ x3 x4 x5 x6 d, b14 x3 x4 x5 x6 d → vmWp 9 14 [(0, .ref 28), (3, .int x3), (4, .int x4), (5, .int x5), (6, .int x6)] [] (wC L d e) Qo) (hQ : ∀ r d, Q r d → Qo (some (.int r)) (wC L d e)) (x3 : Int32) (x4 : Int32) (x5 : Int32) (s0 : Int32) (s1 : Int32) (d : vmD) (h : Expression_read_199 b14 x3 x4 x5 s0 s1 d Q) : vmWp 9 199 [(0, .ref 28), (3, .int x3), (4, .int x4), (5, .int x5)] [.int s0, .int s1] (wC L d e) Qo := by
  unfold Expression_read_199 at h
  refine st_go 2 (pc' := 202) (lo' := [(6, .int (s1 + s0)), (0, .ref 28), (3, .int x3), (4, .int x4), (5, .int x5)]) (st' := []) rfl ?_
  refine st_locI (fun x6_27 hy_x6_27 => ?_)
  have h := h x6_27 hy_x6_27
  refine st_go 1 (pc' := 14) (lo' := [(6, .int x6_27), (0, .ref 28), (3, .int x3), (4, .int x4), (5, .int x5)]) (st' := []) rfl ?_
  refine vmWp.sub (lo' := [(0, .ref 28), (3, .int x3), (4, .int x4), (5, .int x5), (6, .int x6_27)]) ⟨rfl, rfl, rfl, rfl, rfl, trivial⟩ ?_
  exact hb14 x3 x4 x5 x6_27 d h
set_option maxRecDepth 100000 in
def Expression_read_187 (b14 : Int32 → Int32 → Int32 → Int32 → vmD → Prop) (x3 : Int32) (x4 : Int32) (x5 : Int32) (x6 : Int32) (d : vmD) (Q : Int32 → vmD → Prop) : Prop :=
  if x5 = 0 then
  (Expression_read_199 b14 x3 x4 x5 0 x6 d Q)
  else
  (Expression_read_199 b14 x3 x4 x5 1 x6 d Q)
set_option maxRecDepth 100000 in
set_option maxHeartbeats 4000000 in
theorem tExpression_read_187 {L : Nat} {e : vmD} {Qo : Option Value → vmW → Prop} {b14 : Int32 → Int32 → Int32 → Int32 → vmD → Prop} {Q : Int32 → vmD → Prop} (hb14 : ∀ x3 x4 x5 x6 d, b14 x3 x4 x5 x6 d → vmWp 9 14 [(0, .ref 28), (3, .int x3), (4, .int x4), (5, .int x5), (6, .int x6)] [] (wC L d e) Qo) (hQ : ∀ r d, Q r d → Qo (some (.int r)) (wC L d e)) (x3 : Int32) (x4 : Int32) (x5 : Int32) (x6 : Int32) (d : vmD) (h : Expression_read_187 b14 x3 x4 x5 x6 d Q) : vmWp 9 187 [(0, .ref 28), (3, .int x3), (4, .int x4), (5, .int x5), (6, .int x6)] [] (wC L d e) Qo := by
  unfold Expression_read_187 at h
  refine st_go 2 (pc' := 191) (lo' := [(0, .ref 28), (3, .int x3), (4, .int x4), (5, .int x5), (6, .int x6)]) (st' := [.int x5, .int x6]) rfl ?_
  by_cases hc_26 : x5 = 0
  · have h := Eq.mp (if_pos hc_26) h
    refine st_if (t := 198) (b := true) rfl (decide_eq_true hc_26) rfl ?_
    refine st_go 1 (pc' := 199) (lo' := [(0, .ref 28), (3, .int x3), (4, .int x4), (5, .int x5), (6, .int x6)]) (st' := [.int 0, .int x6]) rfl ?_
    refine vmWp.sub (lo' := [(0, .ref 28), (3, .int x3), (4, .int x4), (5, .int x5)]) ⟨rfl, rfl, rfl, rfl, trivial⟩ ?_
    exact tExpression_read_199 hb14 hQ x3 x4 x5 0 x6 d h
  · have h := Eq.mp (if_neg hc_26) h
    refine st_if (t := 194) (b := false) rfl (decide_eq_false hc_26) rfl ?_
    refine st_go 2 (pc' := 199) (lo' := [(0, .ref 28), (3, .int x3), (4, .int x4), (5, .int x5), (6, .int x6)]) (st' := [.int 1, .int x6]) rfl ?_
    refine vmWp.sub (lo' := [(0, .ref 28), (3, .int x3), (4, .int x4), (5, .int x5)]) ⟨rfl, rfl, rfl, rfl, trivial⟩ ?_
    exact tExpression_read_199 hb14 hQ x3 x4 x5 1 x6 d h
set_option maxRecDepth 100000 in
def Expression_read_184 (b14 : Int32 → Int32 → Int32 → Int32 → vmD → Prop) (x3 : Int32) (x4 : Int32) (x6 : Int32) (d : vmD) (Q : Int32 → vmD → Prop) : Prop :=
  Expression_read_187 b14 x3 x4 0 x6 d Q
set_option maxRecDepth 100000 in
set_option maxHeartbeats 4000000 in
theorem tExpression_read_184 {L : Nat} {e : vmD} {Qo : Option Value → vmW → Prop} {b14 : Int32 → Int32 → Int32 → Int32 → vmD → Prop} {Q : Int32 → vmD → Prop} (hb14 : ∀ x3 x4 x5 x6 d, b14 x3 x4 x5 x6 d → vmWp 9 14 [(0, .ref 28), (3, .int x3), (4, .int x4), (5, .int x5), (6, .int x6)] [] (wC L d e) Qo) (hQ : ∀ r d, Q r d → Qo (some (.int r)) (wC L d e)) (x3 : Int32) (x4 : Int32) (x6 : Int32) (d : vmD) (h : Expression_read_184 b14 x3 x4 x6 d Q) : vmWp 9 184 [(0, .ref 28), (3, .int x3), (4, .int x4), (6, .int x6)] [] (wC L d e) Qo := by
  unfold Expression_read_184 at h
  refine st_go 2 (pc' := 187) (lo' := [(5, .int 0), (0, .ref 28), (3, .int x3), (4, .int x4), (6, .int x6)]) (st' := []) rfl ?_
  refine vmWp.sub (lo' := [(0, .ref 28), (3, .int x3), (4, .int x4), (5, .int 0), (6, .int x6)]) ⟨rfl, rfl, rfl, rfl, rfl, trivial⟩ ?_
  exact tExpression_read_187 hb14 hQ x3 x4 0 x6 d h
set_option maxRecDepth 100000 in
def Expression_read_152 (b14 : Int32 → Int32 → Int32 → Int32 → vmD → Prop) (x3 : Int32) (x4 : Int32) (x5 : Int32) (x6 : Int32) (x7 : Int32) (x8 : Int32) (d : vmD) (Q : Int32 → vmD → Prop) : Prop :=
  if (0 : Int32) < x8 then
  (if x8 < 7 then
  (Expression_settle x8 d fun d_30 =>
  Expression_hold x7 x6 d_30 fun d_31 =>
  Expression_read_187 b14 x3 1 x5 x6 d_31 Q)
  else
  (Expression_read_184 b14 x3 x4 x6 d Q))
  else
  (Expression_read_184 b14 x3 x4 x6 d Q)
set_option maxRecDepth 100000 in
set_option maxHeartbeats 4000000 in
theorem tExpression_read_152 {L : Nat} {e : vmD} {Qo : Option Value → vmW → Prop} {b14 : Int32 → Int32 → Int32 → Int32 → vmD → Prop} {Q : Int32 → vmD → Prop} (hb14 : ∀ x3 x4 x5 x6 d, b14 x3 x4 x5 x6 d → vmWp 9 14 [(0, .ref 28), (3, .int x3), (4, .int x4), (5, .int x5), (6, .int x6)] [] (wC L d e) Qo) (hQ : ∀ r d, Q r d → Qo (some (.int r)) (wC L d e)) (x3 : Int32) (x4 : Int32) (x5 : Int32) (x6 : Int32) (x7 : Int32) (x8 : Int32) (d : vmD) (h : Expression_read_152 b14 x3 x4 x5 x6 x7 x8 d Q) : vmWp 9 152 [(0, .ref 28), (3, .int x3), (4, .int x4), (5, .int x5), (6, .int x6), (7, .int x7), (8, .int x8)] [] (wC L d e) Qo := by
  unfold Expression_read_152 at h
  refine st_go 1 (pc' := 154) (lo' := [(0, .ref 28), (3, .int x3), (4, .int x4), (5, .int x5), (6, .int x6), (7, .int x7), (8, .int x8)]) (st' := [.int x8]) rfl ?_
  by_cases hc_28 : (0 : Int32) < x8
  · have h := Eq.mp (if_pos hc_28) h
    refine st_if (t := 157) (b := false) rfl (decide_eq_false (Int32.not_le.mpr hc_28)) rfl ?_
    refine st_go 2 (pc' := 161) (lo' := [(0, .ref 28), (3, .int x3), (4, .int x4), (5, .int x5), (6, .int x6), (7, .int x7), (8, .int x8)]) (st' := [.int 7, .int x8]) rfl ?_
    by_cases hc_29 : x8 < 7
    · have h := Eq.mp (if_pos hc_29) h
      refine st_icmp (t := 164) (b := false) rfl (decide_eq_false (Int32.not_le.mpr hc_29)) rfl ?_
      refine st_go 2 (pc' := 167) (lo' := [(0, .ref 28), (3, .int x3), (4, .int x4), (5, .int x5), (6, .int x6), (7, .int x7), (8, .int x8)]) (st' := [.int x8, .ref 28]) rfl ?_
      refine st_callv (k' := 18) (as := [.ref 28, .int x8]) (rest := []) (lo' := [(0, .ref 28), (1, .int x8)]) (wf := fun d => wC L d e) rfl rfl rfl ?_
      refine tExpression_settle (fun d_30 h => ⟨d_30, rfl, rfl, ?_⟩) x8 d h
      refine st_go 3 (pc' := 175) (lo' := [(0, .ref 28), (3, .int x3), (4, .int x4), (5, .int x5), (6, .int x6), (7, .int x7), (8, .int x8)]) (st' := [.int x6, .int x7, .ref 28]) rfl ?_
      refine st_callv (k' := 16) (as := [.ref 28, .int x7, .int x6]) (rest := []) (lo' := [(0, .ref 28), (1, .int x7), (2, .int x6)]) (wf := fun d => wC L d e) rfl rfl rfl ?_
      refine tExpression_hold (fun d_31 h => ⟨d_31, rfl, rfl, ?_⟩) x7 x6 d_30 h
      refine st_go 3 (pc' := 187) (lo' := [(4, .int 1), (0, .ref 28), (3, .int x3), (5, .int x5), (6, .int x6), (7, .int x7), (8, .int x8)]) (st' := []) rfl ?_
      refine vmWp.sub (lo' := [(0, .ref 28), (3, .int x3), (4, .int 1), (5, .int x5), (6, .int x6)]) ⟨rfl, rfl, rfl, rfl, rfl, trivial⟩ ?_
      exact tExpression_read_187 hb14 hQ x3 1 x5 x6 d_31 h
    · have h := Eq.mp (if_neg hc_29) h
      refine st_icmp (t := 184) (b := true) rfl (decide_eq_true (Int32.not_lt.mp hc_29)) rfl ?_
      refine vmWp.sub (lo' := [(0, .ref 28), (3, .int x3), (4, .int x4), (6, .int x6)]) ⟨rfl, rfl, rfl, rfl, trivial⟩ ?_
      exact tExpression_read_184 hb14 hQ x3 x4 x6 d h
  · have h := Eq.mp (if_neg hc_28) h
    refine st_if (t := 184) (b := true) rfl (decide_eq_true (Int32.not_lt.mp hc_28)) rfl ?_
    refine vmWp.sub (lo' := [(0, .ref 28), (3, .int x3), (4, .int x4), (6, .int x6)]) ⟨rfl, rfl, rfl, rfl, trivial⟩ ?_
    exact tExpression_read_184 hb14 hQ x3 x4 x6 d h
set_option maxRecDepth 100000 in
def Expression_read_88 (b14 : Int32 → Int32 → Int32 → Int32 → vmD → Prop) (x3 : Int32) (x4 : Int32) (x5 : Int32) (x6 : Int32) (x7 : Int32) (x8 : Int32) (d : vmD) (Q : Int32 → vmD → Prop) : Prop :=
  if x4 = 0 then
  (if x7 = 41 then
  (if (0 : Int32) < (gF d 28 9) then
  (Expression_settle 1 d fun d_23 =>
  Expression_close d_23 fun d_24 =>
  Expression_settle 6 d_24 fun d_25 =>
  Expression_read_187 b14 x3 x4 x5 x6 d_25 Q)
  else
  (Expression_read_152 b14 x3 x4 x5 x6 x7 x8 d Q))
  else
  (Expression_read_152 b14 x3 x4 x5 x6 x7 x8 d Q))
  else
  (Expression_takeValue x7 x6 d fun r_33 d_32 =>
  if r_33 = 0 then
  (Expression_read_187 b14 x3 x4 r_33 x6 d_32 Q)
  else
  (Expression_settle 6 d_32 fun d_35 =>
  Expression_read_187 b14 x3 0 r_33 x6 d_35 Q))
set_option maxRecDepth 100000 in
set_option maxHeartbeats 4000000 in
theorem tExpression_read_88 {L : Nat} {e : vmD} {Qo : Option Value → vmW → Prop} {b14 : Int32 → Int32 → Int32 → Int32 → vmD → Prop} {Q : Int32 → vmD → Prop} (hb14 : ∀ x3 x4 x5 x6 d, b14 x3 x4 x5 x6 d → vmWp 9 14 [(0, .ref 28), (3, .int x3), (4, .int x4), (5, .int x5), (6, .int x6)] [] (wC L d e) Qo) (hQ : ∀ r d, Q r d → Qo (some (.int r)) (wC L d e)) (x3 : Int32) (x4 : Int32) (x5 : Int32) (x6 : Int32) (x7 : Int32) (x8 : Int32) (d : vmD) (h : Expression_read_88 b14 x3 x4 x5 x6 x7 x8 d Q) : vmWp 9 88 [(0, .ref 28), (3, .int x3), (4, .int x4), (5, .int x5), (6, .int x6), (7, .int x7), (8, .int x8)] [] (wC L d e) Qo := by
  unfold Expression_read_88 at h
  refine st_go 1 (pc' := 90) (lo' := [(0, .ref 28), (3, .int x3), (4, .int x4), (5, .int x5), (6, .int x6), (7, .int x7), (8, .int x8)]) (st' := [.int x4]) rfl ?_
  by_cases hc_20 : x4 = 0
  · have h := Eq.mp (if_pos hc_20) h
    refine st_if (t := 120) (b := true) rfl (decide_eq_true hc_20) rfl ?_
    refine st_go 2 (pc' := 124) (lo' := [(0, .ref 28), (3, .int x3), (4, .int x4), (5, .int x5), (6, .int x6), (7, .int x7), (8, .int x8)]) (st' := [.int 41, .int x7]) rfl ?_
    by_cases hc_21 : x7 = 41
    · have h := Eq.mp (if_pos hc_21) h
      refine st_icmp (t := 127) (b := false) rfl (decide_eq_false (fun z => z hc_21)) rfl ?_
      refine st_go 2 (pc' := 131) (lo' := [(0, .ref 28), (3, .int x3), (4, .int x4), (5, .int x5), (6, .int x6), (7, .int x7), (8, .int x8)]) (st' := [.int (gF d 28 9)]) rfl ?_
      by_cases hc_22 : (0 : Int32) < (gF d 28 9)
      · have h := Eq.mp (if_pos hc_22) h
        refine st_if (t := 134) (b := false) rfl (decide_eq_false (Int32.not_le.mpr hc_22)) rfl ?_
        refine st_go 2 (pc' := 136) (lo' := [(0, .ref 28), (3, .int x3), (4, .int x4), (5, .int x5), (6, .int x6), (7, .int x7), (8, .int x8)]) (st' := [.int 1, .ref 28]) rfl ?_
        refine st_callv (k' := 18) (as := [.ref 28, .int 1]) (rest := []) (lo' := [(0, .ref 28), (1, .int 1)]) (wf := fun d => wC L d e) rfl rfl rfl ?_
        refine tExpression_settle (fun d_23 h => ⟨d_23, rfl, rfl, ?_⟩) 1 d h
        refine st_go 1 (pc' := 140) (lo' := [(0, .ref 28), (3, .int x3), (4, .int x4), (5, .int x5), (6, .int x6), (7, .int x7), (8, .int x8)]) (st' := [.ref 28]) rfl ?_
        refine st_callv (k' := 15) (as := [.ref 28]) (rest := []) (lo' := [(0, .ref 28)]) (wf := fun d => wC L d e) rfl rfl rfl ?_
        refine tExpression_close (fun d_24 h => ⟨d_24, rfl, rfl, ?_⟩) d_23 h
        refine st_go 2 (pc' := 146) (lo' := [(0, .ref 28), (3, .int x3), (4, .int x4), (5, .int x5), (6, .int x6), (7, .int x7), (8, .int x8)]) (st' := [.int 6, .ref 28]) rfl ?_
        refine st_callv (k' := 18) (as := [.ref 28, .int 6]) (rest := []) (lo' := [(0, .ref 28), (1, .int 6)]) (wf := fun d => wC L d e) rfl rfl rfl ?_
        refine tExpression_settle (fun d_25 h => ⟨d_25, rfl, rfl, ?_⟩) 6 d_24 h
        refine st_go 1 (pc' := 187) (lo' := [(0, .ref 28), (3, .int x3), (4, .int x4), (5, .int x5), (6, .int x6), (7, .int x7), (8, .int x8)]) (st' := []) rfl ?_
        refine vmWp.sub (lo' := [(0, .ref 28), (3, .int x3), (4, .int x4), (5, .int x5), (6, .int x6)]) ⟨rfl, rfl, rfl, rfl, rfl, trivial⟩ ?_
        exact tExpression_read_187 hb14 hQ x3 x4 x5 x6 d_25 h
      · have h := Eq.mp (if_neg hc_22) h
        refine st_if (t := 152) (b := true) rfl (decide_eq_true (Int32.not_lt.mp hc_22)) rfl ?_
        refine vmWp.sub (lo' := [(0, .ref 28), (3, .int x3), (4, .int x4), (5, .int x5), (6, .int x6), (7, .int x7), (8, .int x8)]) ⟨rfl, rfl, rfl, rfl, rfl, rfl, rfl, trivial⟩ ?_
        exact tExpression_read_152 hb14 hQ x3 x4 x5 x6 x7 x8 d h
    · have h := Eq.mp (if_neg hc_21) h
      refine st_icmp (t := 152) (b := true) rfl (decide_eq_true hc_21) rfl ?_
      refine vmWp.sub (lo' := [(0, .ref 28), (3, .int x3), (4, .int x4), (5, .int x5), (6, .int x6), (7, .int x7), (8, .int x8)]) ⟨rfl, rfl, rfl, rfl, rfl, rfl, rfl, trivial⟩ ?_
      exact tExpression_read_152 hb14 hQ x3 x4 x5 x6 x7 x8 d h
  · have h := Eq.mp (if_neg hc_20) h
    refine st_if (t := 93) (b := false) rfl (decide_eq_false hc_20) rfl ?_
    refine st_go 3 (pc' := 98) (lo' := [(0, .ref 28), (3, .int x3), (4, .int x4), (5, .int x5), (6, .int x6), (7, .int x7), (8, .int x8)]) (st' := [.int x6, .int x7, .ref 28]) rfl ?_
    refine st_calli (k' := 17) (as := [.ref 28, .int x7, .int x6]) (rest := []) (lo' := [(0, .ref 28), (1, .int x7), (2, .int x6)]) (wf := fun d => wC L d e) rfl rfl rfl ?_
    refine tExpression_takeValue (fun r_33 d_32 h => ⟨r_33, d_32, rfl, rfl, ?_⟩) x7 x6 d h
    refine st_go 2 (pc' := 105) (lo' := [(5, .int r_33), (0, .ref 28), (3, .int x3), (4, .int x4), (6, .int x6), (7, .int x7), (8, .int x8)]) (st' := [.int r_33]) rfl ?_
    by_cases hc_34 : r_33 = 0
    · have h := Eq.mp (if_pos hc_34) h
      refine st_if (t := 187) (b := true) rfl (decide_eq_true hc_34) rfl ?_
      refine vmWp.sub (lo' := [(0, .ref 28), (3, .int x3), (4, .int x4), (5, .int r_33), (6, .int x6)]) ⟨rfl, rfl, rfl, rfl, rfl, trivial⟩ ?_
      exact tExpression_read_187 hb14 hQ x3 x4 r_33 x6 d_32 h
    · have h := Eq.mp (if_neg hc_34) h
      refine st_if (t := 108) (b := false) rfl (decide_eq_false hc_34) rfl ?_
      refine st_go 2 (pc' := 111) (lo' := [(5, .int r_33), (0, .ref 28), (3, .int x3), (4, .int x4), (6, .int x6), (7, .int x7), (8, .int x8)]) (st' := [.int 6, .ref 28]) rfl ?_
      refine st_callv (k' := 18) (as := [.ref 28, .int 6]) (rest := []) (lo' := [(0, .ref 28), (1, .int 6)]) (wf := fun d => wC L d e) rfl rfl rfl ?_
      refine tExpression_settle (fun d_35 h => ⟨d_35, rfl, rfl, ?_⟩) 6 d_32 h
      refine st_go 3 (pc' := 187) (lo' := [(4, .int 0), (5, .int r_33), (0, .ref 28), (3, .int x3), (6, .int x6), (7, .int x7), (8, .int x8)]) (st' := []) rfl ?_
      refine vmWp.sub (lo' := [(0, .ref 28), (3, .int x3), (4, .int 0), (5, .int r_33), (6, .int x6)]) ⟨rfl, rfl, rfl, rfl, rfl, trivial⟩ ?_
      exact tExpression_read_187 hb14 hQ x3 0 r_33 x6 d_35 h
set_option maxRecDepth 100000 in
def Expression_read_75 (b14 : Int32 → Int32 → Int32 → Int32 → vmD → Prop) (x3 : Int32) (x4 : Int32) (x6 : Int32) (x7 : Int32) (d : vmD) (Q : Int32 → vmD → Prop) : Prop :=
  Expression_open x7 x6 d fun r_38 d_37 =>
  Expression_read_187 b14 x3 x4 r_38 x6 d_37 Q
set_option maxRecDepth 100000 in
set_option maxHeartbeats 4000000 in
theorem tExpression_read_75 {L : Nat} {e : vmD} {Qo : Option Value → vmW → Prop} {b14 : Int32 → Int32 → Int32 → Int32 → vmD → Prop} {Q : Int32 → vmD → Prop} (hb14 : ∀ x3 x4 x5 x6 d, b14 x3 x4 x5 x6 d → vmWp 9 14 [(0, .ref 28), (3, .int x3), (4, .int x4), (5, .int x5), (6, .int x6)] [] (wC L d e) Qo) (hQ : ∀ r d, Q r d → Qo (some (.int r)) (wC L d e)) (x3 : Int32) (x4 : Int32) (x6 : Int32) (x7 : Int32) (d : vmD) (h : Expression_read_75 b14 x3 x4 x6 x7 d Q) : vmWp 9 75 [(0, .ref 28), (3, .int x3), (4, .int x4), (6, .int x6), (7, .int x7)] [] (wC L d e) Qo := by
  unfold Expression_read_75 at h
  refine st_go 3 (pc' := 80) (lo' := [(0, .ref 28), (3, .int x3), (4, .int x4), (6, .int x6), (7, .int x7)]) (st' := [.int x6, .int x7, .ref 28]) rfl ?_
  refine st_calli (k' := 14) (as := [.ref 28, .int x7, .int x6]) (rest := []) (lo' := [(0, .ref 28), (1, .int x7), (2, .int x6)]) (wf := fun d => wC L d e) rfl rfl rfl ?_
  refine tExpression_open (fun r_38 d_37 h => ⟨r_38, d_37, rfl, rfl, ?_⟩) x7 x6 d h
  refine st_go 2 (pc' := 187) (lo' := [(5, .int r_38), (0, .ref 28), (3, .int x3), (4, .int x4), (6, .int x6), (7, .int x7)]) (st' := []) rfl ?_
  refine vmWp.sub (lo' := [(0, .ref 28), (3, .int x3), (4, .int x4), (5, .int r_38), (6, .int x6)]) ⟨rfl, rfl, rfl, rfl, rfl, trivial⟩ ?_
  exact tExpression_read_187 hb14 hQ x3 x4 r_38 x6 d_37 h
set_option maxRecDepth 100000 in
def Expression_read_14 (Q : Int32 → vmD → Prop) : Nat → Int32 → Int32 → Int32 → Int32 → vmD → Prop
  | 0, _, _, _, _, _ => False
  | n + 1, x3, x4, x5, x6, d => if x5 = 0 then
  (Expression_read_205 x3 x4 x6 d Q)
  else
  (Tokens_count d fun r_13 d_12 =>
  if x6 < r_13 then
  (Tokens_kind x6 d_12 fun r_16 d_15 =>
  Expression_levelOf r_16 d_15 fun r_18 d_17 =>
  if x4 = 0 then
  (Expression_read_88 (Expression_read_14 Q n) x3 x4 x5 x6 r_16 r_18 d_17 Q)
  else
  (if r_16 = 40 then
  (Expression_read_75 (Expression_read_14 Q n) x3 x4 x6 r_16 d_17 Q)
  else
  (if r_16 = 126 then
  (Expression_read_75 (Expression_read_14 Q n) x3 x4 x6 r_16 d_17 Q)
  else
  (if r_16 = 45 then
  (Expression_read_75 (Expression_read_14 Q n) x3 x4 x6 r_16 d_17 Q)
  else
  (Expression_read_88 (Expression_read_14 Q n) x3 x4 x5 x6 r_16 r_18 d_17 Q)))))
  else
  (Expression_read_205 x3 x4 x6 d_12 Q))
set_option maxRecDepth 100000 in
set_option maxHeartbeats 4000000 in
theorem tExpression_read_14 {L : Nat} {e : vmD} {Qo : Option Value → vmW → Prop} {Q : Int32 → vmD → Prop} (hQ : ∀ r d, Q r d → Qo (some (.int r)) (wC L d e)) : ∀ (n : Nat) (x3 : Int32) (x4 : Int32) (x5 : Int32) (x6 : Int32) (d : vmD), Expression_read_14 Q n x3 x4 x5 x6 d → vmWp 9 14 [(0, .ref 28), (3, .int x3), (4, .int x4), (5, .int x5), (6, .int x6)] [] (wC L d e) Qo := by
  intro n
  induction n with
  | zero => intro x3 x4 x5 x6 d h; exact h.elim
  | succ n ih =>
    intro x3 x4 x5 x6 d h
    unfold Expression_read_14 at h
    refine st_go 1 (pc' := 16) (lo' := [(0, .ref 28), (3, .int x3), (4, .int x4), (5, .int x5), (6, .int x6)]) (st' := [.int x5]) rfl ?_
    by_cases hc_2 : x5 = 0
    · have h := Eq.mp (if_pos hc_2) h
      refine st_if (t := 205) (b := true) rfl (decide_eq_true hc_2) rfl ?_
      refine vmWp.sub (lo' := [(0, .ref 28), (3, .int x3), (4, .int x4), (6, .int x6)]) ⟨rfl, rfl, rfl, rfl, trivial⟩ ?_
      exact tExpression_read_205 hQ x3 x4 x6 d h
    · have h := Eq.mp (if_neg hc_2) h
      refine st_if (t := 19) (b := false) rfl (decide_eq_false hc_2) rfl ?_
      refine st_go 3 (pc' := 25) (lo' := [(0, .ref 28), (3, .int x3), (4, .int x4), (5, .int x5), (6, .int x6)]) (st' := [.ref 24, .int x6]) rfl ?_
      refine st_calli (k' := 216) (as := [.ref 24]) (rest := [.int x6]) (lo' := [(0, .ref 24)]) (wf := fun d => wC L d e) rfl rfl rfl ?_
      refine tTokens_count (fun r_13 d_12 h => ⟨r_13, d_12, rfl, rfl, ?_⟩) d h
      by_cases hc_14 : x6 < r_13
      · have h := Eq.mp (if_pos hc_14) h
        refine st_icmp (t := 31) (b := false) rfl (decide_eq_false (Int32.not_le.mpr hc_14)) rfl ?_
        refine st_go 3 (pc' := 37) (lo' := [(0, .ref 28), (3, .int x3), (4, .int x4), (5, .int x5), (6, .int x6)]) (st' := [.int x6, .ref 24]) rfl ?_
        refine st_calli (k' := 213) (as := [.ref 24, .int x6]) (rest := []) (lo' := [(0, .ref 24), (1, .int x6)]) (wf := fun d => wC L d e) rfl rfl rfl ?_
        refine tTokens_kind (fun r_16 d_15 h => ⟨r_16, d_15, rfl, rfl, ?_⟩) x6 d_12 h
        refine st_go 2 (pc' := 44) (lo' := [(7, .int r_16), (0, .ref 28), (3, .int x3), (4, .int x4), (5, .int x5), (6, .int x6)]) (st' := [.int r_16]) rfl ?_
        refine st_calli (k' := 13) (as := [.int r_16]) (rest := []) (lo' := [(0, .int r_16)]) (wf := fun d => wC L d e) rfl rfl rfl ?_
        refine tExpression_levelOf (fun r_18 d_17 h => ⟨r_18, d_17, rfl, rfl, ?_⟩) r_16 d_15 h
        refine st_go 2 (pc' := 51) (lo' := [(8, .int r_18), (7, .int r_16), (0, .ref 28), (3, .int x3), (4, .int x4), (5, .int x5), (6, .int x6)]) (st' := [.int x4]) rfl ?_
        by_cases hc_19 : x4 = 0
        · have h := Eq.mp (if_pos hc_19) h
          refine st_if (t := 88) (b := true) rfl (decide_eq_true hc_19) rfl ?_
          refine vmWp.sub (lo' := [(0, .ref 28), (3, .int x3), (4, .int x4), (5, .int x5), (6, .int x6), (7, .int r_16), (8, .int r_18)]) ⟨rfl, rfl, rfl, rfl, rfl, rfl, rfl, trivial⟩ ?_
          exact tExpression_read_88 ih hQ x3 x4 x5 x6 r_16 r_18 d_17 h
        · have h := Eq.mp (if_neg hc_19) h
          refine st_if (t := 54) (b := false) rfl (decide_eq_false hc_19) rfl ?_
          refine st_go 2 (pc' := 58) (lo' := [(8, .int r_18), (7, .int r_16), (0, .ref 28), (3, .int x3), (4, .int x4), (5, .int x5), (6, .int x6)]) (st' := [.int 40, .int r_16]) rfl ?_
          by_cases hc_36 : r_16 = 40
          · have h := Eq.mp (if_pos hc_36) h
            refine st_icmp (t := 75) (b := true) rfl (decide_eq_true hc_36) rfl ?_
            refine vmWp.sub (lo' := [(0, .ref 28), (3, .int x3), (4, .int x4), (6, .int x6), (7, .int r_16)]) ⟨rfl, rfl, rfl, rfl, rfl, trivial⟩ ?_
            exact tExpression_read_75 ih hQ x3 x4 x6 r_16 d_17 h
          · have h := Eq.mp (if_neg hc_36) h
            refine st_icmp (t := 61) (b := false) rfl (decide_eq_false hc_36) rfl ?_
            refine st_go 2 (pc' := 65) (lo' := [(8, .int r_18), (7, .int r_16), (0, .ref 28), (3, .int x3), (4, .int x4), (5, .int x5), (6, .int x6)]) (st' := [.int 126, .int r_16]) rfl ?_
            by_cases hc_39 : r_16 = 126
            · have h := Eq.mp (if_pos hc_39) h
              refine st_icmp (t := 75) (b := true) rfl (decide_eq_true hc_39) rfl ?_
              refine vmWp.sub (lo' := [(0, .ref 28), (3, .int x3), (4, .int x4), (6, .int x6), (7, .int r_16)]) ⟨rfl, rfl, rfl, rfl, rfl, trivial⟩ ?_
              exact tExpression_read_75 ih hQ x3 x4 x6 r_16 d_17 h
            · have h := Eq.mp (if_neg hc_39) h
              refine st_icmp (t := 68) (b := false) rfl (decide_eq_false hc_39) rfl ?_
              refine st_go 2 (pc' := 72) (lo' := [(8, .int r_18), (7, .int r_16), (0, .ref 28), (3, .int x3), (4, .int x4), (5, .int x5), (6, .int x6)]) (st' := [.int 45, .int r_16]) rfl ?_
              by_cases hc_40 : r_16 = 45
              · have h := Eq.mp (if_pos hc_40) h
                refine st_icmp (t := 75) (b := false) rfl (decide_eq_false (fun z => z hc_40)) rfl ?_
                refine vmWp.sub (lo' := [(0, .ref 28), (3, .int x3), (4, .int x4), (6, .int x6), (7, .int r_16)]) ⟨rfl, rfl, rfl, rfl, rfl, trivial⟩ ?_
                exact tExpression_read_75 ih hQ x3 x4 x6 r_16 d_17 h
              · have h := Eq.mp (if_neg hc_40) h
                refine st_icmp (t := 88) (b := true) rfl (decide_eq_true hc_40) rfl ?_
                refine vmWp.sub (lo' := [(0, .ref 28), (3, .int x3), (4, .int x4), (5, .int x5), (6, .int x6), (7, .int r_16), (8, .int r_18)]) ⟨rfl, rfl, rfl, rfl, rfl, rfl, rfl, trivial⟩ ?_
                exact tExpression_read_88 ih hQ x3 x4 x5 x6 r_16 r_18 d_17 h
      · have h := Eq.mp (if_neg hc_14) h
        refine st_icmp (t := 205) (b := true) rfl (decide_eq_true (Int32.not_lt.mp hc_14)) rfl ?_
        refine vmWp.sub (lo' := [(0, .ref 28), (3, .int x3), (4, .int x4), (6, .int x6)]) ⟨rfl, rfl, rfl, rfl, trivial⟩ ?_
        exact tExpression_read_205 hQ x3 x4 x6 d_12 h
set_option maxRecDepth 100000 in
def Expression_read (x1 : Int32) (x2 : Int32) (x3 : Int32) (d : vmD) (Q : Int32 → vmD → Prop) : Prop :=
  Expression_begin x2 d fun d_1 =>
  ∃ m14, Expression_read_14 Q m14 x3 1 1 x1 d_1
set_option maxRecDepth 100000 in
set_option maxHeartbeats 4000000 in
theorem tExpression_read {L : Nat} {e : vmD} {Qo : Option Value → vmW → Prop} {Q : Int32 → vmD → Prop} (hQ : ∀ r d, Q r d → Qo (some (.int r)) (wC L d e)) (x1 : Int32) (x2 : Int32) (x3 : Int32) (d : vmD) (h : Expression_read x1 x2 x3 d Q) : vmWp 9 0 [(0, .ref 28), (1, .int x1), (2, .int x2), (3, .int x3)] [] (wC L d e) Qo := by
  unfold Expression_read at h
  refine st_go 2 (pc' := 2) (lo' := [(0, .ref 28), (1, .int x1), (2, .int x2), (3, .int x3)]) (st' := [.int x2, .ref 28]) rfl ?_
  refine st_callv (k' := 10) (as := [.ref 28, .int x2]) (rest := []) (lo' := [(0, .ref 28), (1, .int x2)]) (wf := fun d => wC L d e) rfl rfl rfl ?_
  refine tExpression_begin (fun d_1 h => ⟨d_1, rfl, rfl, ?_⟩) x2 d h
  refine st_go 6 (pc' := 14) (lo' := [(6, .int x1), (5, .int 1), (4, .int 1), (0, .ref 28), (1, .int x1), (2, .int x2), (3, .int x3)]) (st' := []) rfl ?_
  obtain ⟨m14, h⟩ := h
  refine vmWp.sub (lo' := [(0, .ref 28), (3, .int x3), (4, .int 1), (5, .int 1), (6, .int x1)]) ⟨rfl, rfl, rfl, rfl, rfl, trivial⟩ ?_
  exact tExpression_read_14 hQ m14 x3 1 1 x1 d_1 h
set_option maxRecDepth 100000 in
def Forger_endsLine_19 (x1 : Int32) (d : vmD) (Q : Int32 → vmD → Prop) : Prop :=
  Tokens_kind x1 d fun r_5 d_4 =>
  if r_5 = 0 then
  (Q 1 d_4)
  else
  (Q 0 d_4)
set_option maxRecDepth 100000 in
set_option maxHeartbeats 4000000 in
theorem tForger_endsLine_19 {L : Nat} {e : vmD} {Qo : Option Value → vmW → Prop} {Q : Int32 → vmD → Prop} (hQ : ∀ r d, Q r d → Qo (some (.int r)) (wC L d e)) (x1 : Int32) (d : vmD) (h : Forger_endsLine_19 x1 d Q) : vmWp 39 19 [(0, .ref 20), (1, .int x1)] [] (wC L d e) Qo := by
  unfold Forger_endsLine_19 at h
  refine st_go 3 (pc' := 24) (lo' := [(0, .ref 20), (1, .int x1)]) (st' := [.int x1, .ref 24]) rfl ?_
  refine st_calli (k' := 213) (as := [.ref 24, .int x1]) (rest := []) (lo' := [(0, .ref 24), (1, .int x1)]) (wf := fun d => wC L d e) rfl rfl rfl ?_
  refine tTokens_kind (fun r_5 d_4 h => ⟨r_5, d_4, rfl, rfl, ?_⟩) x1 d h
  by_cases hc_6 : r_5 = 0
  · have h := Eq.mp (if_pos hc_6) h
    refine st_if (t := 30) (b := false) rfl (decide_eq_false (fun z => z hc_6)) rfl ?_
    refine st_go 2 (pc' := 35) (lo' := [(0, .ref 20), (1, .int x1)]) (st' := [.int 1]) rfl ?_
    exact st_retZ rfl rfl (Or.inr rfl) (hQ _ _ h)
  · have h := Eq.mp (if_neg hc_6) h
    refine st_if (t := 34) (b := true) rfl (decide_eq_true hc_6) rfl ?_
    refine st_go 1 (pc' := 35) (lo' := [(0, .ref 20), (1, .int x1)]) (st' := [.int 0]) rfl ?_
    exact st_retZ rfl rfl (Or.inl rfl) (hQ _ _ h)
set_option maxRecDepth 100000 in
def Forger_endsLine (x1 : Int32) (d : vmD) (Q : Int32 → vmD → Prop) : Prop :=
  Tokens_kind x1 d fun r_2 d_1 =>
  if r_2 = 0 then
  (Forger_endsLine_19 x1 d_1 Q)
  else
  (Tokens_refuse x1 d_1 fun d_7 =>
  Forger_endsLine_19 x1 d_7 Q)
set_option maxRecDepth 100000 in
set_option maxHeartbeats 4000000 in
theorem tForger_endsLine {L : Nat} {e : vmD} {Qo : Option Value → vmW → Prop} {Q : Int32 → vmD → Prop} (hQ : ∀ r d, Q r d → Qo (some (.int r)) (wC L d e)) (x1 : Int32) (d : vmD) (h : Forger_endsLine x1 d Q) : vmWp 39 0 [(0, .ref 20), (1, .int x1)] [] (wC L d e) Qo := by
  unfold Forger_endsLine at h
  refine st_go 3 (pc' := 5) (lo' := [(0, .ref 20), (1, .int x1)]) (st' := [.int x1, .ref 24]) rfl ?_
  refine st_calli (k' := 213) (as := [.ref 24, .int x1]) (rest := []) (lo' := [(0, .ref 24), (1, .int x1)]) (wf := fun d => wC L d e) rfl rfl rfl ?_
  refine tTokens_kind (fun r_2 d_1 h => ⟨r_2, d_1, rfl, rfl, ?_⟩) x1 d h
  by_cases hc_3 : r_2 = 0
  · have h := Eq.mp (if_pos hc_3) h
    refine st_if (t := 19) (b := true) rfl (decide_eq_true hc_3) rfl ?_
    refine vmWp.sub (lo' := [(0, .ref 20), (1, .int x1)]) ⟨rfl, rfl, trivial⟩ ?_
    exact tForger_endsLine_19 hQ x1 d_1 h
  · have h := Eq.mp (if_neg hc_3) h
    refine st_if (t := 11) (b := false) rfl (decide_eq_false hc_3) rfl ?_
    refine st_go 3 (pc' := 16) (lo' := [(0, .ref 20), (1, .int x1)]) (st' := [.int x1, .ref 24]) rfl ?_
    refine st_callv (k' := 220) (as := [.ref 24, .int x1]) (rest := []) (lo' := [(0, .ref 24), (1, .int x1)]) (wf := fun d => wC L d e) rfl rfl rfl ?_
    refine tTokens_refuse (fun d_7 h => ⟨d_7, rfl, rfl, ?_⟩) x1 d_1 h
    refine vmWp.sub (lo' := [(0, .ref 20), (1, .int x1)]) ⟨rfl, rfl, trivial⟩ ?_
    exact tForger_endsLine_19 hQ x1 d_7 h
set_option maxRecDepth 100000 in
def Expression_value (d : vmD) (Q : Int32 → vmD → Prop) : Prop :=
  bnd (gA d 31 0) fun y_1 =>
  Q y_1 d
set_option maxRecDepth 100000 in
set_option maxHeartbeats 4000000 in
theorem tExpression_value {L : Nat} {e : vmD} {Qo : Option Value → vmW → Prop} {Q : Int32 → vmD → Prop} (hQ : ∀ r d, Q r d → Qo (some (.int r)) (wC L d e)) (d : vmD) (h : Expression_value d Q) : vmWp 11 0 [(0, .ref 28)] [] (wC L d e) Qo := by
  unfold Expression_value at h
  refine st_go 3 (pc' := 5) (lo' := [(0, .ref 28)]) (st' := [.int 0, .ref 31]) rfl ?_
  refine st_ialdC (o := 31) rfl rfl (show ixOk 0 320 by decide) rfl (fun y_1 hy_y_1 => ?_)
  have h := h y_1 hy_y_1
  exact st_retI rfl rfl (hQ _ _ h)
set_option maxRecDepth 100000 in
def Forger_equate_33 (x1 : Int32) (s0 : Int32) (s1 : Int32) (s2 : Int32) (d : vmD) (Q : vmD → Prop) : Prop :=
  Expression_read s2 s1 s0 d fun r_6 d_5 =>
  if r_6 < 0 then
  (Q d_5)
  else
  (Forger_endsLine r_6 d_5 fun r_9 d_8 =>
  if r_9 = 0 then
  (Q d_8)
  else
  (Expression_value d_8 fun r_12 d_11 =>
  Forger_tell x1 r_12 d_11 fun d_13 =>
  Q d_13))
set_option maxRecDepth 100000 in
set_option maxHeartbeats 4000000 in
theorem tForger_equate_33 {L : Nat} {e : vmD} {Qo : Option Value → vmW → Prop} {Q : vmD → Prop} (hQ : ∀ d, Q d → Qo none (wC L d e)) (x1 : Int32) (s0 : Int32) (s1 : Int32) (s2 : Int32) (d : vmD) (h : Forger_equate_33 x1 s0 s1 s2 d Q) : vmWp 41 33 [(0, .ref 20), (1, .int x1)] [.int s0, .int s1, .int s2, .ref 28] (wC L d e) Qo := by
  unfold Forger_equate_33 at h
  refine st_calli (k' := 9) (as := [.ref 28, .int s2, .int s1, .int s0]) (rest := []) (lo' := [(0, .ref 28), (1, .int s2), (2, .int s1), (3, .int s0)]) (wf := fun d => wC L d e) rfl rfl rfl ?_
  refine tExpression_read (fun r_6 d_5 h => ⟨r_6, d_5, rfl, rfl, ?_⟩) s2 s1 s0 d h
  refine st_go 2 (pc' := 38) (lo' := [(2, .int r_6), (0, .ref 20), (1, .int x1)]) (st' := [.int r_6]) rfl ?_
  by_cases hc_7 : r_6 < 0
  · have h := Eq.mp (if_pos hc_7) h
    refine st_if (t := 61) (b := true) rfl (decide_eq_true hc_7) rfl ?_
    exact st_retV rfl rfl (hQ _ h)
  · have h := Eq.mp (if_neg hc_7) h
    refine st_if (t := 41) (b := false) rfl (decide_eq_false hc_7) rfl ?_
    refine st_go 2 (pc' := 43) (lo' := [(2, .int r_6), (0, .ref 20), (1, .int x1)]) (st' := [.int r_6, .ref 20]) rfl ?_
    refine st_calli (k' := 39) (as := [.ref 20, .int r_6]) (rest := []) (lo' := [(0, .ref 20), (1, .int r_6)]) (wf := fun d => wC L d e) rfl rfl rfl ?_
    refine tForger_endsLine (fun r_9 d_8 h => ⟨r_9, d_8, rfl, rfl, ?_⟩) r_6 d_5 h
    by_cases hc_10 : r_9 = 0
    · have h := Eq.mp (if_pos hc_10) h
      refine st_if (t := 61) (b := true) rfl (decide_eq_true hc_10) rfl ?_
      exact st_retV rfl rfl (hQ _ h)
    · have h := Eq.mp (if_neg hc_10) h
      refine st_if (t := 49) (b := false) rfl (decide_eq_false hc_10) rfl ?_
      refine st_go 4 (pc' := 55) (lo' := [(2, .int r_6), (0, .ref 20), (1, .int x1)]) (st' := [.ref 28, .int x1, .ref 20]) rfl ?_
      refine st_calli (k' := 11) (as := [.ref 28]) (rest := [.int x1, .ref 20]) (lo' := [(0, .ref 28)]) (wf := fun d => wC L d e) rfl rfl rfl ?_
      refine tExpression_value (fun r_12 d_11 h => ⟨r_12, d_11, rfl, rfl, ?_⟩) d_8 h
      refine st_callv (k' := 38) (as := [.ref 20, .int x1, .int r_12]) (rest := []) (lo' := [(0, .ref 20), (1, .int x1), (2, .int r_12)]) (wf := fun d => wC L d e) rfl rfl rfl ?_
      refine tForger_tell (fun d_13 h => ⟨d_13, rfl, rfl, ?_⟩) x1 r_12 d_11 h
      exact st_retV rfl rfl (hQ _ h)
set_option maxRecDepth 100000 in
def Forger_equate (x1 : Int32) (d : vmD) (Q : vmD → Prop) : Prop :=
  Forger_canTell x1 d fun r_2 d_1 =>
  if r_2 = 0 then
  (Q d_1)
  else
  (if (gF d_1 20 9) = 1 then
  (Forger_equate_33 x1 1 (gF d_1 20 11) (x1 + 2) d_1 Q)
  else
  (Forger_equate_33 x1 0 (gF d_1 20 11) (x1 + 2) d_1 Q))
set_option maxRecDepth 100000 in
set_option maxHeartbeats 4000000 in
theorem tForger_equate {L : Nat} {e : vmD} {Qo : Option Value → vmW → Prop} {Q : vmD → Prop} (hQ : ∀ d, Q d → Qo none (wC L d e)) (x1 : Int32) (d : vmD) (h : Forger_equate x1 d Q) : vmWp 41 0 [(0, .ref 20), (1, .int x1)] [] (wC L d e) Qo := by
  unfold Forger_equate at h
  refine st_go 2 (pc' := 2) (lo' := [(0, .ref 20), (1, .int x1)]) (st' := [.int x1, .ref 20]) rfl ?_
  refine st_calli (k' := 37) (as := [.ref 20, .int x1]) (rest := []) (lo' := [(0, .ref 20), (1, .int x1)]) (wf := fun d => wC L d e) rfl rfl rfl ?_
  refine tForger_canTell (fun r_2 d_1 h => ⟨r_2, d_1, rfl, rfl, ?_⟩) x1 d h
  by_cases hc_3 : r_2 = 0
  · have h := Eq.mp (if_pos hc_3) h
    refine st_if (t := 8) (b := false) rfl (decide_eq_false (fun z => z hc_3)) rfl ?_
    exact st_retV rfl rfl (hQ _ h)
  · have h := Eq.mp (if_neg hc_3) h
    refine st_if (t := 9) (b := true) rfl (decide_eq_true hc_3) rfl ?_
    refine st_go 10 (pc' := 25) (lo' := [(0, .ref 20), (1, .int x1)]) (st' := [.int 1, .int (gF d_1 20 9), .int (gF d_1 20 11), .int (x1 + 2), .ref 28]) rfl ?_
    by_cases hc_4 : (gF d_1 20 9) = 1
    · have h := Eq.mp (if_pos hc_4) h
      refine st_icmp (t := 28) (b := false) rfl (decide_eq_false (fun z => z hc_4)) rfl ?_
      refine st_go 2 (pc' := 33) (lo' := [(0, .ref 20), (1, .int x1)]) (st' := [.int 1, .int (gF d_1 20 11), .int (x1 + 2), .ref 28]) rfl ?_
      refine vmWp.sub (lo' := [(0, .ref 20), (1, .int x1)]) ⟨rfl, rfl, trivial⟩ ?_
      exact tForger_equate_33 hQ x1 1 (gF d_1 20 11) (x1 + 2) d_1 h
    · have h := Eq.mp (if_neg hc_4) h
      refine st_icmp (t := 32) (b := true) rfl (decide_eq_true hc_4) rfl ?_
      refine st_go 1 (pc' := 33) (lo' := [(0, .ref 20), (1, .int x1)]) (st' := [.int 0, .int (gF d_1 20 11), .int (x1 + 2), .ref 28]) rfl ?_
      refine vmWp.sub (lo' := [(0, .ref 20), (1, .int x1)]) ⟨rfl, rfl, trivial⟩ ?_
      exact tForger_equate_33 hQ x1 0 (gF d_1 20 11) (x1 + 2) d_1 h
set_option maxRecDepth 100000 in
def Expression_known (d : vmD) (Q : Int32 → vmD → Prop) : Prop :=
  bnd (gA d 32 0) fun y_1 =>
  (y_1 = 0 ∨ y_1 = 1) ∧ Q y_1 d
set_option maxRecDepth 100000 in
set_option maxHeartbeats 4000000 in
theorem tExpression_known {L : Nat} {e : vmD} {Qo : Option Value → vmW → Prop} {Q : Int32 → vmD → Prop} (hQ : ∀ r d, Q r d → Qo (some (.int r)) (wC L d e)) (d : vmD) (h : Expression_known d Q) : vmWp 12 0 [(0, .ref 28)] [] (wC L d e) Qo := by
  unfold Expression_known at h
  refine st_go 3 (pc' := 5) (lo' := [(0, .ref 28)]) (st' := [.int 0, .ref 32]) rfl ?_
  refine st_zaldC (o := 32) rfl rfl (show ixOk 0 320 by decide) rfl (fun y_1 hy_y_1 => ?_)
  have h := h y_1 hy_y_1
  exact st_retZ rfl rfl h.1 (hQ _ _ h.2)
set_option maxRecDepth 100000 in
def Forger_readNumber_72 (x1 : Int32) (x5 : Int32) (d : vmD) (Q : Int32 → vmD → Prop) : Prop :=
  Tokens_blame x1 5 d fun d_12 =>
  Q x5 d_12
set_option maxRecDepth 100000 in
set_option maxHeartbeats 4000000 in
theorem tForger_readNumber_72 {L : Nat} {e : vmD} {Qo : Option Value → vmW → Prop} {Q : Int32 → vmD → Prop} (hQ : ∀ r d, Q r d → Qo (some (.int r)) (wC L d e)) (x1 : Int32) (x5 : Int32) (d : vmD) (h : Forger_readNumber_72 x1 x5 d Q) : vmWp 40 72 [(0, .ref 20), (1, .int x1), (5, .int x5)] [] (wC L d e) Qo := by
  unfold Forger_readNumber_72 at h
  refine st_go 4 (pc' := 78) (lo' := [(0, .ref 20), (1, .int x1), (5, .int x5)]) (st' := [.int 5, .int x1, .ref 24]) rfl ?_
  refine st_callv (k' := 218) (as := [.ref 24, .int x1, .int 5]) (rest := []) (lo' := [(0, .ref 24), (1, .int x1), (2, .int 5)]) (wf := fun d => wC L d e) rfl rfl rfl ?_
  refine tTokens_blame (fun d_12 h => ⟨d_12, rfl, rfl, ?_⟩) x1 5 d h
  refine st_go 1 (pc' := 83) (lo' := [(0, .ref 20), (1, .int x1), (5, .int x5)]) (st' := [.int x5]) rfl ?_
  exact st_retI rfl rfl (hQ _ _ h)
set_option maxRecDepth 100000 in
def Forger_readNumber_22 (x1 : Int32) (x2 : Int32) (x3 : Int32) (x4 : Int32) (s0 : Int32) (s1 : Int32) (s2 : Int32) (d : vmD) (Q : Int32 → vmD → Prop) : Prop :=
  Expression_read s2 s1 s0 d fun r_3 d_2 =>
  Expression_value d_2 fun r_5 d_4 =>
  if r_3 < 0 then
  (Q r_3 d_4)
  else
  (if (gF d_4 20 9) = x2 then
  (Expression_known d_4 fun r_9 d_8 =>
  if r_9 = 0 then
  (Q r_3 d_8)
  else
  (if r_5 < x3 then
  (Forger_readNumber_72 x1 r_3 d_8 Q)
  else
  (if x4 < r_5 then
  (Forger_readNumber_72 x1 r_3 d_8 Q)
  else
  (Q r_3 d_8))))
  else
  (Q r_3 d_4))
set_option maxRecDepth 100000 in
set_option maxHeartbeats 4000000 in
theorem tForger_readNumber_22 {L : Nat} {e : vmD} {Qo : Option Value → vmW → Prop} {Q : Int32 → vmD → Prop} (hQ : ∀ r d, Q r d → Qo (some (.int r)) (wC L d e)) (x1 : Int32) (x2 : Int32) (x3 : Int32) (x4 : Int32) (s0 : Int32) (s1 : Int32) (s2 : Int32) (d : vmD) (h : Forger_readNumber_22 x1 x2 x3 x4 s0 s1 s2 d Q) : vmWp 40 22 [(0, .ref 20), (1, .int x1), (2, .int x2), (3, .int x3), (4, .int x4)] [.int s0, .int s1, .int s2, .ref 28] (wC L d e) Qo := by
  unfold Forger_readNumber_22 at h
  refine st_calli (k' := 9) (as := [.ref 28, .int s2, .int s1, .int s0]) (rest := []) (lo' := [(0, .ref 28), (1, .int s2), (2, .int s1), (3, .int s0)]) (wf := fun d => wC L d e) rfl rfl rfl ?_
  refine tExpression_read (fun r_3 d_2 h => ⟨r_3, d_2, rfl, rfl, ?_⟩) s2 s1 s0 d h
  refine st_go 3 (pc' := 31) (lo' := [(5, .int r_3), (0, .ref 20), (1, .int x1), (2, .int x2), (3, .int x3), (4, .int x4)]) (st' := [.ref 28]) rfl ?_
  refine st_calli (k' := 11) (as := [.ref 28]) (rest := []) (lo' := [(0, .ref 28)]) (wf := fun d => wC L d e) rfl rfl rfl ?_
  refine tExpression_value (fun r_5 d_4 h => ⟨r_5, d_4, rfl, rfl, ?_⟩) d_2 h
  refine st_go 2 (pc' := 38) (lo' := [(6, .int r_5), (5, .int r_3), (0, .ref 20), (1, .int x1), (2, .int x2), (3, .int x3), (4, .int x4)]) (st' := [.int r_3]) rfl ?_
  by_cases hc_6 : r_3 < 0
  · have h := Eq.mp (if_pos hc_6) h
    refine st_if (t := 81) (b := true) rfl (decide_eq_true hc_6) rfl ?_
    refine st_go 1 (pc' := 83) (lo' := [(6, .int r_5), (5, .int r_3), (0, .ref 20), (1, .int x1), (2, .int x2), (3, .int x3), (4, .int x4)]) (st' := [.int r_3]) rfl ?_
    exact st_retI rfl rfl (hQ _ _ h)
  · have h := Eq.mp (if_neg hc_6) h
    refine st_if (t := 41) (b := false) rfl (decide_eq_false hc_6) rfl ?_
    refine st_go 3 (pc' := 46) (lo' := [(6, .int r_5), (5, .int r_3), (0, .ref 20), (1, .int x1), (2, .int x2), (3, .int x3), (4, .int x4)]) (st' := [.int x2, .int (gF d_4 20 9)]) rfl ?_
    by_cases hc_7 : (gF d_4 20 9) = x2
    · have h := Eq.mp (if_pos hc_7) h
      refine st_icmp (t := 49) (b := false) rfl (decide_eq_false (fun z => z hc_7)) rfl ?_
      refine st_go 2 (pc' := 53) (lo' := [(6, .int r_5), (5, .int r_3), (0, .ref 20), (1, .int x1), (2, .int x2), (3, .int x3), (4, .int x4)]) (st' := [.ref 28]) rfl ?_
      refine st_calli (k' := 12) (as := [.ref 28]) (rest := []) (lo' := [(0, .ref 28)]) (wf := fun d => wC L d e) rfl rfl rfl ?_
      refine tExpression_known (fun r_9 d_8 h => ⟨r_9, d_8, rfl, rfl, ?_⟩) d_4 h
      by_cases hc_10 : r_9 = 0
      · have h := Eq.mp (if_pos hc_10) h
        refine st_if (t := 81) (b := true) rfl (decide_eq_true hc_10) rfl ?_
        refine st_go 1 (pc' := 83) (lo' := [(6, .int r_5), (5, .int r_3), (0, .ref 20), (1, .int x1), (2, .int x2), (3, .int x3), (4, .int x4)]) (st' := [.int r_3]) rfl ?_
        exact st_retI rfl rfl (hQ _ _ h)
      · have h := Eq.mp (if_neg hc_10) h
        refine st_if (t := 59) (b := false) rfl (decide_eq_false hc_10) rfl ?_
        refine st_go 2 (pc' := 62) (lo' := [(6, .int r_5), (5, .int r_3), (0, .ref 20), (1, .int x1), (2, .int x2), (3, .int x3), (4, .int x4)]) (st' := [.int x3, .int r_5]) rfl ?_
        by_cases hc_11 : r_5 < x3
        · have h := Eq.mp (if_pos hc_11) h
          refine st_icmp (t := 72) (b := true) rfl (decide_eq_true hc_11) rfl ?_
          refine vmWp.sub (lo' := [(0, .ref 20), (1, .int x1), (5, .int r_3)]) ⟨rfl, rfl, rfl, trivial⟩ ?_
          exact tForger_readNumber_72 hQ x1 r_3 d_8 h
        · have h := Eq.mp (if_neg hc_11) h
          refine st_icmp (t := 65) (b := false) rfl (decide_eq_false hc_11) rfl ?_
          refine st_go 2 (pc' := 69) (lo' := [(6, .int r_5), (5, .int r_3), (0, .ref 20), (1, .int x1), (2, .int x2), (3, .int x3), (4, .int x4)]) (st' := [.int x4, .int r_5]) rfl ?_
          by_cases hc_13 : x4 < r_5
          · have h := Eq.mp (if_pos hc_13) h
            refine st_icmp (t := 72) (b := false) rfl (decide_eq_false (Int32.not_le.mpr hc_13)) rfl ?_
            refine vmWp.sub (lo' := [(0, .ref 20), (1, .int x1), (5, .int r_3)]) ⟨rfl, rfl, rfl, trivial⟩ ?_
            exact tForger_readNumber_72 hQ x1 r_3 d_8 h
          · have h := Eq.mp (if_neg hc_13) h
            refine st_icmp (t := 81) (b := true) rfl (decide_eq_true (Int32.not_lt.mp hc_13)) rfl ?_
            refine st_go 1 (pc' := 83) (lo' := [(6, .int r_5), (5, .int r_3), (0, .ref 20), (1, .int x1), (2, .int x2), (3, .int x3), (4, .int x4)]) (st' := [.int r_3]) rfl ?_
            exact st_retI rfl rfl (hQ _ _ h)
    · have h := Eq.mp (if_neg hc_7) h
      refine st_icmp (t := 81) (b := true) rfl (decide_eq_true hc_7) rfl ?_
      refine st_go 1 (pc' := 83) (lo' := [(6, .int r_5), (5, .int r_3), (0, .ref 20), (1, .int x1), (2, .int x2), (3, .int x3), (4, .int x4)]) (st' := [.int r_3]) rfl ?_
      exact st_retI rfl rfl (hQ _ _ h)
set_option maxRecDepth 100000 in
def Forger_readNumber (x1 : Int32) (x2 : Int32) (x3 : Int32) (x4 : Int32) (d : vmD) (Q : Int32 → vmD → Prop) : Prop :=
  if (gF d 20 9) = x2 then
  (Forger_readNumber_22 x1 x2 x3 x4 1 (gF d 20 11) x1 d Q)
  else
  (Forger_readNumber_22 x1 x2 x3 x4 0 (gF d 20 11) x1 d Q)
set_option maxRecDepth 100000 in
set_option maxHeartbeats 4000000 in
theorem tForger_readNumber {L : Nat} {e : vmD} {Qo : Option Value → vmW → Prop} {Q : Int32 → vmD → Prop} (hQ : ∀ r d, Q r d → Qo (some (.int r)) (wC L d e)) (x1 : Int32) (x2 : Int32) (x3 : Int32) (x4 : Int32) (d : vmD) (h : Forger_readNumber x1 x2 x3 x4 d Q) : vmWp 40 0 [(0, .ref 20), (1, .int x1), (2, .int x2), (3, .int x3), (4, .int x4)] [] (wC L d e) Qo := by
  unfold Forger_readNumber at h
  refine st_go 8 (pc' := 14) (lo' := [(0, .ref 20), (1, .int x1), (2, .int x2), (3, .int x3), (4, .int x4)]) (st' := [.int x2, .int (gF d 20 9), .int (gF d 20 11), .int x1, .ref 28]) rfl ?_
  by_cases hc_1 : (gF d 20 9) = x2
  · have h := Eq.mp (if_pos hc_1) h
    refine st_icmp (t := 17) (b := false) rfl (decide_eq_false (fun z => z hc_1)) rfl ?_
    refine st_go 2 (pc' := 22) (lo' := [(0, .ref 20), (1, .int x1), (2, .int x2), (3, .int x3), (4, .int x4)]) (st' := [.int 1, .int (gF d 20 11), .int x1, .ref 28]) rfl ?_
    refine vmWp.sub (lo' := [(0, .ref 20), (1, .int x1), (2, .int x2), (3, .int x3), (4, .int x4)]) ⟨rfl, rfl, rfl, rfl, rfl, trivial⟩ ?_
    exact tForger_readNumber_22 hQ x1 x2 x3 x4 1 (gF d 20 11) x1 d h
  · have h := Eq.mp (if_neg hc_1) h
    refine st_icmp (t := 21) (b := true) rfl (decide_eq_true hc_1) rfl ?_
    refine st_go 1 (pc' := 22) (lo' := [(0, .ref 20), (1, .int x1), (2, .int x2), (3, .int x3), (4, .int x4)]) (st' := [.int 0, .int (gF d 20 11), .int x1, .ref 28]) rfl ?_
    refine vmWp.sub (lo' := [(0, .ref 20), (1, .int x1), (2, .int x2), (3, .int x3), (4, .int x4)]) ⟨rfl, rfl, rfl, rfl, rfl, trivial⟩ ?_
    exact tForger_readNumber_22 hQ x1 x2 x3 x4 0 (gF d 20 11) x1 d h
set_option maxRecDepth 100000 in
def Forger_origin (x1 : Int32) (d : vmD) (Q : vmD → Prop) : Prop :=
  Forger_readNumber (x1 + 1) 1 0 65535 d fun r_2 d_1 =>
  if r_2 < 0 then
  (Q d_1)
  else
  (Forger_endsLine r_2 d_1 fun r_5 d_4 =>
  if r_5 = 0 then
  (Q d_4)
  else
  (Expression_value d_4 fun r_8 d_7 =>
  bnd (sF d_7 20 11 r_8) fun d_9 =>
  Q d_9))
set_option maxRecDepth 100000 in
set_option maxHeartbeats 4000000 in
theorem tForger_origin {L : Nat} {e : vmD} {Qo : Option Value → vmW → Prop} {Q : vmD → Prop} (hQ : ∀ d, Q d → Qo none (wC L d e)) (x1 : Int32) (d : vmD) (h : Forger_origin x1 d Q) : vmWp 42 0 [(0, .ref 20), (1, .int x1)] [] (wC L d e) Qo := by
  unfold Forger_origin at h
  refine st_go 7 (pc' := 8) (lo' := [(0, .ref 20), (1, .int x1)]) (st' := [.int 65535, .int 0, .int 1, .int (x1 + 1), .ref 20]) rfl ?_
  refine st_calli (k' := 40) (as := [.ref 20, .int (x1 + 1), .int 1, .int 0, .int 65535]) (rest := []) (lo' := [(0, .ref 20), (1, .int (x1 + 1)), (2, .int 1), (3, .int 0), (4, .int 65535)]) (wf := fun d => wC L d e) rfl rfl rfl ?_
  refine tForger_readNumber (fun r_2 d_1 h => ⟨r_2, d_1, rfl, rfl, ?_⟩) (x1 + 1) 1 0 65535 d h
  refine st_go 2 (pc' := 13) (lo' := [(2, .int r_2), (0, .ref 20), (1, .int x1)]) (st' := [.int r_2]) rfl ?_
  by_cases hc_3 : r_2 < 0
  · have h := Eq.mp (if_pos hc_3) h
    refine st_if (t := 35) (b := true) rfl (decide_eq_true hc_3) rfl ?_
    exact st_retV rfl rfl (hQ _ h)
  · have h := Eq.mp (if_neg hc_3) h
    refine st_if (t := 16) (b := false) rfl (decide_eq_false hc_3) rfl ?_
    refine st_go 2 (pc' := 18) (lo' := [(2, .int r_2), (0, .ref 20), (1, .int x1)]) (st' := [.int r_2, .ref 20]) rfl ?_
    refine st_calli (k' := 39) (as := [.ref 20, .int r_2]) (rest := []) (lo' := [(0, .ref 20), (1, .int r_2)]) (wf := fun d => wC L d e) rfl rfl rfl ?_
    refine tForger_endsLine (fun r_5 d_4 h => ⟨r_5, d_4, rfl, rfl, ?_⟩) r_2 d_1 h
    by_cases hc_6 : r_5 = 0
    · have h := Eq.mp (if_pos hc_6) h
      refine st_if (t := 35) (b := true) rfl (decide_eq_true hc_6) rfl ?_
      exact st_retV rfl rfl (hQ _ h)
    · have h := Eq.mp (if_neg hc_6) h
      refine st_if (t := 24) (b := false) rfl (decide_eq_false hc_6) rfl ?_
      refine st_go 3 (pc' := 29) (lo' := [(2, .int r_2), (0, .ref 20), (1, .int x1)]) (st' := [.ref 28, .ref 20]) rfl ?_
      refine st_calli (k' := 11) (as := [.ref 28]) (rest := [.ref 20]) (lo' := [(0, .ref 28)]) (wf := fun d => wC L d e) rfl rfl rfl ?_
      refine tExpression_value (fun r_8 d_7 h => ⟨r_8, d_7, rfl, rfl, ?_⟩) d_4 h
      refine st_putIC (o := 20) (f := 11) rfl rfl rfl rfl rfl (fun d_9 hy_d_9 => ?_)
      have h := h d_9 hy_d_9
      exact st_retV rfl rfl (hQ _ h)
set_option maxRecDepth 100000 in
def Forger_goOn_22 (x2 : Int32) (d : vmD) (Q : vmD → Prop) : Prop :=
  bnd (sF d 20 11 ((gF d 20 11) + x2)) fun d_3 =>
  Q d_3
set_option maxRecDepth 100000 in
set_option maxHeartbeats 4000000 in
theorem tForger_goOn_22 {L : Nat} {e : vmD} {Qo : Option Value → vmW → Prop} {Q : vmD → Prop} (hQ : ∀ d, Q d → Qo none (wC L d e)) (x2 : Int32) (d : vmD) (h : Forger_goOn_22 x2 d Q) : vmWp 56 22 [(0, .ref 20), (2, .int x2)] [] (wC L d e) Qo := by
  unfold Forger_goOn_22 at h
  refine st_go 5 (pc' := 29) (lo' := [(0, .ref 20), (2, .int x2)]) (st' := [.int ((gF d 20 11) + x2), .ref 20]) rfl ?_
  refine st_putIC (o := 20) (f := 11) rfl rfl rfl rfl rfl (fun d_3 hy_d_3 => ?_)
  have h := h d_3 hy_d_3
  exact st_retV rfl rfl (hQ _ h)
set_option maxRecDepth 100000 in
def Forger_goOn (x1 : Int32) (x2 : Int32) (d : vmD) (Q : vmD → Prop) : Prop :=
  if (65536 : Int32) < ((gF d 20 11) + x2) then
  (Tokens_blame x1 8 d fun d_2 =>
  Forger_goOn_22 x2 d_2 Q)
  else
  (Forger_goOn_22 x2 d Q)
set_option maxRecDepth 100000 in
set_option maxHeartbeats 4000000 in
theorem tForger_goOn {L : Nat} {e : vmD} {Qo : Option Value → vmW → Prop} {Q : vmD → Prop} (hQ : ∀ d, Q d → Qo none (wC L d e)) (x1 : Int32) (x2 : Int32) (d : vmD) (h : Forger_goOn x1 x2 d Q) : vmWp 56 0 [(0, .ref 20), (1, .int x1), (2, .int x2)] [] (wC L d e) Qo := by
  unfold Forger_goOn at h
  refine st_go 5 (pc' := 9) (lo' := [(0, .ref 20), (1, .int x1), (2, .int x2)]) (st' := [.int 65536, .int ((gF d 20 11) + x2)]) rfl ?_
  by_cases hc_1 : (65536 : Int32) < ((gF d 20 11) + x2)
  · have h := Eq.mp (if_pos hc_1) h
    refine st_icmp (t := 12) (b := false) rfl (decide_eq_false (Int32.not_le.mpr hc_1)) rfl ?_
    refine st_go 4 (pc' := 19) (lo' := [(0, .ref 20), (1, .int x1), (2, .int x2)]) (st' := [.int 8, .int x1, .ref 24]) rfl ?_
    refine st_callv (k' := 218) (as := [.ref 24, .int x1, .int 8]) (rest := []) (lo' := [(0, .ref 24), (1, .int x1), (2, .int 8)]) (wf := fun d => wC L d e) rfl rfl rfl ?_
    refine tTokens_blame (fun d_2 h => ⟨d_2, rfl, rfl, ?_⟩) x1 8 d h
    refine vmWp.sub (lo' := [(0, .ref 20), (2, .int x2)]) ⟨rfl, rfl, trivial⟩ ?_
    exact tForger_goOn_22 hQ x2 d_2 h
  · have h := Eq.mp (if_neg hc_1) h
    refine st_icmp (t := 22) (b := true) rfl (decide_eq_true (Int32.not_lt.mp hc_1)) rfl ?_
    refine vmWp.sub (lo' := [(0, .ref 20), (2, .int x2)]) ⟨rfl, rfl, trivial⟩ ?_
    exact tForger_goOn_22 hQ x2 d h
set_option maxRecDepth 100000 in
def Memory_store (x1 : Int32) (x2 : Int32) (d : vmD) (Q : vmD → Prop) : Prop :=
  ixOk (x1 &&& 65535) 65536 ∧
  bnd (sA d 2 (x1 &&& 65535).toNatClampNeg ((Int8.toInt32 (Int32.toInt8 x2)).toInt8.toInt32)) fun d_2 =>
  Q d_2
set_option maxRecDepth 100000 in
set_option maxHeartbeats 4000000 in
theorem tMemory_store {L : Nat} {e : vmD} {Qo : Option Value → vmW → Prop} {Q : vmD → Prop} (hQ : ∀ d, Q d → Qo none (wC L d e)) (x1 : Int32) (x2 : Int32) (d : vmD) (h : Memory_store x1 x2 d Q) : vmWp 130 0 [(0, .ref 1), (1, .int x1), (2, .int x2)] [] (wC L d e) Qo := by
  unfold Memory_store at h
  refine st_go 7 (pc' := 10) (lo' := [(0, .ref 1), (1, .int x1), (2, .int x2)]) (st' := [.int (Int8.toInt32 (Int32.toInt8 x2)), .int (x1 &&& 65535), .ref 2]) rfl ?_
  obtain ⟨hj_1, h⟩ := h
  refine st_bastC (o := 2) rfl rfl hj_1 rfl (fun d_2 hy_d_2 => ?_)
  have h := h d_2 hy_d_2
  exact st_retV rfl rfl (hQ _ h)
set_option maxRecDepth 100000 in
def Forger_count_12 (x2 : Int32) (d : vmD) (Q : vmD → Prop) : Prop :=
  bnd (sF d 20 12 ((gF d 20 12) + x2)) fun d_3 =>
  Q d_3
set_option maxRecDepth 100000 in
set_option maxHeartbeats 4000000 in
theorem tForger_count_12 {L : Nat} {e : vmD} {Qo : Option Value → vmW → Prop} {Q : vmD → Prop} (hQ : ∀ d, Q d → Qo none (wC L d e)) (x2 : Int32) (d : vmD) (h : Forger_count_12 x2 d Q) : vmWp 55 12 [(0, .ref 20), (2, .int x2)] [] (wC L d e) Qo := by
  unfold Forger_count_12 at h
  refine st_go 5 (pc' := 19) (lo' := [(0, .ref 20), (2, .int x2)]) (st' := [.int ((gF d 20 12) + x2), .ref 20]) rfl ?_
  refine st_putIC (o := 20) (f := 12) rfl rfl rfl rfl rfl (fun d_3 hy_d_3 => ?_)
  have h := h d_3 hy_d_3
  exact st_retV rfl rfl (hQ _ h)
set_option maxRecDepth 100000 in
def Forger_count (x1 : Int32) (x2 : Int32) (d : vmD) (Q : vmD → Prop) : Prop :=
  if (gF d 20 12) = 0 then
  (bnd (sF d 20 13 x1) fun d_2 =>
  Forger_count_12 x2 d_2 Q)
  else
  (Forger_count_12 x2 d Q)
set_option maxRecDepth 100000 in
set_option maxHeartbeats 4000000 in
theorem tForger_count {L : Nat} {e : vmD} {Qo : Option Value → vmW → Prop} {Q : vmD → Prop} (hQ : ∀ d, Q d → Qo none (wC L d e)) (x1 : Int32) (x2 : Int32) (d : vmD) (h : Forger_count x1 x2 d Q) : vmWp 55 0 [(0, .ref 20), (1, .int x1), (2, .int x2)] [] (wC L d e) Qo := by
  unfold Forger_count at h
  refine st_go 2 (pc' := 4) (lo' := [(0, .ref 20), (1, .int x1), (2, .int x2)]) (st' := [.int (gF d 20 12)]) rfl ?_
  by_cases hc_1 : (gF d 20 12) = 0
  · have h := Eq.mp (if_pos hc_1) h
    refine st_if (t := 7) (b := false) rfl (decide_eq_false (fun z => z hc_1)) rfl ?_
    refine st_go 2 (pc' := 9) (lo' := [(0, .ref 20), (1, .int x1), (2, .int x2)]) (st' := [.int x1, .ref 20]) rfl ?_
    refine st_putIC (o := 20) (f := 13) rfl rfl rfl rfl rfl (fun d_2 hy_d_2 => ?_)
    have h := h d_2 hy_d_2
    refine vmWp.sub (lo' := [(0, .ref 20), (2, .int x2)]) ⟨rfl, rfl, trivial⟩ ?_
    exact tForger_count_12 hQ x2 d_2 h
  · have h := Eq.mp (if_neg hc_1) h
    refine st_if (t := 12) (b := true) rfl (decide_eq_true hc_1) rfl ?_
    refine vmWp.sub (lo' := [(0, .ref 20), (2, .int x2)]) ⟨rfl, rfl, trivial⟩ ?_
    exact tForger_count_12 hQ x2 d h
set_option maxRecDepth 100000 in
def Forger_putNumber_3 (Q : vmD → Prop) : Nat → Int32 → Int32 → Int32 → Int32 → vmD → Prop
  | 0, _, _, _, _, _ => False
  | n + 1, x1, x2, x3, x4, d => if (gF d 20 9) = 3 then
  (if x4 < x2 then
  (Memory_store (x1 + x4) (x3 >>> (((8 : Int32) * x4) &&& 31)) d fun d_3 =>
  Forger_count (x1 + x4) 1 d_3 fun d_4 =>
  bnd (x4 + 1) fun x4_5 =>
  (Forger_putNumber_3 Q n) x1 x2 x3 x4_5 d_4)
  else
  (Q d))
  else
  (Q d)
set_option maxRecDepth 100000 in
set_option maxHeartbeats 4000000 in
theorem tForger_putNumber_3 {L : Nat} {e : vmD} {Qo : Option Value → vmW → Prop} {Q : vmD → Prop} (hQ : ∀ d, Q d → Qo none (wC L d e)) : ∀ (n : Nat) (x1 : Int32) (x2 : Int32) (x3 : Int32) (x4 : Int32) (d : vmD), Forger_putNumber_3 Q n x1 x2 x3 x4 d → vmWp 53 3 [(0, .ref 20), (1, .int x1), (2, .int x2), (3, .int x3), (4, .int x4)] [] (wC L d e) Qo := by
  intro n
  induction n with
  | zero => intro x1 x2 x3 x4 d h; exact h.elim
  | succ n ih =>
    intro x1 x2 x3 x4 d h
    unfold Forger_putNumber_3 at h
    refine st_go 3 (pc' := 8) (lo' := [(0, .ref 20), (1, .int x1), (2, .int x2), (3, .int x3), (4, .int x4)]) (st' := [.int 3, .int (gF d 20 9)]) rfl ?_
    by_cases hc_1 : (gF d 20 9) = 3
    · have h := Eq.mp (if_pos hc_1) h
      refine st_icmp (t := 11) (b := false) rfl (decide_eq_false (fun z => z hc_1)) rfl ?_
      refine st_go 2 (pc' := 14) (lo' := [(0, .ref 20), (1, .int x1), (2, .int x2), (3, .int x3), (4, .int x4)]) (st' := [.int x2, .int x4]) rfl ?_
      by_cases hc_2 : x4 < x2
      · have h := Eq.mp (if_pos hc_2) h
        refine st_icmp (t := 17) (b := false) rfl (decide_eq_false (Int32.not_le.mpr hc_2)) rfl ?_
        refine st_go 10 (pc' := 32) (lo' := [(0, .ref 20), (1, .int x1), (2, .int x2), (3, .int x3), (4, .int x4)]) (st' := [.int (x3 >>> (((8 : Int32) * x4) &&& 31)), .int (x1 + x4), .ref 1]) rfl ?_
        refine st_callv (k' := 130) (as := [.ref 1, .int (x1 + x4), .int (x3 >>> (((8 : Int32) * x4) &&& 31))]) (rest := []) (lo' := [(0, .ref 1), (1, .int (x1 + x4)), (2, .int (x3 >>> (((8 : Int32) * x4) &&& 31)))]) (wf := fun d => wC L d e) rfl rfl rfl ?_
        refine tMemory_store (fun d_3 h => ⟨d_3, rfl, rfl, ?_⟩) (x1 + x4) (x3 >>> (((8 : Int32) * x4) &&& 31)) d h
        refine st_go 5 (pc' := 41) (lo' := [(0, .ref 20), (1, .int x1), (2, .int x2), (3, .int x3), (4, .int x4)]) (st' := [.int 1, .int (x1 + x4), .ref 20]) rfl ?_
        refine st_callv (k' := 55) (as := [.ref 20, .int (x1 + x4), .int 1]) (rest := []) (lo' := [(0, .ref 20), (1, .int (x1 + x4)), (2, .int 1)]) (wf := fun d => wC L d e) rfl rfl rfl ?_
        refine tForger_count (fun d_4 h => ⟨d_4, rfl, rfl, ?_⟩) (x1 + x4) 1 d_3 h
        refine st_go 1 (pc' := 47) (lo' := [(4, .int (x4 + 1)), (0, .ref 20), (1, .int x1), (2, .int x2), (3, .int x3)]) (st' := []) rfl ?_
        refine st_locI (fun x4_5 hy_x4_5 => ?_)
        have h := h x4_5 hy_x4_5
        refine st_go 1 (pc' := 3) (lo' := [(4, .int x4_5), (0, .ref 20), (1, .int x1), (2, .int x2), (3, .int x3)]) (st' := []) rfl ?_
        refine vmWp.sub (lo' := [(0, .ref 20), (1, .int x1), (2, .int x2), (3, .int x3), (4, .int x4_5)]) ⟨rfl, rfl, rfl, rfl, rfl, trivial⟩ ?_
        exact ih x1 x2 x3 x4_5 d_4 h
      · have h := Eq.mp (if_neg hc_2) h
        refine st_icmp (t := 50) (b := true) rfl (decide_eq_true (Int32.not_lt.mp hc_2)) rfl ?_
        exact st_retV rfl rfl (hQ _ h)
    · have h := Eq.mp (if_neg hc_1) h
      refine st_icmp (t := 50) (b := true) rfl (decide_eq_true hc_1) rfl ?_
      exact st_retV rfl rfl (hQ _ h)
set_option maxRecDepth 100000 in
def Forger_putNumber (x1 : Int32) (x2 : Int32) (x3 : Int32) (d : vmD) (Q : vmD → Prop) : Prop :=
  ∃ m3, Forger_putNumber_3 Q m3 x1 x2 x3 0 d
set_option maxRecDepth 100000 in
set_option maxHeartbeats 4000000 in
theorem tForger_putNumber {L : Nat} {e : vmD} {Qo : Option Value → vmW → Prop} {Q : vmD → Prop} (hQ : ∀ d, Q d → Qo none (wC L d e)) (x1 : Int32) (x2 : Int32) (x3 : Int32) (d : vmD) (h : Forger_putNumber x1 x2 x3 d Q) : vmWp 53 0 [(0, .ref 20), (1, .int x1), (2, .int x2), (3, .int x3)] [] (wC L d e) Qo := by
  unfold Forger_putNumber at h
  refine st_go 2 (pc' := 3) (lo' := [(4, .int 0), (0, .ref 20), (1, .int x1), (2, .int x2), (3, .int x3)]) (st' := []) rfl ?_
  obtain ⟨m3, h⟩ := h
  refine vmWp.sub (lo' := [(0, .ref 20), (1, .int x1), (2, .int x2), (3, .int x3), (4, .int 0)]) ⟨rfl, rfl, rfl, rfl, rfl, trivial⟩ ?_
  exact tForger_putNumber_3 hQ m3 x1 x2 x3 0 d h
set_option maxRecDepth 100000 in
def Forger_putText_14 (Q : vmD → Prop) : Nat → Int32 → Int32 → Int32 → Int32 → vmD → Prop
  | 0, _, _, _, _, _ => False
  | n + 1, x1, x2, x3, x4, d => Tokens_value x2 d fun r_5 d_4 =>
  if (lg_cmp (Int32.toInt64 x4) r_5) < 0 then
  (Text_at_src (x3 + x4) d_4 fun r_8 d_7 =>
  Forger_putNumber (x1 + x4) 1 r_8 d_7 fun d_9 =>
  bnd (x4 + 1) fun x4_10 =>
  (Forger_putText_14 Q n) x1 x2 x3 x4_10 d_9)
  else
  (Q d_4)
set_option maxRecDepth 100000 in
set_option maxHeartbeats 4000000 in
theorem tForger_putText_14 {L : Nat} {e : vmD} {Qo : Option Value → vmW → Prop} {Q : vmD → Prop} (hQ : ∀ d, Q d → Qo none (wC L d e)) : ∀ (n : Nat) (x1 : Int32) (x2 : Int32) (x3 : Int32) (x4 : Int32) (d : vmD), Forger_putText_14 Q n x1 x2 x3 x4 d → vmWp 54 14 [(0, .ref 20), (1, .int x1), (2, .int x2), (3, .int x3), (4, .int x4)] [] (wC L d e) Qo := by
  intro n
  induction n with
  | zero => intro x1 x2 x3 x4 d h; exact h.elim
  | succ n ih =>
    intro x1 x2 x3 x4 d h
    unfold Forger_putText_14 at h
    refine st_go 5 (pc' := 22) (lo' := [(0, .ref 20), (1, .int x1), (2, .int x2), (3, .int x3), (4, .int x4)]) (st' := [.int x2, .ref 24, .long (Int32.toInt64 x4)]) rfl ?_
    refine st_calll (k' := 215) (as := [.ref 24, .int x2]) (rest := [.long (Int32.toInt64 x4)]) (lo' := [(0, .ref 24), (1, .int x2)]) (wf := fun d => wC L d e) rfl rfl rfl ?_
    refine tTokens_value (fun r_5 d_4 h => ⟨r_5, d_4, rfl, rfl, ?_⟩) x2 d h
    refine st_go 1 (pc' := 26) (lo' := [(0, .ref 20), (1, .int x1), (2, .int x2), (3, .int x3), (4, .int x4)]) (st' := [.int (lg_cmp (Int32.toInt64 x4) r_5)]) rfl ?_
    by_cases hc_6 : (lg_cmp (Int32.toInt64 x4) r_5) < 0
    · have h := Eq.mp (if_pos hc_6) h
      refine st_if (t := 29) (b := false) rfl (decide_eq_false (Int32.not_le.mpr hc_6)) rfl ?_
      refine st_go 10 (pc' := 43) (lo' := [(0, .ref 20), (1, .int x1), (2, .int x2), (3, .int x3), (4, .int x4)]) (st' := [.int (x3 + x4), .ref 9, .int 1, .int (x1 + x4), .ref 20]) rfl ?_
      refine st_calli (k' := 191) (as := [.ref 9, .int (x3 + x4)]) (rest := [.int 1, .int (x1 + x4), .ref 20]) (lo' := [(0, .ref 9), (1, .int (x3 + x4))]) (wf := fun d => wC L d e) rfl rfl rfl ?_
      refine tText_at_src (fun r_8 d_7 h => ⟨r_8, d_7, rfl, rfl, ?_⟩) (x3 + x4) d_4 h
      refine st_callv (k' := 53) (as := [.ref 20, .int (x1 + x4), .int 1, .int r_8]) (rest := []) (lo' := [(0, .ref 20), (1, .int (x1 + x4)), (2, .int 1), (3, .int r_8)]) (wf := fun d => wC L d e) rfl rfl rfl ?_
      refine tForger_putNumber (fun d_9 h => ⟨d_9, rfl, rfl, ?_⟩) (x1 + x4) 1 r_8 d_7 h
      refine st_go 1 (pc' := 52) (lo' := [(4, .int (x4 + 1)), (0, .ref 20), (1, .int x1), (2, .int x2), (3, .int x3)]) (st' := []) rfl ?_
      refine st_locI (fun x4_10 hy_x4_10 => ?_)
      have h := h x4_10 hy_x4_10
      refine st_go 1 (pc' := 14) (lo' := [(4, .int x4_10), (0, .ref 20), (1, .int x1), (2, .int x2), (3, .int x3)]) (st' := []) rfl ?_
      refine vmWp.sub (lo' := [(0, .ref 20), (1, .int x1), (2, .int x2), (3, .int x3), (4, .int x4_10)]) ⟨rfl, rfl, rfl, rfl, rfl, trivial⟩ ?_
      exact ih x1 x2 x3 x4_10 d_9 h
    · have h := Eq.mp (if_neg hc_6) h
      refine st_if (t := 55) (b := true) rfl (decide_eq_true (Int32.not_lt.mp hc_6)) rfl ?_
      exact st_retV rfl rfl (hQ _ h)
set_option maxRecDepth 100000 in
def Forger_putText (x1 : Int32) (x2 : Int32) (d : vmD) (Q : vmD → Prop) : Prop :=
  Tokens_place x2 d fun r_2 d_1 =>
  bnd (r_2 + 1) fun x3_3 =>
  ∃ m14, Forger_putText_14 Q m14 x1 x2 x3_3 0 d_1
set_option maxRecDepth 100000 in
set_option maxHeartbeats 4000000 in
theorem tForger_putText {L : Nat} {e : vmD} {Qo : Option Value → vmW → Prop} {Q : vmD → Prop} (hQ : ∀ d, Q d → Qo none (wC L d e)) (x1 : Int32) (x2 : Int32) (d : vmD) (h : Forger_putText x1 x2 d Q) : vmWp 54 0 [(0, .ref 20), (1, .int x1), (2, .int x2)] [] (wC L d e) Qo := by
  unfold Forger_putText at h
  refine st_go 3 (pc' := 5) (lo' := [(0, .ref 20), (1, .int x1), (2, .int x2)]) (st' := [.int x2, .ref 24]) rfl ?_
  refine st_calli (k' := 214) (as := [.ref 24, .int x2]) (rest := []) (lo' := [(0, .ref 24), (1, .int x2)]) (wf := fun d => wC L d e) rfl rfl rfl ?_
  refine tTokens_place (fun r_2 d_1 h => ⟨r_2, d_1, rfl, rfl, ?_⟩) x2 d h
  refine st_go 3 (pc' := 11) (lo' := [(3, .int (r_2 + 1)), (0, .ref 20), (1, .int x1), (2, .int x2)]) (st' := []) rfl ?_
  refine st_locI (fun x3_3 hy_x3_3 => ?_)
  have h := h x3_3 hy_x3_3
  refine st_go 2 (pc' := 14) (lo' := [(4, .int 0), (3, .int x3_3), (0, .ref 20), (1, .int x1), (2, .int x2)]) (st' := []) rfl ?_
  obtain ⟨m14, h⟩ := h
  refine vmWp.sub (lo' := [(0, .ref 20), (1, .int x1), (2, .int x2), (3, .int x3_3), (4, .int 0)]) ⟨rfl, rfl, rfl, rfl, rfl, trivial⟩ ?_
  exact tForger_putText_14 hQ m14 x1 x2 x3_3 0 d_1 h
set_option maxRecDepth 100000 in
def Forger_data_178 (x1 : Int32) (x3 : Int32) (x4 : Int32) (d : vmD) (Q : vmD → Prop) : Prop :=
  Forger_endsLine x4 d fun r_4 d_3 =>
  if r_4 = 0 then
  (Q d_3)
  else
  (Forger_goOn x1 (x3 - (gF d_3 20 11)) d_3 fun d_6 =>
  Q d_6)
set_option maxRecDepth 100000 in
set_option maxHeartbeats 4000000 in
theorem tForger_data_178 {L : Nat} {e : vmD} {Qo : Option Value → vmW → Prop} {Q : vmD → Prop} (hQ : ∀ d, Q d → Qo none (wC L d e)) (x1 : Int32) (x3 : Int32) (x4 : Int32) (d : vmD) (h : Forger_data_178 x1 x3 x4 d Q) : vmWp 43 178 [(0, .ref 20), (1, .int x1), (3, .int x3), (4, .int x4)] [] (wC L d e) Qo := by
  unfold Forger_data_178 at h
  refine st_go 2 (pc' := 181) (lo' := [(0, .ref 20), (1, .int x1), (3, .int x3), (4, .int x4)]) (st' := [.int x4, .ref 20]) rfl ?_
  refine st_calli (k' := 39) (as := [.ref 20, .int x4]) (rest := []) (lo' := [(0, .ref 20), (1, .int x4)]) (wf := fun d => wC L d e) rfl rfl rfl ?_
  refine tForger_endsLine (fun r_4 d_3 h => ⟨r_4, d_3, rfl, rfl, ?_⟩) x4 d h
  by_cases hc_5 : r_4 = 0
  · have h := Eq.mp (if_pos hc_5) h
    refine st_if (t := 198) (b := true) rfl (decide_eq_true hc_5) rfl ?_
    exact st_retV rfl rfl (hQ _ h)
  · have h := Eq.mp (if_neg hc_5) h
    refine st_if (t := 187) (b := false) rfl (decide_eq_false hc_5) rfl ?_
    refine st_go 6 (pc' := 195) (lo' := [(0, .ref 20), (1, .int x1), (3, .int x3), (4, .int x4)]) (st' := [.int (x3 - (gF d_3 20 11)), .int x1, .ref 20]) rfl ?_
    refine st_callv (k' := 56) (as := [.ref 20, .int x1, .int (x3 - (gF d_3 20 11))]) (rest := []) (lo' := [(0, .ref 20), (1, .int x1), (2, .int (x3 - (gF d_3 20 11)))]) (wf := fun d => wC L d e) rfl rfl rfl ?_
    refine tForger_goOn (fun d_6 h => ⟨d_6, rfl, rfl, ?_⟩) x1 (x3 - (gF d_3 20 11)) d_3 h
    exact st_retV rfl rfl (hQ _ h)
set_option maxRecDepth 100000 in
def Forger_data_170 (b14 : Int32 → Int32 → Int32 → Int32 → Int32 → Int32 → vmD → Prop) (x1 : Int32) (x2 : Int32) (x3 : Int32) (x4 : Int32) (x6 : Int32) (s0 : Int32) (d : vmD) (Q : vmD → Prop) : Prop :=
  bnd (x6 + 1) fun x6_24 =>
  b14 x1 x2 x3 x4 s0 x6_24 d
set_option maxRecDepth 100000 in
set_option maxHeartbeats 4000000 in
theorem tForger_data_170 {L : Nat} {e : vmD} {Qo : Option Value → vmW → Prop} {b14 : Int32 → Int32 → Int32 → Int32 → Int32 → Int32 → vmD → Prop} {Q : vmD → Prop} (hb14 : ∀ x1 x2 x3 x4 x5 x6 d, b14 x1 x2 x3 x4 x5 x6 d → vmWp 43 14 [(0, .ref 20), (1, .int x1), (2, .int x2), (3, .int x3), (4, .int x4), (5, .int x5), (6, .int x6)] [] (wC L d e) Qo) (hQ : ∀ d, Q d → Qo none (wC L d e)) (x1 : Int32) (x2 : Int32) (x3 : Int32) (x4 : Int32) (x6 : Int32) (s0 : Int32) (d : vmD) (h : Forger_data_170 b14 x1 x2 x3 x4 x6 s0 d Q) : vmWp 43 170 [(0, .ref 20), (1, .int x1), (2, .int x2), (3, .int x3), (4, .int x4), (6, .int x6)] [.int s0] (wC L d e) Qo := by
  unfold Forger_data_170 at h
  refine st_go 2 (pc' := 175) (lo' := [(6, .int (x6 + 1)), (5, .int s0), (0, .ref 20), (1, .int x1), (2, .int x2), (3, .int x3), (4, .int x4)]) (st' := []) rfl ?_
  refine st_locI (fun x6_24 hy_x6_24 => ?_)
  have h := h x6_24 hy_x6_24
  refine st_go 1 (pc' := 14) (lo' := [(6, .int x6_24), (5, .int s0), (0, .ref 20), (1, .int x1), (2, .int x2), (3, .int x3), (4, .int x4)]) (st' := []) rfl ?_
  refine vmWp.sub (lo' := [(0, .ref 20), (1, .int x1), (2, .int x2), (3, .int x3), (4, .int x4), (5, .int s0), (6, .int x6_24)]) ⟨rfl, rfl, rfl, rfl, rfl, rfl, rfl, trivial⟩ ?_
  exact hb14 x1 x2 x3 x4 s0 x6_24 d h
set_option maxRecDepth 100000 in
def Forger_data_151 (b14 : Int32 → Int32 → Int32 → Int32 → Int32 → Int32 → vmD → Prop) (x1 : Int32) (x2 : Int32) (x3 : Int32) (x4 : Int32) (x6 : Int32) (d : vmD) (Q : vmD → Prop) : Prop :=
  Tokens_kind x4 d fun r_22 d_21 =>
  if r_22 = 44 then
  (Forger_data_170 b14 x1 x2 x3 x4 x6 1 d_21 Q)
  else
  (Forger_data_170 b14 x1 x2 x3 x4 x6 0 d_21 Q)
set_option maxRecDepth 100000 in
set_option maxHeartbeats 4000000 in
theorem tForger_data_151 {L : Nat} {e : vmD} {Qo : Option Value → vmW → Prop} {b14 : Int32 → Int32 → Int32 → Int32 → Int32 → Int32 → vmD → Prop} {Q : vmD → Prop} (hb14 : ∀ x1 x2 x3 x4 x5 x6 d, b14 x1 x2 x3 x4 x5 x6 d → vmWp 43 14 [(0, .ref 20), (1, .int x1), (2, .int x2), (3, .int x3), (4, .int x4), (5, .int x5), (6, .int x6)] [] (wC L d e) Qo) (hQ : ∀ d, Q d → Qo none (wC L d e)) (x1 : Int32) (x2 : Int32) (x3 : Int32) (x4 : Int32) (x6 : Int32) (d : vmD) (h : Forger_data_151 b14 x1 x2 x3 x4 x6 d Q) : vmWp 43 151 [(0, .ref 20), (1, .int x1), (2, .int x2), (3, .int x3), (4, .int x4), (6, .int x6)] [] (wC L d e) Qo := by
  unfold Forger_data_151 at h
  refine st_go 3 (pc' := 157) (lo' := [(0, .ref 20), (1, .int x1), (2, .int x2), (3, .int x3), (4, .int x4), (6, .int x6)]) (st' := [.int x4, .ref 24]) rfl ?_
  refine st_calli (k' := 213) (as := [.ref 24, .int x4]) (rest := []) (lo' := [(0, .ref 24), (1, .int x4)]) (wf := fun d => wC L d e) rfl rfl rfl ?_
  refine tTokens_kind (fun r_22 d_21 h => ⟨r_22, d_21, rfl, rfl, ?_⟩) x4 d h
  refine st_go 1 (pc' := 162) (lo' := [(0, .ref 20), (1, .int x1), (2, .int x2), (3, .int x3), (4, .int x4), (6, .int x6)]) (st' := [.int 44, .int r_22]) rfl ?_
  by_cases hc_23 : r_22 = 44
  · have h := Eq.mp (if_pos hc_23) h
    refine st_icmp (t := 165) (b := false) rfl (decide_eq_false (fun z => z hc_23)) rfl ?_
    refine st_go 2 (pc' := 170) (lo' := [(0, .ref 20), (1, .int x1), (2, .int x2), (3, .int x3), (4, .int x4), (6, .int x6)]) (st' := [.int 1]) rfl ?_
    refine vmWp.sub (lo' := [(0, .ref 20), (1, .int x1), (2, .int x2), (3, .int x3), (4, .int x4), (6, .int x6)]) ⟨rfl, rfl, rfl, rfl, rfl, rfl, trivial⟩ ?_
    exact tForger_data_170 hb14 hQ x1 x2 x3 x4 x6 1 d_21 h
  · have h := Eq.mp (if_neg hc_23) h
    refine st_icmp (t := 169) (b := true) rfl (decide_eq_true hc_23) rfl ?_
    refine st_go 1 (pc' := 170) (lo' := [(0, .ref 20), (1, .int x1), (2, .int x2), (3, .int x3), (4, .int x4), (6, .int x6)]) (st' := [.int 0]) rfl ?_
    refine vmWp.sub (lo' := [(0, .ref 20), (1, .int x1), (2, .int x2), (3, .int x3), (4, .int x4), (6, .int x6)]) ⟨rfl, rfl, rfl, rfl, rfl, rfl, trivial⟩ ?_
    exact tForger_data_170 hb14 hQ x1 x2 x3 x4 x6 0 d_21 h
set_option maxRecDepth 100000 in
def Forger_data_149 (b14 : Int32 → Int32 → Int32 → Int32 → Int32 → Int32 → vmD → Prop) (x1 : Int32) (x2 : Int32) (x4 : Int32) (x6 : Int32) (s0 : Int32) (s1 : Int32) (d : vmD) (Q : vmD → Prop) : Prop :=
  bnd (s1 + s0) fun x3_20 =>
  Forger_data_151 b14 x1 x2 x3_20 x4 x6 d Q
set_option maxRecDepth 100000 in
set_option maxHeartbeats 4000000 in
theorem tForger_data_149 {L : Nat} {e : vmD} {Qo : Option Value → vmW → Prop} {b14 : Int32 → Int32 → Int32 → Int32 → Int32 → Int32 → vmD → Prop} {Q : vmD → Prop} (hb14 : ∀ x1 x2 x3 x4 x5 x6 d, b14 x1 x2 x3 x4 x5 x6 d → vmWp 43 14 [(0, .ref 20), (1, .int x1), (2, .int x2), (3, .int x3), (4, .int x4), (5, .int x5), (6, .int x6)] [] (wC L d e) Qo) (hQ : ∀ d, Q d → Qo none (wC L d e)) (x1 : Int32) (x2 : Int32) (x4 : Int32) (x6 : Int32) (s0 : Int32) (s1 : Int32) (d : vmD) (h : Forger_data_149 b14 x1 x2 x4 x6 s0 s1 d Q) : vmWp 43 149 [(0, .ref 20), (1, .int x1), (2, .int x2), (4, .int x4), (6, .int x6)] [.int s0, .int s1] (wC L d e) Qo := by
  unfold Forger_data_149 at h
  refine st_go 2 (pc' := 151) (lo' := [(3, .int (s1 + s0)), (0, .ref 20), (1, .int x1), (2, .int x2), (4, .int x4), (6, .int x6)]) (st' := []) rfl ?_
  refine st_locI (fun x3_20 hy_x3_20 => ?_)
  have h := h x3_20 hy_x3_20
  refine vmWp.sub (lo' := [(0, .ref 20), (1, .int x1), (2, .int x2), (3, .int x3_20), (4, .int x4), (6, .int x6)]) ⟨rfl, rfl, rfl, rfl, rfl, rfl, trivial⟩ ?_
  exact tForger_data_151 hb14 hQ x1 x2 x3_20 x4 x6 d h
set_option maxRecDepth 100000 in
def Forger_data_129 (b14 : Int32 → Int32 → Int32 → Int32 → Int32 → Int32 → vmD → Prop) (x1 : Int32) (x2 : Int32) (x3 : Int32) (x4 : Int32) (x6 : Int32) (s0 : Int32) (s1 : Int32) (d : vmD) (Q : vmD → Prop) : Prop :=
  Expression_value d fun r_17 d_16 =>
  Forger_putNumber s1 s0 r_17 d_16 fun d_18 =>
  if x2 = 0 then
  (Forger_data_149 b14 x1 x2 x4 x6 2 x3 d_18 Q)
  else
  (Forger_data_149 b14 x1 x2 x4 x6 1 x3 d_18 Q)
set_option maxRecDepth 100000 in
set_option maxHeartbeats 4000000 in
theorem tForger_data_129 {L : Nat} {e : vmD} {Qo : Option Value → vmW → Prop} {b14 : Int32 → Int32 → Int32 → Int32 → Int32 → Int32 → vmD → Prop} {Q : vmD → Prop} (hb14 : ∀ x1 x2 x3 x4 x5 x6 d, b14 x1 x2 x3 x4 x5 x6 d → vmWp 43 14 [(0, .ref 20), (1, .int x1), (2, .int x2), (3, .int x3), (4, .int x4), (5, .int x5), (6, .int x6)] [] (wC L d e) Qo) (hQ : ∀ d, Q d → Qo none (wC L d e)) (x1 : Int32) (x2 : Int32) (x3 : Int32) (x4 : Int32) (x6 : Int32) (s0 : Int32) (s1 : Int32) (d : vmD) (h : Forger_data_129 b14 x1 x2 x3 x4 x6 s0 s1 d Q) : vmWp 43 129 [(0, .ref 20), (1, .int x1), (2, .int x2), (3, .int x3), (4, .int x4), (6, .int x6)] [.int s0, .int s1, .ref 20] (wC L d e) Qo := by
  unfold Forger_data_129 at h
  refine st_go 2 (pc' := 133) (lo' := [(0, .ref 20), (1, .int x1), (2, .int x2), (3, .int x3), (4, .int x4), (6, .int x6)]) (st' := [.ref 28, .int s0, .int s1, .ref 20]) rfl ?_
  refine st_calli (k' := 11) (as := [.ref 28]) (rest := [.int s0, .int s1, .ref 20]) (lo' := [(0, .ref 28)]) (wf := fun d => wC L d e) rfl rfl rfl ?_
  refine tExpression_value (fun r_17 d_16 h => ⟨r_17, d_16, rfl, rfl, ?_⟩) d h
  refine st_callv (k' := 53) (as := [.ref 20, .int s1, .int s0, .int r_17]) (rest := []) (lo' := [(0, .ref 20), (1, .int s1), (2, .int s0), (3, .int r_17)]) (wf := fun d => wC L d e) rfl rfl rfl ?_
  refine tForger_putNumber (fun d_18 h => ⟨d_18, rfl, rfl, ?_⟩) s1 s0 r_17 d_16 h
  refine st_go 2 (pc' := 141) (lo' := [(0, .ref 20), (1, .int x1), (2, .int x2), (3, .int x3), (4, .int x4), (6, .int x6)]) (st' := [.int x2, .int x3]) rfl ?_
  by_cases hc_19 : x2 = 0
  · have h := Eq.mp (if_pos hc_19) h
    refine st_if (t := 148) (b := true) rfl (decide_eq_true hc_19) rfl ?_
    refine st_go 1 (pc' := 149) (lo' := [(0, .ref 20), (1, .int x1), (2, .int x2), (3, .int x3), (4, .int x4), (6, .int x6)]) (st' := [.int 2, .int x3]) rfl ?_
    refine vmWp.sub (lo' := [(0, .ref 20), (1, .int x1), (2, .int x2), (4, .int x4), (6, .int x6)]) ⟨rfl, rfl, rfl, rfl, rfl, trivial⟩ ?_
    exact tForger_data_149 hb14 hQ x1 x2 x4 x6 2 x3 d_18 h
  · have h := Eq.mp (if_neg hc_19) h
    refine st_if (t := 144) (b := false) rfl (decide_eq_false hc_19) rfl ?_
    refine st_go 2 (pc' := 149) (lo' := [(0, .ref 20), (1, .int x1), (2, .int x2), (3, .int x3), (4, .int x4), (6, .int x6)]) (st' := [.int 1, .int x3]) rfl ?_
    refine vmWp.sub (lo' := [(0, .ref 20), (1, .int x1), (2, .int x2), (4, .int x4), (6, .int x6)]) ⟨rfl, rfl, rfl, rfl, rfl, trivial⟩ ?_
    exact tForger_data_149 hb14 hQ x1 x2 x4 x6 1 x3 d_18 h
set_option maxRecDepth 100000 in
def Forger_data_107 (b14 : Int32 → Int32 → Int32 → Int32 → Int32 → Int32 → vmD → Prop) (x1 : Int32) (x2 : Int32) (x3 : Int32) (x6 : Int32) (s0 : Int32) (s1 : Int32) (s2 : Int32) (s3 : Int32) (d : vmD) (Q : vmD → Prop) : Prop :=
  Forger_readNumber s3 s2 s1 s0 d fun r_13 d_12 =>
  if r_13 < 0 then
  (Q d_12)
  else
  (if x2 = 0 then
  (Forger_data_129 b14 x1 x2 x3 r_13 x6 2 x3 d_12 Q)
  else
  (Forger_data_129 b14 x1 x2 x3 r_13 x6 1 x3 d_12 Q))
set_option maxRecDepth 100000 in
set_option maxHeartbeats 4000000 in
theorem tForger_data_107 {L : Nat} {e : vmD} {Qo : Option Value → vmW → Prop} {b14 : Int32 → Int32 → Int32 → Int32 → Int32 → Int32 → vmD → Prop} {Q : vmD → Prop} (hb14 : ∀ x1 x2 x3 x4 x5 x6 d, b14 x1 x2 x3 x4 x5 x6 d → vmWp 43 14 [(0, .ref 20), (1, .int x1), (2, .int x2), (3, .int x3), (4, .int x4), (5, .int x5), (6, .int x6)] [] (wC L d e) Qo) (hQ : ∀ d, Q d → Qo none (wC L d e)) (x1 : Int32) (x2 : Int32) (x3 : Int32) (x6 : Int32) (s0 : Int32) (s1 : Int32) (s2 : Int32) (s3 : Int32) (d : vmD) (h : Forger_data_107 b14 x1 x2 x3 x6 s0 s1 s2 s3 d Q) : vmWp 43 107 [(0, .ref 20), (1, .int x1), (2, .int x2), (3, .int x3), (6, .int x6)] [.int s0, .int s1, .int s2, .int s3, .ref 20] (wC L d e) Qo := by
  unfold Forger_data_107 at h
  refine st_calli (k' := 40) (as := [.ref 20, .int s3, .int s2, .int s1, .int s0]) (rest := []) (lo' := [(0, .ref 20), (1, .int s3), (2, .int s2), (3, .int s1), (4, .int s0)]) (wf := fun d => wC L d e) rfl rfl rfl ?_
  refine tForger_readNumber (fun r_13 d_12 h => ⟨r_13, d_12, rfl, rfl, ?_⟩) s3 s2 s1 s0 d h
  refine st_go 2 (pc' := 114) (lo' := [(4, .int r_13), (0, .ref 20), (1, .int x1), (2, .int x2), (3, .int x3), (6, .int x6)]) (st' := [.int r_13]) rfl ?_
  by_cases hc_14 : r_13 < 0
  · have h := Eq.mp (if_pos hc_14) h
    refine st_if (t := 117) (b := false) rfl (decide_eq_false (Int32.not_le.mpr hc_14)) rfl ?_
    exact st_retV rfl rfl (hQ _ h)
  · have h := Eq.mp (if_neg hc_14) h
    refine st_if (t := 118) (b := true) rfl (decide_eq_true (Int32.not_lt.mp hc_14)) rfl ?_
    refine st_go 3 (pc' := 121) (lo' := [(4, .int r_13), (0, .ref 20), (1, .int x1), (2, .int x2), (3, .int x3), (6, .int x6)]) (st' := [.int x2, .int x3, .ref 20]) rfl ?_
    by_cases hc_15 : x2 = 0
    · have h := Eq.mp (if_pos hc_15) h
      refine st_if (t := 128) (b := true) rfl (decide_eq_true hc_15) rfl ?_
      refine st_go 1 (pc' := 129) (lo' := [(4, .int r_13), (0, .ref 20), (1, .int x1), (2, .int x2), (3, .int x3), (6, .int x6)]) (st' := [.int 2, .int x3, .ref 20]) rfl ?_
      refine vmWp.sub (lo' := [(0, .ref 20), (1, .int x1), (2, .int x2), (3, .int x3), (4, .int r_13), (6, .int x6)]) ⟨rfl, rfl, rfl, rfl, rfl, rfl, trivial⟩ ?_
      exact tForger_data_129 hb14 hQ x1 x2 x3 r_13 x6 2 x3 d_12 h
    · have h := Eq.mp (if_neg hc_15) h
      refine st_if (t := 124) (b := false) rfl (decide_eq_false hc_15) rfl ?_
      refine st_go 2 (pc' := 129) (lo' := [(4, .int r_13), (0, .ref 20), (1, .int x1), (2, .int x2), (3, .int x3), (6, .int x6)]) (st' := [.int 1, .int x3, .ref 20]) rfl ?_
      refine vmWp.sub (lo' := [(0, .ref 20), (1, .int x1), (2, .int x2), (3, .int x3), (4, .int r_13), (6, .int x6)]) ⟨rfl, rfl, rfl, rfl, rfl, rfl, trivial⟩ ?_
      exact tForger_data_129 hb14 hQ x1 x2 x3 r_13 x6 1 x3 d_12 h
set_option maxRecDepth 100000 in
def Forger_data_95 (b14 : Int32 → Int32 → Int32 → Int32 → Int32 → Int32 → vmD → Prop) (x1 : Int32) (x2 : Int32) (x3 : Int32) (x6 : Int32) (s0 : Int32) (s1 : Int32) (s2 : Int32) (d : vmD) (Q : vmD → Prop) : Prop :=
  if x2 = 0 then
  (Forger_data_107 b14 x1 x2 x3 x6 65535 s0 s1 s2 d Q)
  else
  (Forger_data_107 b14 x1 x2 x3 x6 255 s0 s1 s2 d Q)
set_option maxRecDepth 100000 in
set_option maxHeartbeats 4000000 in
theorem tForger_data_95 {L : Nat} {e : vmD} {Qo : Option Value → vmW → Prop} {b14 : Int32 → Int32 → Int32 → Int32 → Int32 → Int32 → vmD → Prop} {Q : vmD → Prop} (hb14 : ∀ x1 x2 x3 x4 x5 x6 d, b14 x1 x2 x3 x4 x5 x6 d → vmWp 43 14 [(0, .ref 20), (1, .int x1), (2, .int x2), (3, .int x3), (4, .int x4), (5, .int x5), (6, .int x6)] [] (wC L d e) Qo) (hQ : ∀ d, Q d → Qo none (wC L d e)) (x1 : Int32) (x2 : Int32) (x3 : Int32) (x6 : Int32) (s0 : Int32) (s1 : Int32) (s2 : Int32) (d : vmD) (h : Forger_data_95 b14 x1 x2 x3 x6 s0 s1 s2 d Q) : vmWp 43 95 [(0, .ref 20), (1, .int x1), (2, .int x2), (3, .int x3), (6, .int x6)] [.int s0, .int s1, .int s2, .ref 20] (wC L d e) Qo := by
  unfold Forger_data_95 at h
  refine st_go 1 (pc' := 96) (lo' := [(0, .ref 20), (1, .int x1), (2, .int x2), (3, .int x3), (6, .int x6)]) (st' := [.int x2, .int s0, .int s1, .int s2, .ref 20]) rfl ?_
  by_cases hc_11 : x2 = 0
  · have h := Eq.mp (if_pos hc_11) h
    refine st_if (t := 105) (b := true) rfl (decide_eq_true hc_11) rfl ?_
    refine st_go 1 (pc' := 107) (lo' := [(0, .ref 20), (1, .int x1), (2, .int x2), (3, .int x3), (6, .int x6)]) (st' := [.int 65535, .int s0, .int s1, .int s2, .ref 20]) rfl ?_
    refine vmWp.sub (lo' := [(0, .ref 20), (1, .int x1), (2, .int x2), (3, .int x3), (6, .int x6)]) ⟨rfl, rfl, rfl, rfl, rfl, trivial⟩ ?_
    exact tForger_data_107 hb14 hQ x1 x2 x3 x6 65535 s0 s1 s2 d h
  · have h := Eq.mp (if_neg hc_11) h
    refine st_if (t := 99) (b := false) rfl (decide_eq_false hc_11) rfl ?_
    refine st_go 2 (pc' := 107) (lo' := [(0, .ref 20), (1, .int x1), (2, .int x2), (3, .int x3), (6, .int x6)]) (st' := [.int 255, .int s0, .int s1, .int s2, .ref 20]) rfl ?_
    refine vmWp.sub (lo' := [(0, .ref 20), (1, .int x1), (2, .int x2), (3, .int x3), (6, .int x6)]) ⟨rfl, rfl, rfl, rfl, rfl, trivial⟩ ?_
    exact tForger_data_107 hb14 hQ x1 x2 x3 x6 255 s0 s1 s2 d h
set_option maxRecDepth 100000 in
def Forger_data_79 (b14 : Int32 → Int32 → Int32 → Int32 → Int32 → Int32 → vmD → Prop) (x1 : Int32) (x2 : Int32) (x3 : Int32) (x6 : Int32) (x7 : Int32) (d : vmD) (Q : vmD → Prop) : Prop :=
  if x2 = 0 then
  (Forger_data_95 b14 x1 x2 x3 x6 (-32768) 2 x7 d Q)
  else
  (Forger_data_95 b14 x1 x2 x3 x6 (-128) 2 x7 d Q)
set_option maxRecDepth 100000 in
set_option maxHeartbeats 4000000 in
theorem tForger_data_79 {L : Nat} {e : vmD} {Qo : Option Value → vmW → Prop} {b14 : Int32 → Int32 → Int32 → Int32 → Int32 → Int32 → vmD → Prop} {Q : vmD → Prop} (hb14 : ∀ x1 x2 x3 x4 x5 x6 d, b14 x1 x2 x3 x4 x5 x6 d → vmWp 43 14 [(0, .ref 20), (1, .int x1), (2, .int x2), (3, .int x3), (4, .int x4), (5, .int x5), (6, .int x6)] [] (wC L d e) Qo) (hQ : ∀ d, Q d → Qo none (wC L d e)) (x1 : Int32) (x2 : Int32) (x3 : Int32) (x6 : Int32) (x7 : Int32) (d : vmD) (h : Forger_data_79 b14 x1 x2 x3 x6 x7 d Q) : vmWp 43 79 [(0, .ref 20), (1, .int x1), (2, .int x2), (3, .int x3), (6, .int x6), (7, .int x7)] [] (wC L d e) Qo := by
  unfold Forger_data_79 at h
  refine st_go 4 (pc' := 84) (lo' := [(0, .ref 20), (1, .int x1), (2, .int x2), (3, .int x3), (6, .int x6), (7, .int x7)]) (st' := [.int x2, .int 2, .int x7, .ref 20]) rfl ?_
  by_cases hc_10 : x2 = 0
  · have h := Eq.mp (if_pos hc_10) h
    refine st_if (t := 92) (b := true) rfl (decide_eq_true hc_10) rfl ?_
    refine st_go 1 (pc' := 95) (lo' := [(0, .ref 20), (1, .int x1), (2, .int x2), (3, .int x3), (6, .int x6), (7, .int x7)]) (st' := [.int (-32768), .int 2, .int x7, .ref 20]) rfl ?_
    refine vmWp.sub (lo' := [(0, .ref 20), (1, .int x1), (2, .int x2), (3, .int x3), (6, .int x6)]) ⟨rfl, rfl, rfl, rfl, rfl, trivial⟩ ?_
    exact tForger_data_95 hb14 hQ x1 x2 x3 x6 (-32768) 2 x7 d h
  · have h := Eq.mp (if_neg hc_10) h
    refine st_if (t := 87) (b := false) rfl (decide_eq_false hc_10) rfl ?_
    refine st_go 2 (pc' := 95) (lo' := [(0, .ref 20), (1, .int x1), (2, .int x2), (3, .int x3), (6, .int x6), (7, .int x7)]) (st' := [.int (-128), .int 2, .int x7, .ref 20]) rfl ?_
    refine vmWp.sub (lo' := [(0, .ref 20), (1, .int x1), (2, .int x2), (3, .int x3), (6, .int x6)]) ⟨rfl, rfl, rfl, rfl, rfl, trivial⟩ ?_
    exact tForger_data_95 hb14 hQ x1 x2 x3 x6 (-128) 2 x7 d h
set_option maxRecDepth 100000 in
def Forger_data_14 (Q : vmD → Prop) : Nat → Int32 → Int32 → Int32 → Int32 → Int32 → Int32 → vmD → Prop
  | 0, _, _, _, _, _, _, _ => False
  | n + 1, x1, x2, x3, x4, x5, x6, d => if x5 = 0 then
  (Forger_data_178 x1 x3 x4 d Q)
  else
  (if x6 < 6000 then
  (bnd (x4 + 1) fun x7_8 =>
  if x2 = 0 then
  (Forger_data_79 (Forger_data_14 Q n) x1 x2 x3 x6 x7_8 d Q)
  else
  (Tokens_kind x7_8 d fun r_26 d_25 =>
  if r_26 = 4 then
  (bnd (x7_8 + 1) fun x4_28 =>
  Forger_putText x3 x7_8 d_25 fun d_29 =>
  Tokens_value x7_8 d_29 fun r_31 d_30 =>
  bnd (x3 + (Int64.toInt32 r_31)) fun x3_32 =>
  Forger_data_151 (Forger_data_14 Q n) x1 x2 x3_32 x4_28 x6 d_30 Q)
  else
  (Forger_data_79 (Forger_data_14 Q n) x1 x2 x3 x6 x7_8 d_25 Q)))
  else
  (Forger_data_178 x1 x3 x4 d Q))
set_option maxRecDepth 100000 in
set_option maxHeartbeats 4000000 in
theorem tForger_data_14 {L : Nat} {e : vmD} {Qo : Option Value → vmW → Prop} {Q : vmD → Prop} (hQ : ∀ d, Q d → Qo none (wC L d e)) : ∀ (n : Nat) (x1 : Int32) (x2 : Int32) (x3 : Int32) (x4 : Int32) (x5 : Int32) (x6 : Int32) (d : vmD), Forger_data_14 Q n x1 x2 x3 x4 x5 x6 d → vmWp 43 14 [(0, .ref 20), (1, .int x1), (2, .int x2), (3, .int x3), (4, .int x4), (5, .int x5), (6, .int x6)] [] (wC L d e) Qo := by
  intro n
  induction n with
  | zero => intro x1 x2 x3 x4 x5 x6 d h; exact h.elim
  | succ n ih =>
    intro x1 x2 x3 x4 x5 x6 d h
    unfold Forger_data_14 at h
    refine st_go 1 (pc' := 16) (lo' := [(0, .ref 20), (1, .int x1), (2, .int x2), (3, .int x3), (4, .int x4), (5, .int x5), (6, .int x6)]) (st' := [.int x5]) rfl ?_
    by_cases hc_2 : x5 = 0
    · have h := Eq.mp (if_pos hc_2) h
      refine st_if (t := 178) (b := true) rfl (decide_eq_true hc_2) rfl ?_
      refine vmWp.sub (lo' := [(0, .ref 20), (1, .int x1), (3, .int x3), (4, .int x4)]) ⟨rfl, rfl, rfl, rfl, trivial⟩ ?_
      exact tForger_data_178 hQ x1 x3 x4 d h
    · have h := Eq.mp (if_neg hc_2) h
      refine st_if (t := 19) (b := false) rfl (decide_eq_false hc_2) rfl ?_
      refine st_go 2 (pc' := 24) (lo' := [(0, .ref 20), (1, .int x1), (2, .int x2), (3, .int x3), (4, .int x4), (5, .int x5), (6, .int x6)]) (st' := [.int 6000, .int x6]) rfl ?_
      by_cases hc_7 : x6 < 6000
      · have h := Eq.mp (if_pos hc_7) h
        refine st_icmp (t := 27) (b := false) rfl (decide_eq_false (Int32.not_le.mpr hc_7)) rfl ?_
        refine st_go 4 (pc' := 33) (lo' := [(7, .int (x4 + 1)), (0, .ref 20), (1, .int x1), (2, .int x2), (3, .int x3), (4, .int x4), (5, .int x5), (6, .int x6)]) (st' := []) rfl ?_
        refine st_locI (fun x7_8 hy_x7_8 => ?_)
        have h := h x7_8 hy_x7_8
        refine st_go 1 (pc' := 34) (lo' := [(7, .int x7_8), (0, .ref 20), (1, .int x1), (2, .int x2), (3, .int x3), (4, .int x4), (5, .int x5), (6, .int x6)]) (st' := [.int x2]) rfl ?_
        by_cases hc_9 : x2 = 0
        · have h := Eq.mp (if_pos hc_9) h
          refine st_if (t := 79) (b := true) rfl (decide_eq_true hc_9) rfl ?_
          refine vmWp.sub (lo' := [(0, .ref 20), (1, .int x1), (2, .int x2), (3, .int x3), (6, .int x6), (7, .int x7_8)]) ⟨rfl, rfl, rfl, rfl, rfl, rfl, trivial⟩ ?_
          exact tForger_data_79 ih hQ x1 x2 x3 x6 x7_8 d h
        · have h := Eq.mp (if_neg hc_9) h
          refine st_if (t := 37) (b := false) rfl (decide_eq_false hc_9) rfl ?_
          refine st_go 3 (pc' := 43) (lo' := [(7, .int x7_8), (0, .ref 20), (1, .int x1), (2, .int x2), (3, .int x3), (4, .int x4), (5, .int x5), (6, .int x6)]) (st' := [.int x7_8, .ref 24]) rfl ?_
          refine st_calli (k' := 213) (as := [.ref 24, .int x7_8]) (rest := []) (lo' := [(0, .ref 24), (1, .int x7_8)]) (wf := fun d => wC L d e) rfl rfl rfl ?_
          refine tTokens_kind (fun r_26 d_25 h => ⟨r_26, d_25, rfl, rfl, ?_⟩) x7_8 d h
          refine st_go 1 (pc' := 47) (lo' := [(7, .int x7_8), (0, .ref 20), (1, .int x1), (2, .int x2), (3, .int x3), (4, .int x4), (5, .int x5), (6, .int x6)]) (st' := [.int 4, .int r_26]) rfl ?_
          by_cases hc_27 : r_26 = 4
          · have h := Eq.mp (if_pos hc_27) h
            refine st_icmp (t := 50) (b := false) rfl (decide_eq_false (fun z => z hc_27)) rfl ?_
            refine st_go 4 (pc' := 56) (lo' := [(4, .int (x7_8 + 1)), (7, .int x7_8), (0, .ref 20), (1, .int x1), (2, .int x2), (3, .int x3), (5, .int x5), (6, .int x6)]) (st' := []) rfl ?_
            refine st_locI (fun x4_28 hy_x4_28 => ?_)
            have h := h x4_28 hy_x4_28
            refine st_go 3 (pc' := 60) (lo' := [(4, .int x4_28), (7, .int x7_8), (0, .ref 20), (1, .int x1), (2, .int x2), (3, .int x3), (5, .int x5), (6, .int x6)]) (st' := [.int x7_8, .int x3, .ref 20]) rfl ?_
            refine st_callv (k' := 54) (as := [.ref 20, .int x3, .int x7_8]) (rest := []) (lo' := [(0, .ref 20), (1, .int x3), (2, .int x7_8)]) (wf := fun d => wC L d e) rfl rfl rfl ?_
            refine tForger_putText (fun d_29 h => ⟨d_29, rfl, rfl, ?_⟩) x3 x7_8 d_25 h
            refine st_go 4 (pc' := 70) (lo' := [(4, .int x4_28), (7, .int x7_8), (0, .ref 20), (1, .int x1), (2, .int x2), (3, .int x3), (5, .int x5), (6, .int x6)]) (st' := [.int x7_8, .ref 24, .int x3]) rfl ?_
            refine st_calll (k' := 215) (as := [.ref 24, .int x7_8]) (rest := [.int x3]) (lo' := [(0, .ref 24), (1, .int x7_8)]) (wf := fun d => wC L d e) rfl rfl rfl ?_
            refine tTokens_value (fun r_31 d_30 h => ⟨r_31, d_30, rfl, rfl, ?_⟩) x7_8 d_29 h
            refine st_go 3 (pc' := 76) (lo' := [(3, .int (x3 + (Int64.toInt32 r_31))), (4, .int x4_28), (7, .int x7_8), (0, .ref 20), (1, .int x1), (2, .int x2), (5, .int x5), (6, .int x6)]) (st' := []) rfl ?_
            refine st_locI (fun x3_32 hy_x3_32 => ?_)
            have h := h x3_32 hy_x3_32
            refine st_go 1 (pc' := 151) (lo' := [(3, .int x3_32), (4, .int x4_28), (7, .int x7_8), (0, .ref 20), (1, .int x1), (2, .int x2), (5, .int x5), (6, .int x6)]) (st' := []) rfl ?_
            refine vmWp.sub (lo' := [(0, .ref 20), (1, .int x1), (2, .int x2), (3, .int x3_32), (4, .int x4_28), (6, .int x6)]) ⟨rfl, rfl, rfl, rfl, rfl, rfl, trivial⟩ ?_
            exact tForger_data_151 ih hQ x1 x2 x3_32 x4_28 x6 d_30 h
          · have h := Eq.mp (if_neg hc_27) h
            refine st_icmp (t := 79) (b := true) rfl (decide_eq_true hc_27) rfl ?_
            refine vmWp.sub (lo' := [(0, .ref 20), (1, .int x1), (2, .int x2), (3, .int x3), (6, .int x6), (7, .int x7_8)]) ⟨rfl, rfl, rfl, rfl, rfl, rfl, trivial⟩ ?_
            exact tForger_data_79 ih hQ x1 x2 x3 x6 x7_8 d_25 h
      · have h := Eq.mp (if_neg hc_7) h
        refine st_icmp (t := 178) (b := true) rfl (decide_eq_true (Int32.not_lt.mp hc_7)) rfl ?_
        refine vmWp.sub (lo' := [(0, .ref 20), (1, .int x1), (3, .int x3), (4, .int x4)]) ⟨rfl, rfl, rfl, rfl, trivial⟩ ?_
        exact tForger_data_178 hQ x1 x3 x4 d h
set_option maxRecDepth 100000 in
def Forger_data (x1 : Int32) (x2 : Int32) (d : vmD) (Q : vmD → Prop) : Prop :=
  bnd (gF d 20 11) fun x3_1 =>
  ∃ m14, Forger_data_14 Q m14 x1 x2 x3_1 x1 1 0 d
set_option maxRecDepth 100000 in
set_option maxHeartbeats 4000000 in
theorem tForger_data {L : Nat} {e : vmD} {Qo : Option Value → vmW → Prop} {Q : vmD → Prop} (hQ : ∀ d, Q d → Qo none (wC L d e)) (x1 : Int32) (x2 : Int32) (d : vmD) (h : Forger_data x1 x2 d Q) : vmWp 43 0 [(0, .ref 20), (1, .int x1), (2, .int x2)] [] (wC L d e) Qo := by
  unfold Forger_data at h
  refine st_go 3 (pc' := 5) (lo' := [(3, .int (gF d 20 11)), (0, .ref 20), (1, .int x1), (2, .int x2)]) (st' := []) rfl ?_
  refine st_locI (fun x3_1 hy_x3_1 => ?_)
  have h := h x3_1 hy_x3_1
  refine st_go 6 (pc' := 14) (lo' := [(6, .int 0), (5, .int 1), (4, .int x1), (3, .int x3_1), (0, .ref 20), (1, .int x1), (2, .int x2)]) (st' := []) rfl ?_
  obtain ⟨m14, h⟩ := h
  refine vmWp.sub (lo' := [(0, .ref 20), (1, .int x1), (2, .int x2), (3, .int x3_1), (4, .int x1), (5, .int 1), (6, .int 0)]) ⟨rfl, rfl, rfl, rfl, rfl, rfl, rfl, trivial⟩ ?_
  exact tForger_data_14 hQ m14 x1 x2 x3_1 x1 1 0 d h
set_option maxRecDepth 100000 in
def Arrays_rangeCheck (x0 : Int32) (x1 : Int32) (x2 : Int32) (d : vmD) (Q : vmD → Prop) : Prop :=
  if x2 < x1 then
  (False)
  else
  (if x1 < 0 then
  (False)
  else
  (if x0 < x2 then
  (False)
  else
  (Q d)))
set_option maxRecDepth 100000 in
set_option maxHeartbeats 4000000 in
theorem tArrays_rangeCheck {L : Nat} {e : vmD} {Qo : Option Value → vmW → Prop} {Q : vmD → Prop} (hQ : ∀ d, Q d → Qo none (wC L d e)) (x0 : Int32) (x1 : Int32) (x2 : Int32) (d : vmD) (h : Arrays_rangeCheck x0 x1 x2 d Q) : vmWp 402 0 [(0, .int x0), (1, .int x1), (2, .int x2)] [] (wC L d e) Qo := by
  unfold Arrays_rangeCheck at h
  refine st_go 2 (pc' := 2) (lo' := [(0, .int x0), (1, .int x1), (2, .int x2)]) (st' := [.int x2, .int x1]) rfl ?_
  by_cases hc_1 : x2 < x1
  · have h := Eq.mp (if_pos hc_1) h
    refine st_icmp (t := 5) (b := false) rfl (decide_eq_false (Int32.not_le.mpr hc_1)) rfl ?_
    exact h.elim
  · have h := Eq.mp (if_neg hc_1) h
    refine st_icmp (t := 46) (b := true) rfl (decide_eq_true (Int32.not_lt.mp hc_1)) rfl ?_
    refine st_go 1 (pc' := 47) (lo' := [(0, .int x0), (1, .int x1), (2, .int x2)]) (st' := [.int x1]) rfl ?_
    by_cases hc_2 : x1 < 0
    · have h := Eq.mp (if_pos hc_2) h
      refine st_if (t := 50) (b := false) rfl (decide_eq_false (Int32.not_le.mpr hc_2)) rfl ?_
      exact h.elim
    · have h := Eq.mp (if_neg hc_2) h
      refine st_if (t := 59) (b := true) rfl (decide_eq_true (Int32.not_lt.mp hc_2)) rfl ?_
      refine st_go 2 (pc' := 61) (lo' := [(0, .int x0), (1, .int x1), (2, .int x2)]) (st' := [.int x0, .int x2]) rfl ?_
      by_cases hc_3 : x0 < x2
      · have h := Eq.mp (if_pos hc_3) h
        refine st_icmp (t := 64) (b := false) rfl (decide_eq_false (Int32.not_le.mpr hc_3)) rfl ?_
        exact h.elim
      · have h := Eq.mp (if_neg hc_3) h
        refine st_icmp (t := 73) (b := true) rfl (decide_eq_true (Int32.not_lt.mp hc_3)) rfl ?_
        exact st_retV rfl rfl (hQ _ h)
set_option maxRecDepth 100000 in
def Arrays_fill1_2_10 (Q : vmD → Prop) : Nat → Int32 → Int32 → Int32 → vmD → Prop
  | 0, _, _, _, _ => False
  | n + 1, x2, x3, x4, d => if x4 < x2 then
  (ixOk x4 65536 ∧
  bnd (sA d 2 x4.toNatClampNeg (x3.toInt8.toInt32)) fun d_4 =>
  bnd (x4 + 1) fun x4_5 =>
  (Arrays_fill1_2_10 Q n) x2 x3 x4_5 d_4)
  else
  (Q d)
set_option maxRecDepth 100000 in
set_option maxHeartbeats 4000000 in
theorem tArrays_fill1_2_10 {L : Nat} {e : vmD} {Qo : Option Value → vmW → Prop} {Q : vmD → Prop} (hQ : ∀ d, Q d → Qo none (wC L d e)) : ∀ (n : Nat) (x2 : Int32) (x3 : Int32) (x4 : Int32) (d : vmD), Arrays_fill1_2_10 Q n x2 x3 x4 d → vmWp 404 10 [(0, .ref 2), (2, .int x2), (3, .int x3), (4, .int x4)] [] (wC L d e) Qo := by
  intro n
  induction n with
  | zero => intro x2 x3 x4 d h; exact h.elim
  | succ n ih =>
    intro x2 x3 x4 d h
    unfold Arrays_fill1_2_10 at h
    refine st_go 2 (pc' := 13) (lo' := [(0, .ref 2), (2, .int x2), (3, .int x3), (4, .int x4)]) (st' := [.int x2, .int x4]) rfl ?_
    by_cases hc_2 : x4 < x2
    · have h := Eq.mp (if_pos hc_2) h
      refine st_icmp (t := 16) (b := false) rfl (decide_eq_false (Int32.not_le.mpr hc_2)) rfl ?_
      refine st_go 3 (pc' := 20) (lo' := [(0, .ref 2), (2, .int x2), (3, .int x3), (4, .int x4)]) (st' := [.int x3, .int x4, .ref 2]) rfl ?_
      obtain ⟨hj_3, h⟩ := h
      refine st_bastC (o := 2) rfl rfl hj_3 rfl (fun d_4 hy_d_4 => ?_)
      have h := h d_4 hy_d_4
      refine st_go 1 (pc' := 24) (lo' := [(4, .int (x4 + 1)), (0, .ref 2), (2, .int x2), (3, .int x3)]) (st' := []) rfl ?_
      refine st_locI (fun x4_5 hy_x4_5 => ?_)
      have h := h x4_5 hy_x4_5
      refine st_go 1 (pc' := 10) (lo' := [(4, .int x4_5), (0, .ref 2), (2, .int x2), (3, .int x3)]) (st' := []) rfl ?_
      refine vmWp.sub (lo' := [(0, .ref 2), (2, .int x2), (3, .int x3), (4, .int x4_5)]) ⟨rfl, rfl, rfl, rfl, trivial⟩ ?_
      exact ih x2 x3 x4_5 d_4 h
    · have h := Eq.mp (if_neg hc_2) h
      refine st_icmp (t := 27) (b := true) rfl (decide_eq_true (Int32.not_lt.mp hc_2)) rfl ?_
      exact st_retV rfl rfl (hQ _ h)
set_option maxRecDepth 100000 in
def Arrays_fill1_2 (x1 : Int32) (x2 : Int32) (x3 : Int32) (d : vmD) (Q : vmD → Prop) : Prop :=
  Arrays_rangeCheck 65536 x1 x2 d fun d_1 =>
  ∃ m10, Arrays_fill1_2_10 Q m10 x2 x3 x1 d_1
set_option maxRecDepth 100000 in
set_option maxHeartbeats 4000000 in
theorem tArrays_fill1_2 {L : Nat} {e : vmD} {Qo : Option Value → vmW → Prop} {Q : vmD → Prop} (hQ : ∀ d, Q d → Qo none (wC L d e)) (x1 : Int32) (x2 : Int32) (x3 : Int32) (d : vmD) (h : Arrays_fill1_2 x1 x2 x3 d Q) : vmWp 404 0 [(0, .ref 2), (1, .int x1), (2, .int x2), (3, .int x3)] [] (wC L d e) Qo := by
  unfold Arrays_fill1_2 at h
  refine st_go 4 (pc' := 4) (lo' := [(0, .ref 2), (1, .int x1), (2, .int x2), (3, .int x3)]) (st' := [.int x2, .int x1, .int 65536]) rfl ?_
  refine st_callv (k' := 402) (as := [.int 65536, .int x1, .int x2]) (rest := []) (lo' := [(0, .int 65536), (1, .int x1), (2, .int x2)]) (wf := fun d => wC L d e) rfl rfl rfl ?_
  refine tArrays_rangeCheck (fun d_1 h => ⟨d_1, rfl, rfl, ?_⟩) 65536 x1 x2 d h
  refine st_go 2 (pc' := 10) (lo' := [(4, .int x1), (0, .ref 2), (1, .int x1), (2, .int x2), (3, .int x3)]) (st' := []) rfl ?_
  obtain ⟨m10, h⟩ := h
  refine vmWp.sub (lo' := [(0, .ref 2), (2, .int x2), (3, .int x3), (4, .int x1)]) ⟨rfl, rfl, rfl, rfl, trivial⟩ ?_
  exact tArrays_fill1_2_10 hQ m10 x2 x3 x1 d_1 h
set_option maxRecDepth 100000 in
def Memory_fill (x1 : Int32) (x2 : Int32) (x3 : Int32) (d : vmD) (Q : vmD → Prop) : Prop :=
  if x1 < 0 then
  (Q d)
  else
  (if x2 < 0 then
  (Q d)
  else
  (if ((65536 : Int32) - x2) < x1 then
  (Q d)
  else
  (Arrays_fill1_2 x1 (x1 + x2) (Int8.toInt32 (Int32.toInt8 x3)) d fun d_4 =>
  Q d_4)))
set_option maxRecDepth 100000 in
set_option maxHeartbeats 4000000 in
theorem tMemory_fill {L : Nat} {e : vmD} {Qo : Option Value → vmW → Prop} {Q : vmD → Prop} (hQ : ∀ d, Q d → Qo none (wC L d e)) (x1 : Int32) (x2 : Int32) (x3 : Int32) (d : vmD) (h : Memory_fill x1 x2 x3 d Q) : vmWp 132 0 [(0, .ref 1), (1, .int x1), (2, .int x2), (3, .int x3)] [] (wC L d e) Qo := by
  unfold Memory_fill at h
  refine st_go 1 (pc' := 1) (lo' := [(0, .ref 1), (1, .int x1), (2, .int x2), (3, .int x3)]) (st' := [.int x1]) rfl ?_
  by_cases hc_1 : x1 < 0
  · have h := Eq.mp (if_pos hc_1) h
    refine st_if (t := 29) (b := true) rfl (decide_eq_true hc_1) rfl ?_
    exact st_retV rfl rfl (hQ _ h)
  · have h := Eq.mp (if_neg hc_1) h
    refine st_if (t := 4) (b := false) rfl (decide_eq_false hc_1) rfl ?_
    refine st_go 1 (pc' := 5) (lo' := [(0, .ref 1), (1, .int x1), (2, .int x2), (3, .int x3)]) (st' := [.int x2]) rfl ?_
    by_cases hc_2 : x2 < 0
    · have h := Eq.mp (if_pos hc_2) h
      refine st_if (t := 29) (b := true) rfl (decide_eq_true hc_2) rfl ?_
      exact st_retV rfl rfl (hQ _ h)
    · have h := Eq.mp (if_neg hc_2) h
      refine st_if (t := 8) (b := false) rfl (decide_eq_false hc_2) rfl ?_
      refine st_go 4 (pc' := 13) (lo' := [(0, .ref 1), (1, .int x1), (2, .int x2), (3, .int x3)]) (st' := [.int ((65536 : Int32) - x2), .int x1]) rfl ?_
      by_cases hc_3 : ((65536 : Int32) - x2) < x1
      · have h := Eq.mp (if_pos hc_3) h
        refine st_icmp (t := 29) (b := true) rfl (decide_eq_true hc_3) rfl ?_
        exact st_retV rfl rfl (hQ _ h)
      · have h := Eq.mp (if_neg hc_3) h
        refine st_icmp (t := 16) (b := false) rfl (decide_eq_false hc_3) rfl ?_
        refine st_go 8 (pc' := 26) (lo' := [(0, .ref 1), (1, .int x1), (2, .int x2), (3, .int x3)]) (st' := [.int (Int8.toInt32 (Int32.toInt8 x3)), .int (x1 + x2), .int x1, .ref 2]) rfl ?_
        refine st_callv (k' := 404) (as := [.ref 2, .int x1, .int (x1 + x2), .int (Int8.toInt32 (Int32.toInt8 x3))]) (rest := []) (lo' := [(0, .ref 2), (1, .int x1), (2, .int (x1 + x2)), (3, .int (Int8.toInt32 (Int32.toInt8 x3)))]) (wf := fun d => wC L d e) rfl rfl rfl ?_
        refine tArrays_fill1_2 (fun d_4 h => ⟨d_4, rfl, rfl, ?_⟩) x1 (x1 + x2) (Int8.toInt32 (Int32.toInt8 x3)) d h
        exact st_retV rfl rfl (hQ _ h)
set_option maxRecDepth 100000 in
def Forger_space_121 (x1 : Int32) (x3 : Int32) (d : vmD) (Q : vmD → Prop) : Prop :=
  Forger_goOn x1 x3 d fun d_17 =>
  Q d_17
set_option maxRecDepth 100000 in
set_option maxHeartbeats 4000000 in
theorem tForger_space_121 {L : Nat} {e : vmD} {Qo : Option Value → vmW → Prop} {Q : vmD → Prop} (hQ : ∀ d, Q d → Qo none (wC L d e)) (x1 : Int32) (x3 : Int32) (d : vmD) (h : Forger_space_121 x1 x3 d Q) : vmWp 44 121 [(0, .ref 20), (1, .int x1), (3, .int x3)] [] (wC L d e) Qo := by
  unfold Forger_space_121 at h
  refine st_go 3 (pc' := 124) (lo' := [(0, .ref 20), (1, .int x1), (3, .int x3)]) (st' := [.int x3, .int x1, .ref 20]) rfl ?_
  refine st_callv (k' := 56) (as := [.ref 20, .int x1, .int x3]) (rest := []) (lo' := [(0, .ref 20), (1, .int x1), (2, .int x3)]) (wf := fun d => wC L d e) rfl rfl rfl ?_
  refine tForger_goOn (fun d_17 h => ⟨d_17, rfl, rfl, ?_⟩) x1 x3 d h
  exact st_retV rfl rfl (hQ _ h)
set_option maxRecDepth 100000 in
def Forger_space_63 (x1 : Int32) (x2 : Int32) (x3 : Int32) (x4 : Int32) (d : vmD) (Q : vmD → Prop) : Prop :=
  if x2 < 0 then
  (Q d)
  else
  (Forger_endsLine x2 d fun r_8 d_7 =>
  if r_8 = 0 then
  (Q d_7)
  else
  (Faults_any d_7 fun r_11 d_10 =>
  if r_11 = 0 then
  (if (gF d_10 20 9) = 3 then
  (if (0 : Int32) < x3 then
  (Memory_fill (gF d_10 20 11) x3 x4 d_10 fun d_15 =>
  Forger_count (gF d_15 20 11) x3 d_15 fun d_16 =>
  Forger_space_121 x1 x3 d_16 Q)
  else
  (Forger_space_121 x1 x3 d_10 Q))
  else
  (Forger_space_121 x1 x3 d_10 Q))
  else
  (Q d_10)))
set_option maxRecDepth 100000 in
set_option maxHeartbeats 4000000 in
theorem tForger_space_63 {L : Nat} {e : vmD} {Qo : Option Value → vmW → Prop} {Q : vmD → Prop} (hQ : ∀ d, Q d → Qo none (wC L d e)) (x1 : Int32) (x2 : Int32) (x3 : Int32) (x4 : Int32) (d : vmD) (h : Forger_space_63 x1 x2 x3 x4 d Q) : vmWp 44 63 [(0, .ref 20), (1, .int x1), (2, .int x2), (3, .int x3), (4, .int x4)] [] (wC L d e) Qo := by
  unfold Forger_space_63 at h
  refine st_go 1 (pc' := 64) (lo' := [(0, .ref 20), (1, .int x1), (2, .int x2), (3, .int x3), (4, .int x4)]) (st' := [.int x2]) rfl ?_
  by_cases hc_6 : x2 < 0
  · have h := Eq.mp (if_pos hc_6) h
    refine st_if (t := 85) (b := true) rfl (decide_eq_true hc_6) rfl ?_
    exact st_retV rfl rfl (hQ _ h)
  · have h := Eq.mp (if_neg hc_6) h
    refine st_if (t := 67) (b := false) rfl (decide_eq_false hc_6) rfl ?_
    refine st_go 2 (pc' := 69) (lo' := [(0, .ref 20), (1, .int x1), (2, .int x2), (3, .int x3), (4, .int x4)]) (st' := [.int x2, .ref 20]) rfl ?_
    refine st_calli (k' := 39) (as := [.ref 20, .int x2]) (rest := []) (lo' := [(0, .ref 20), (1, .int x2)]) (wf := fun d => wC L d e) rfl rfl rfl ?_
    refine tForger_endsLine (fun r_8 d_7 h => ⟨r_8, d_7, rfl, rfl, ?_⟩) x2 d h
    by_cases hc_9 : r_8 = 0
    · have h := Eq.mp (if_pos hc_9) h
      refine st_if (t := 85) (b := true) rfl (decide_eq_true hc_9) rfl ?_
      exact st_retV rfl rfl (hQ _ h)
    · have h := Eq.mp (if_neg hc_9) h
      refine st_if (t := 75) (b := false) rfl (decide_eq_false hc_9) rfl ?_
      refine st_go 2 (pc' := 79) (lo' := [(0, .ref 20), (1, .int x1), (2, .int x2), (3, .int x3), (4, .int x4)]) (st' := [.ref 21]) rfl ?_
      refine st_calli (k' := 24) (as := [.ref 21]) (rest := []) (lo' := [(0, .ref 21)]) (wf := fun d => wC L d e) rfl rfl rfl ?_
      refine tFaults_any (fun r_11 d_10 h => ⟨r_11, d_10, rfl, rfl, ?_⟩) d_7 h
      by_cases hc_12 : r_11 = 0
      · have h := Eq.mp (if_pos hc_12) h
        refine st_if (t := 86) (b := true) rfl (decide_eq_true hc_12) rfl ?_
        refine st_go 3 (pc' := 91) (lo' := [(0, .ref 20), (1, .int x1), (2, .int x2), (3, .int x3), (4, .int x4)]) (st' := [.int 3, .int (gF d_10 20 9)]) rfl ?_
        by_cases hc_13 : (gF d_10 20 9) = 3
        · have h := Eq.mp (if_pos hc_13) h
          refine st_icmp (t := 94) (b := false) rfl (decide_eq_false (fun z => z hc_13)) rfl ?_
          refine st_go 1 (pc' := 95) (lo' := [(0, .ref 20), (1, .int x1), (2, .int x2), (3, .int x3), (4, .int x4)]) (st' := [.int x3]) rfl ?_
          by_cases hc_14 : (0 : Int32) < x3
          · have h := Eq.mp (if_pos hc_14) h
            refine st_if (t := 98) (b := false) rfl (decide_eq_false (Int32.not_le.mpr hc_14)) rfl ?_
            refine st_go 6 (pc' := 109) (lo' := [(0, .ref 20), (1, .int x1), (2, .int x2), (3, .int x3), (4, .int x4)]) (st' := [.int x4, .int x3, .int (gF d_10 20 11), .ref 1]) rfl ?_
            refine st_callv (k' := 132) (as := [.ref 1, .int (gF d_10 20 11), .int x3, .int x4]) (rest := []) (lo' := [(0, .ref 1), (1, .int (gF d_10 20 11)), (2, .int x3), (3, .int x4)]) (wf := fun d => wC L d e) rfl rfl rfl ?_
            refine tMemory_fill (fun d_15 h => ⟨d_15, rfl, rfl, ?_⟩) (gF d_10 20 11) x3 x4 d_10 h
            refine st_go 4 (pc' := 118) (lo' := [(0, .ref 20), (1, .int x1), (2, .int x2), (3, .int x3), (4, .int x4)]) (st' := [.int x3, .int (gF d_15 20 11), .ref 20]) rfl ?_
            refine st_callv (k' := 55) (as := [.ref 20, .int (gF d_15 20 11), .int x3]) (rest := []) (lo' := [(0, .ref 20), (1, .int (gF d_15 20 11)), (2, .int x3)]) (wf := fun d => wC L d e) rfl rfl rfl ?_
            refine tForger_count (fun d_16 h => ⟨d_16, rfl, rfl, ?_⟩) (gF d_15 20 11) x3 d_15 h
            refine vmWp.sub (lo' := [(0, .ref 20), (1, .int x1), (3, .int x3)]) ⟨rfl, rfl, rfl, trivial⟩ ?_
            exact tForger_space_121 hQ x1 x3 d_16 h
          · have h := Eq.mp (if_neg hc_14) h
            refine st_if (t := 121) (b := true) rfl (decide_eq_true (Int32.not_lt.mp hc_14)) rfl ?_
            refine vmWp.sub (lo' := [(0, .ref 20), (1, .int x1), (3, .int x3)]) ⟨rfl, rfl, rfl, trivial⟩ ?_
            exact tForger_space_121 hQ x1 x3 d_10 h
        · have h := Eq.mp (if_neg hc_13) h
          refine st_icmp (t := 121) (b := true) rfl (decide_eq_true hc_13) rfl ?_
          refine vmWp.sub (lo' := [(0, .ref 20), (1, .int x1), (3, .int x3)]) ⟨rfl, rfl, rfl, trivial⟩ ?_
          exact tForger_space_121 hQ x1 x3 d_10 h
      · have h := Eq.mp (if_neg hc_12) h
        refine st_if (t := 85) (b := false) rfl (decide_eq_false hc_12) rfl ?_
        exact st_retV rfl rfl (hQ _ h)
set_option maxRecDepth 100000 in
def Forger_space (x1 : Int32) (d : vmD) (Q : vmD → Prop) : Prop :=
  Forger_readNumber (x1 + 1) 1 0 65535 d fun r_2 d_1 =>
  Expression_value d_1 fun r_4 d_3 =>
  if r_2 < 0 then
  (Forger_space_63 x1 r_2 r_4 0 d_3 Q)
  else
  (Tokens_kind r_2 d_3 fun r_19 d_18 =>
  if r_19 = 44 then
  (Forger_readNumber (r_2 + 1) 2 (-128) 255 d_18 fun r_22 d_21 =>
  Expression_value d_21 fun r_24 d_23 =>
  Forger_space_63 x1 r_22 r_4 r_24 d_23 Q)
  else
  (Forger_space_63 x1 r_2 r_4 0 d_18 Q))
set_option maxRecDepth 100000 in
set_option maxHeartbeats 4000000 in
theorem tForger_space {L : Nat} {e : vmD} {Qo : Option Value → vmW → Prop} {Q : vmD → Prop} (hQ : ∀ d, Q d → Qo none (wC L d e)) (x1 : Int32) (d : vmD) (h : Forger_space x1 d Q) : vmWp 44 0 [(0, .ref 20), (1, .int x1)] [] (wC L d e) Qo := by
  unfold Forger_space at h
  refine st_go 7 (pc' := 8) (lo' := [(0, .ref 20), (1, .int x1)]) (st' := [.int 65535, .int 0, .int 1, .int (x1 + 1), .ref 20]) rfl ?_
  refine st_calli (k' := 40) (as := [.ref 20, .int (x1 + 1), .int 1, .int 0, .int 65535]) (rest := []) (lo' := [(0, .ref 20), (1, .int (x1 + 1)), (2, .int 1), (3, .int 0), (4, .int 65535)]) (wf := fun d => wC L d e) rfl rfl rfl ?_
  refine tForger_readNumber (fun r_2 d_1 h => ⟨r_2, d_1, rfl, rfl, ?_⟩) (x1 + 1) 1 0 65535 d h
  refine st_go 3 (pc' := 16) (lo' := [(2, .int r_2), (0, .ref 20), (1, .int x1)]) (st' := [.ref 28]) rfl ?_
  refine st_calli (k' := 11) (as := [.ref 28]) (rest := []) (lo' := [(0, .ref 28)]) (wf := fun d => wC L d e) rfl rfl rfl ?_
  refine tExpression_value (fun r_4 d_3 h => ⟨r_4, d_3, rfl, rfl, ?_⟩) d_1 h
  refine st_go 4 (pc' := 24) (lo' := [(4, .int 0), (3, .int r_4), (2, .int r_2), (0, .ref 20), (1, .int x1)]) (st' := [.int r_2]) rfl ?_
  by_cases hc_5 : r_2 < 0
  · have h := Eq.mp (if_pos hc_5) h
    refine st_if (t := 63) (b := true) rfl (decide_eq_true hc_5) rfl ?_
    refine vmWp.sub (lo' := [(0, .ref 20), (1, .int x1), (2, .int r_2), (3, .int r_4), (4, .int 0)]) ⟨rfl, rfl, rfl, rfl, rfl, trivial⟩ ?_
    exact tForger_space_63 hQ x1 r_2 r_4 0 d_3 h
  · have h := Eq.mp (if_neg hc_5) h
    refine st_if (t := 27) (b := false) rfl (decide_eq_false hc_5) rfl ?_
    refine st_go 3 (pc' := 32) (lo' := [(4, .int 0), (3, .int r_4), (2, .int r_2), (0, .ref 20), (1, .int x1)]) (st' := [.int r_2, .ref 24]) rfl ?_
    refine st_calli (k' := 213) (as := [.ref 24, .int r_2]) (rest := []) (lo' := [(0, .ref 24), (1, .int r_2)]) (wf := fun d => wC L d e) rfl rfl rfl ?_
    refine tTokens_kind (fun r_19 d_18 h => ⟨r_19, d_18, rfl, rfl, ?_⟩) r_2 d_3 h
    refine st_go 1 (pc' := 37) (lo' := [(4, .int 0), (3, .int r_4), (2, .int r_2), (0, .ref 20), (1, .int x1)]) (st' := [.int 44, .int r_19]) rfl ?_
    by_cases hc_20 : r_19 = 44
    · have h := Eq.mp (if_pos hc_20) h
      refine st_icmp (t := 40) (b := false) rfl (decide_eq_false (fun z => z hc_20)) rfl ?_
      refine st_go 7 (pc' := 50) (lo' := [(4, .int 0), (3, .int r_4), (2, .int r_2), (0, .ref 20), (1, .int x1)]) (st' := [.int 255, .int (-128), .int 2, .int (r_2 + 1), .ref 20]) rfl ?_
      refine st_calli (k' := 40) (as := [.ref 20, .int (r_2 + 1), .int 2, .int (-128), .int 255]) (rest := []) (lo' := [(0, .ref 20), (1, .int (r_2 + 1)), (2, .int 2), (3, .int (-128)), (4, .int 255)]) (wf := fun d => wC L d e) rfl rfl rfl ?_
      refine tForger_readNumber (fun r_22 d_21 h => ⟨r_22, d_21, rfl, rfl, ?_⟩) (r_2 + 1) 2 (-128) 255 d_18 h
      refine st_go 3 (pc' := 58) (lo' := [(2, .int r_22), (4, .int 0), (3, .int r_4), (0, .ref 20), (1, .int x1)]) (st' := [.ref 28]) rfl ?_
      refine st_calli (k' := 11) (as := [.ref 28]) (rest := []) (lo' := [(0, .ref 28)]) (wf := fun d => wC L d e) rfl rfl rfl ?_
      refine tExpression_value (fun r_24 d_23 h => ⟨r_24, d_23, rfl, rfl, ?_⟩) d_21 h
      refine st_go 1 (pc' := 63) (lo' := [(4, .int r_24), (2, .int r_22), (3, .int r_4), (0, .ref 20), (1, .int x1)]) (st' := []) rfl ?_
      refine vmWp.sub (lo' := [(0, .ref 20), (1, .int x1), (2, .int r_22), (3, .int r_4), (4, .int r_24)]) ⟨rfl, rfl, rfl, rfl, rfl, trivial⟩ ?_
      exact tForger_space_63 hQ x1 r_22 r_4 r_24 d_23 h
    · have h := Eq.mp (if_neg hc_20) h
      refine st_icmp (t := 63) (b := true) rfl (decide_eq_true hc_20) rfl ?_
      refine vmWp.sub (lo' := [(0, .ref 20), (1, .int x1), (2, .int r_2), (3, .int r_4), (4, .int 0)]) ⟨rfl, rfl, rfl, rfl, rfl, trivial⟩ ?_
      exact tForger_space_63 hQ x1 r_2 r_4 0 d_18 h
set_option maxRecDepth 100000 in
def Forger_condition_90 (s0 : Int32) (s1 : Int32) (d : vmD) (Q : vmD → Prop) : Prop :=
  Conditions_pass s1 s0 d fun d_17 =>
  Q d_17
set_option maxRecDepth 100000 in
set_option maxHeartbeats 4000000 in
theorem tForger_condition_90 {L : Nat} {e : vmD} {Qo : Option Value → vmW → Prop} {Q : vmD → Prop} (hQ : ∀ d, Q d → Qo none (wC L d e)) (s0 : Int32) (s1 : Int32) (d : vmD) (h : Forger_condition_90 s0 s1 d Q) : vmWp 45 90 [] [.int s0, .int s1, .ref 22] (wC L d e) Qo := by
  unfold Forger_condition_90 at h
  refine st_callv (k' := 6) (as := [.ref 22, .int s1, .int s0]) (rest := []) (lo' := [(0, .ref 22), (1, .int s1), (2, .int s0)]) (wf := fun d => wC L d e) rfl rfl rfl ?_
  refine tConditions_pass (fun d_17 h => ⟨d_17, rfl, rfl, ?_⟩) s1 s0 d h
  exact st_retV rfl rfl (hQ _ h)
set_option maxRecDepth 100000 in
def Forger_condition_58 (x2 : Int32) (x3 : Int32) (d : vmD) (Q : vmD → Prop) : Prop :=
  if x3 < 0 then
  (Q d)
  else
  (Forger_endsLine x3 d fun r_12 d_11 =>
  if r_12 = 0 then
  (Q d_11)
  else
  (Expression_value d_11 fun r_15 d_14 =>
  if r_15 = 0 then
  (Forger_condition_90 0 x2 d_14 Q)
  else
  (Forger_condition_90 1 x2 d_14 Q)))
set_option maxRecDepth 100000 in
set_option maxHeartbeats 4000000 in
theorem tForger_condition_58 {L : Nat} {e : vmD} {Qo : Option Value → vmW → Prop} {Q : vmD → Prop} (hQ : ∀ d, Q d → Qo none (wC L d e)) (x2 : Int32) (x3 : Int32) (d : vmD) (h : Forger_condition_58 x2 x3 d Q) : vmWp 45 58 [(0, .ref 20), (2, .int x2), (3, .int x3)] [] (wC L d e) Qo := by
  unfold Forger_condition_58 at h
  refine st_go 1 (pc' := 59) (lo' := [(0, .ref 20), (2, .int x2), (3, .int x3)]) (st' := [.int x3]) rfl ?_
  by_cases hc_10 : x3 < 0
  · have h := Eq.mp (if_pos hc_10) h
    refine st_if (t := 93) (b := true) rfl (decide_eq_true hc_10) rfl ?_
    exact st_retV rfl rfl (hQ _ h)
  · have h := Eq.mp (if_neg hc_10) h
    refine st_if (t := 62) (b := false) rfl (decide_eq_false hc_10) rfl ?_
    refine st_go 2 (pc' := 64) (lo' := [(0, .ref 20), (2, .int x2), (3, .int x3)]) (st' := [.int x3, .ref 20]) rfl ?_
    refine st_calli (k' := 39) (as := [.ref 20, .int x3]) (rest := []) (lo' := [(0, .ref 20), (1, .int x3)]) (wf := fun d => wC L d e) rfl rfl rfl ?_
    refine tForger_endsLine (fun r_12 d_11 h => ⟨r_12, d_11, rfl, rfl, ?_⟩) x3 d h
    by_cases hc_13 : r_12 = 0
    · have h := Eq.mp (if_pos hc_13) h
      refine st_if (t := 93) (b := true) rfl (decide_eq_true hc_13) rfl ?_
      exact st_retV rfl rfl (hQ _ h)
    · have h := Eq.mp (if_neg hc_13) h
      refine st_if (t := 70) (b := false) rfl (decide_eq_false hc_13) rfl ?_
      refine st_go 5 (pc' := 79) (lo' := [(0, .ref 20), (2, .int x2), (3, .int x3)]) (st' := [.ref 28, .int x2, .ref 22]) rfl ?_
      refine st_calli (k' := 11) (as := [.ref 28]) (rest := [.int x2, .ref 22]) (lo' := [(0, .ref 28)]) (wf := fun d => wC L d e) rfl rfl rfl ?_
      refine tExpression_value (fun r_15 d_14 h => ⟨r_15, d_14, rfl, rfl, ?_⟩) d_11 h
      by_cases hc_16 : r_15 = 0
      · have h := Eq.mp (if_pos hc_16) h
        refine st_if (t := 89) (b := true) rfl (decide_eq_true hc_16) rfl ?_
        refine st_go 1 (pc' := 90) (lo' := [(0, .ref 20), (2, .int x2), (3, .int x3)]) (st' := [.int 0, .int x2, .ref 22]) rfl ?_
        refine vmWp.sub (lo' := []) trivial ?_
        exact tForger_condition_90 hQ 0 x2 d_14 h
      · have h := Eq.mp (if_neg hc_16) h
        refine st_if (t := 85) (b := false) rfl (decide_eq_false hc_16) rfl ?_
        refine st_go 2 (pc' := 90) (lo' := [(0, .ref 20), (2, .int x2), (3, .int x3)]) (st' := [.int 1, .int x2, .ref 22]) rfl ?_
        refine vmWp.sub (lo' := []) trivial ?_
        exact tForger_condition_90 hQ 1 x2 d_14 h
set_option maxRecDepth 100000 in
def Forger_condition_54 (x2 : Int32) (s0 : Int32) (s1 : Int32) (s2 : Int32) (d : vmD) (Q : vmD → Prop) : Prop :=
  Expression_read s2 s1 s0 d fun r_9 d_8 =>
  Forger_condition_58 x2 r_9 d_8 Q
set_option maxRecDepth 100000 in
set_option maxHeartbeats 4000000 in
theorem tForger_condition_54 {L : Nat} {e : vmD} {Qo : Option Value → vmW → Prop} {Q : vmD → Prop} (hQ : ∀ d, Q d → Qo none (wC L d e)) (x2 : Int32) (s0 : Int32) (s1 : Int32) (s2 : Int32) (d : vmD) (h : Forger_condition_54 x2 s0 s1 s2 d Q) : vmWp 45 54 [(0, .ref 20), (2, .int x2)] [.int s0, .int s1, .int s2, .ref 28] (wC L d e) Qo := by
  unfold Forger_condition_54 at h
  refine st_calli (k' := 9) (as := [.ref 28, .int s2, .int s1, .int s0]) (rest := []) (lo' := [(0, .ref 28), (1, .int s2), (2, .int s1), (3, .int s0)]) (wf := fun d => wC L d e) rfl rfl rfl ?_
  refine tExpression_read (fun r_9 d_8 h => ⟨r_9, d_8, rfl, rfl, ?_⟩) s2 s1 s0 d h
  refine st_go 1 (pc' := 58) (lo' := [(3, .int r_9), (0, .ref 20), (2, .int x2)]) (st' := []) rfl ?_
  refine vmWp.sub (lo' := [(0, .ref 20), (2, .int x2), (3, .int r_9)]) ⟨rfl, rfl, rfl, trivial⟩ ?_
  exact tForger_condition_58 hQ x2 r_9 d_8 h
set_option maxRecDepth 100000 in
def Forger_condition (x1 : Int32) (x2 : Int32) (d : vmD) (Q : vmD → Prop) : Prop :=
  Conditions_allows x2 d fun r_2 d_1 =>
  if r_2 = 0 then
  (Tokens_blame x1 7 d_1 fun d_4 =>
  Q d_4)
  else
  (bnd (x1 + 1) fun x3_5 =>
  if x2 = 104 then
  (if (gF d_1 20 9) = 1 then
  (Forger_condition_54 x2 1 (gF d_1 20 11) x3_5 d_1 Q)
  else
  (Forger_condition_54 x2 0 (gF d_1 20 11) x3_5 d_1 Q))
  else
  (Forger_condition_58 x2 x3_5 d_1 Q))
set_option maxRecDepth 100000 in
set_option maxHeartbeats 4000000 in
theorem tForger_condition {L : Nat} {e : vmD} {Qo : Option Value → vmW → Prop} {Q : vmD → Prop} (hQ : ∀ d, Q d → Qo none (wC L d e)) (x1 : Int32) (x2 : Int32) (d : vmD) (h : Forger_condition x1 x2 d Q) : vmWp 45 0 [(0, .ref 20), (1, .int x1), (2, .int x2)] [] (wC L d e) Qo := by
  unfold Forger_condition at h
  refine st_go 3 (pc' := 5) (lo' := [(0, .ref 20), (1, .int x1), (2, .int x2)]) (st' := [.int x2, .ref 22]) rfl ?_
  refine st_calli (k' := 5) (as := [.ref 22, .int x2]) (rest := []) (lo' := [(0, .ref 22), (1, .int x2)]) (wf := fun d => wC L d e) rfl rfl rfl ?_
  refine tConditions_allows (fun r_2 d_1 h => ⟨r_2, d_1, rfl, rfl, ?_⟩) x2 d h
  by_cases hc_3 : r_2 = 0
  · have h := Eq.mp (if_pos hc_3) h
    refine st_if (t := 11) (b := false) rfl (decide_eq_false (fun z => z hc_3)) rfl ?_
    refine st_go 4 (pc' := 18) (lo' := [(0, .ref 20), (1, .int x1), (2, .int x2)]) (st' := [.int 7, .int x1, .ref 24]) rfl ?_
    refine st_callv (k' := 218) (as := [.ref 24, .int x1, .int 7]) (rest := []) (lo' := [(0, .ref 24), (1, .int x1), (2, .int 7)]) (wf := fun d => wC L d e) rfl rfl rfl ?_
    refine tTokens_blame (fun d_4 h => ⟨d_4, rfl, rfl, ?_⟩) x1 7 d_1 h
    exact st_retV rfl rfl (hQ _ h)
  · have h := Eq.mp (if_neg hc_3) h
    refine st_if (t := 22) (b := true) rfl (decide_eq_true hc_3) rfl ?_
    refine st_go 4 (pc' := 26) (lo' := [(3, .int (x1 + 1)), (0, .ref 20), (1, .int x1), (2, .int x2)]) (st' := []) rfl ?_
    refine st_locI (fun x3_5 hy_x3_5 => ?_)
    have h := h x3_5 hy_x3_5
    refine st_go 2 (pc' := 29) (lo' := [(3, .int x3_5), (0, .ref 20), (1, .int x1), (2, .int x2)]) (st' := [.int 104, .int x2]) rfl ?_
    by_cases hc_6 : x2 = 104
    · have h := Eq.mp (if_pos hc_6) h
      refine st_icmp (t := 32) (b := false) rfl (decide_eq_false (fun z => z hc_6)) rfl ?_
      refine st_go 8 (pc' := 46) (lo' := [(3, .int x3_5), (0, .ref 20), (1, .int x1), (2, .int x2)]) (st' := [.int 1, .int (gF d_1 20 9), .int (gF d_1 20 11), .int x3_5, .ref 28]) rfl ?_
      by_cases hc_7 : (gF d_1 20 9) = 1
      · have h := Eq.mp (if_pos hc_7) h
        refine st_icmp (t := 49) (b := false) rfl (decide_eq_false (fun z => z hc_7)) rfl ?_
        refine st_go 2 (pc' := 54) (lo' := [(3, .int x3_5), (0, .ref 20), (1, .int x1), (2, .int x2)]) (st' := [.int 1, .int (gF d_1 20 11), .int x3_5, .ref 28]) rfl ?_
        refine vmWp.sub (lo' := [(0, .ref 20), (2, .int x2)]) ⟨rfl, rfl, trivial⟩ ?_
        exact tForger_condition_54 hQ x2 1 (gF d_1 20 11) x3_5 d_1 h
      · have h := Eq.mp (if_neg hc_7) h
        refine st_icmp (t := 53) (b := true) rfl (decide_eq_true hc_7) rfl ?_
        refine st_go 1 (pc' := 54) (lo' := [(3, .int x3_5), (0, .ref 20), (1, .int x1), (2, .int x2)]) (st' := [.int 0, .int (gF d_1 20 11), .int x3_5, .ref 28]) rfl ?_
        refine vmWp.sub (lo' := [(0, .ref 20), (2, .int x2)]) ⟨rfl, rfl, trivial⟩ ?_
        exact tForger_condition_54 hQ x2 0 (gF d_1 20 11) x3_5 d_1 h
    · have h := Eq.mp (if_neg hc_6) h
      refine st_icmp (t := 58) (b := true) rfl (decide_eq_true hc_6) rfl ?_
      refine vmWp.sub (lo' := [(0, .ref 20), (2, .int x2), (3, .int x3_5)]) ⟨rfl, rfl, rfl, trivial⟩ ?_
      exact tForger_condition_58 hQ x2 x3_5 d_1 h
set_option maxRecDepth 100000 in
def Operands_begin_7 (Q : vmD → Prop) : Nat → Int32 → vmD → Prop
  | 0, _, _ => False
  | n + 1, x1, d => if x1 < 2 then
  (ixOk x1 2 ∧
  bnd (sA d 34 x1.toNatClampNeg (0 : Int32)) fun d_4 =>
  ixOk x1 2 ∧
  bnd (sA d_4 35 x1.toNatClampNeg (0 : Int32)) fun d_6 =>
  ixOk x1 2 ∧
  bnd (sA d_6 36 x1.toNatClampNeg (0 : Int32)) fun d_8 =>
  ixOk x1 2 ∧
  bnd (sA d_8 37 x1.toNatClampNeg ((1 : Int32) &&& 1)) fun d_10 =>
  bnd (x1 + 1) fun x1_11 =>
  (Operands_begin_7 Q n) x1_11 d_10)
  else
  (Q d)
set_option maxRecDepth 100000 in
set_option maxHeartbeats 4000000 in
theorem tOperands_begin_7 {L : Nat} {e : vmD} {Qo : Option Value → vmW → Prop} {Q : vmD → Prop} (hQ : ∀ d, Q d → Qo none (wC L d e)) : ∀ (n : Nat) (x1 : Int32) (d : vmD), Operands_begin_7 Q n x1 d → vmWp 150 7 [(0, .ref 33), (1, .int x1)] [] (wC L d e) Qo := by
  intro n
  induction n with
  | zero => intro x1 d h; exact h.elim
  | succ n ih =>
    intro x1 d h
    unfold Operands_begin_7 at h
    refine st_go 2 (pc' := 9) (lo' := [(0, .ref 33), (1, .int x1)]) (st' := [.int 2, .int x1]) rfl ?_
    by_cases hc_2 : x1 < 2
    · have h := Eq.mp (if_pos hc_2) h
      refine st_icmp (t := 12) (b := false) rfl (decide_eq_false (Int32.not_le.mpr hc_2)) rfl ?_
      refine st_go 4 (pc' := 18) (lo' := [(0, .ref 33), (1, .int x1)]) (st' := [.int 0, .int x1, .ref 34]) rfl ?_
      obtain ⟨hj_3, h⟩ := h
      refine st_iastC (o := 34) rfl rfl hj_3 rfl (fun d_4 hy_d_4 => ?_)
      have h := h d_4 hy_d_4
      refine st_go 4 (pc' := 25) (lo' := [(0, .ref 33), (1, .int x1)]) (st' := [.int 0, .int x1, .ref 35]) rfl ?_
      obtain ⟨hj_5, h⟩ := h
      refine st_iastC (o := 35) rfl rfl hj_5 rfl (fun d_6 hy_d_6 => ?_)
      have h := h d_6 hy_d_6
      refine st_go 4 (pc' := 32) (lo' := [(0, .ref 33), (1, .int x1)]) (st' := [.int 0, .int x1, .ref 36]) rfl ?_
      obtain ⟨hj_7, h⟩ := h
      refine st_iastC (o := 36) rfl rfl hj_7 rfl (fun d_8 hy_d_8 => ?_)
      have h := h d_8 hy_d_8
      refine st_go 4 (pc' := 39) (lo' := [(0, .ref 33), (1, .int x1)]) (st' := [.int 1, .int x1, .ref 37]) rfl ?_
      obtain ⟨hj_9, h⟩ := h
      refine st_zastC (o := 37) rfl rfl rfl hj_9 rfl (fun d_10 hy_d_10 => ?_)
      have h := h d_10 hy_d_10
      refine st_go 1 (pc' := 43) (lo' := [(1, .int (x1 + 1)), (0, .ref 33)]) (st' := []) rfl ?_
      refine st_locI (fun x1_11 hy_x1_11 => ?_)
      have h := h x1_11 hy_x1_11
      refine st_go 1 (pc' := 7) (lo' := [(1, .int x1_11), (0, .ref 33)]) (st' := []) rfl ?_
      refine vmWp.sub (lo' := [(0, .ref 33), (1, .int x1_11)]) ⟨rfl, rfl, trivial⟩ ?_
      exact ih x1_11 d_10 h
    · have h := Eq.mp (if_neg hc_2) h
      refine st_icmp (t := 46) (b := true) rfl (decide_eq_true (Int32.not_lt.mp hc_2)) rfl ?_
      exact st_retV rfl rfl (hQ _ h)
set_option maxRecDepth 100000 in
def Operands_begin (d : vmD) (Q : vmD → Prop) : Prop :=
  bnd (sF d 33 8 0) fun d_1 =>
  ∃ m7, Operands_begin_7 Q m7 0 d_1
set_option maxRecDepth 100000 in
set_option maxHeartbeats 4000000 in
theorem tOperands_begin {L : Nat} {e : vmD} {Qo : Option Value → vmW → Prop} {Q : vmD → Prop} (hQ : ∀ d, Q d → Qo none (wC L d e)) (d : vmD) (h : Operands_begin d Q) : vmWp 150 0 [(0, .ref 33)] [] (wC L d e) Qo := by
  unfold Operands_begin at h
  refine st_go 2 (pc' := 2) (lo' := [(0, .ref 33)]) (st' := [.int 0, .ref 33]) rfl ?_
  refine st_putIC (o := 33) (f := 8) rfl rfl rfl rfl rfl (fun d_1 hy_d_1 => ?_)
  have h := h d_1 hy_d_1
  refine st_go 2 (pc' := 7) (lo' := [(1, .int 0), (0, .ref 33)]) (st' := []) rfl ?_
  obtain ⟨m7, h⟩ := h
  refine vmWp.sub (lo' := [(0, .ref 33), (1, .int 0)]) ⟨rfl, rfl, trivial⟩ ?_
  exact tOperands_begin_7 hQ m7 0 d_1 h
set_option maxRecDepth 100000 in
def Operands_kind_35 (x2 : Int32) (x3 : Int32) (d : vmD) (Q : Int32 → vmD → Prop) : Prop :=
  if x2 = 59 then
  (Q x3 d)
  else
  (if x3 = 31 then
  (Q 33 d)
  else
  (Q x3 d))
set_option maxRecDepth 100000 in
set_option maxHeartbeats 4000000 in
theorem tOperands_kind_35 {L : Nat} {e : vmD} {Qo : Option Value → vmW → Prop} {Q : Int32 → vmD → Prop} (hQ : ∀ r d, Q r d → Qo (some (.int r)) (wC L d e)) (x2 : Int32) (x3 : Int32) (d : vmD) (h : Operands_kind_35 x2 x3 d Q) : vmWp 156 35 [(2, .int x2), (3, .int x3)] [] (wC L d e) Qo := by
  unfold Operands_kind_35 at h
  refine st_go 2 (pc' := 38) (lo' := [(2, .int x2), (3, .int x3)]) (st' := [.int 59, .int x2]) rfl ?_
  by_cases hc_3 : x2 = 59
  · have h := Eq.mp (if_pos hc_3) h
    refine st_icmp (t := 52) (b := true) rfl (decide_eq_true hc_3) rfl ?_
    refine st_go 1 (pc' := 53) (lo' := [(2, .int x2), (3, .int x3)]) (st' := [.int x3]) rfl ?_
    exact st_retI rfl rfl (hQ _ _ h)
  · have h := Eq.mp (if_neg hc_3) h
    refine st_icmp (t := 41) (b := false) rfl (decide_eq_false hc_3) rfl ?_
    refine st_go 2 (pc' := 44) (lo' := [(2, .int x2), (3, .int x3)]) (st' := [.int 31, .int x3]) rfl ?_
    by_cases hc_4 : x3 = 31
    · have h := Eq.mp (if_pos hc_4) h
      refine st_icmp (t := 47) (b := false) rfl (decide_eq_false (fun z => z hc_4)) rfl ?_
      refine st_go 2 (pc' := 53) (lo' := [(2, .int x2), (3, .int x3)]) (st' := [.int 33]) rfl ?_
      exact st_retI rfl rfl (hQ _ _ h)
    · have h := Eq.mp (if_neg hc_4) h
      refine st_icmp (t := 52) (b := true) rfl (decide_eq_true hc_4) rfl ?_
      refine st_go 1 (pc' := 53) (lo' := [(2, .int x2), (3, .int x3)]) (st' := [.int x3]) rfl ?_
      exact st_retI rfl rfl (hQ _ _ h)
set_option maxRecDepth 100000 in
def Operands_kind_19 (x2 : Int32) (s0 : Int32) (d : vmD) (Q : Int32 → vmD → Prop) : Prop :=
  if x2 = 59 then
  (Operands_kind_35 x2 s0 d Q)
  else
  (if s0 = 30 then
  (Q 32 d)
  else
  (Operands_kind_35 x2 s0 d Q))
set_option maxRecDepth 100000 in
set_option maxHeartbeats 4000000 in
theorem tOperands_kind_19 {L : Nat} {e : vmD} {Qo : Option Value → vmW → Prop} {Q : Int32 → vmD → Prop} (hQ : ∀ r d, Q r d → Qo (some (.int r)) (wC L d e)) (x2 : Int32) (s0 : Int32) (d : vmD) (h : Operands_kind_19 x2 s0 d Q) : vmWp 156 19 [(2, .int x2)] [.int s0] (wC L d e) Qo := by
  unfold Operands_kind_19 at h
  refine st_go 3 (pc' := 23) (lo' := [(3, .int s0), (2, .int x2)]) (st' := [.int 59, .int x2]) rfl ?_
  by_cases hc_2 : x2 = 59
  · have h := Eq.mp (if_pos hc_2) h
    refine st_icmp (t := 35) (b := true) rfl (decide_eq_true hc_2) rfl ?_
    refine vmWp.sub (lo' := [(2, .int x2), (3, .int s0)]) ⟨rfl, rfl, trivial⟩ ?_
    exact tOperands_kind_35 hQ x2 s0 d h
  · have h := Eq.mp (if_neg hc_2) h
    refine st_icmp (t := 26) (b := false) rfl (decide_eq_false hc_2) rfl ?_
    refine st_go 2 (pc' := 29) (lo' := [(3, .int s0), (2, .int x2)]) (st' := [.int 30, .int s0]) rfl ?_
    by_cases hc_5 : s0 = 30
    · have h := Eq.mp (if_pos hc_5) h
      refine st_icmp (t := 32) (b := false) rfl (decide_eq_false (fun z => z hc_5)) rfl ?_
      refine st_go 1 (pc' := 34) (lo' := [(3, .int s0), (2, .int x2)]) (st' := [.int 32]) rfl ?_
      exact st_retI rfl rfl (hQ _ _ h)
    · have h := Eq.mp (if_neg hc_5) h
      refine st_icmp (t := 35) (b := true) rfl (decide_eq_true hc_5) rfl ?_
      refine vmWp.sub (lo' := [(2, .int x2), (3, .int s0)]) ⟨rfl, rfl, trivial⟩ ?_
      exact tOperands_kind_35 hQ x2 s0 d h
set_option maxRecDepth 100000 in
def Operands_kind_18 (x2 : Int32) (d : vmD) (Q : Int32 → vmD → Prop) : Prop :=
  Operands_kind_19 x2 0 d Q
set_option maxRecDepth 100000 in
set_option maxHeartbeats 4000000 in
theorem tOperands_kind_18 {L : Nat} {e : vmD} {Qo : Option Value → vmW → Prop} {Q : Int32 → vmD → Prop} (hQ : ∀ r d, Q r d → Qo (some (.int r)) (wC L d e)) (x2 : Int32) (d : vmD) (h : Operands_kind_18 x2 d Q) : vmWp 156 18 [(2, .int x2)] [] (wC L d e) Qo := by
  unfold Operands_kind_18 at h
  refine st_go 1 (pc' := 19) (lo' := [(2, .int x2)]) (st' := [.int 0]) rfl ?_
  refine vmWp.sub (lo' := [(2, .int x2)]) ⟨rfl, trivial⟩ ?_
  exact tOperands_kind_19 hQ x2 0 d h
set_option maxRecDepth 100000 in
def Operands_kind (x1 : Int32) (x2 : Int32) (d : vmD) (Q : Int32 → vmD → Prop) : Prop :=
  if x1 < 0 then
  (Operands_kind_18 x2 d Q)
  else
  (if x1 < 2 then
  (ixOk x1 2 ∧
  bnd (gA d 34 x1.toNatClampNeg) fun y_8 =>
  Operands_kind_19 x2 y_8 d Q)
  else
  (Operands_kind_18 x2 d Q))
set_option maxRecDepth 100000 in
set_option maxHeartbeats 4000000 in
theorem tOperands_kind {L : Nat} {e : vmD} {Qo : Option Value → vmW → Prop} {Q : Int32 → vmD → Prop} (hQ : ∀ r d, Q r d → Qo (some (.int r)) (wC L d e)) (x1 : Int32) (x2 : Int32) (d : vmD) (h : Operands_kind x1 x2 d Q) : vmWp 156 0 [(0, .ref 33), (1, .int x1), (2, .int x2)] [] (wC L d e) Qo := by
  unfold Operands_kind at h
  refine st_go 1 (pc' := 1) (lo' := [(0, .ref 33), (1, .int x1), (2, .int x2)]) (st' := [.int x1]) rfl ?_
  by_cases hc_1 : x1 < 0
  · have h := Eq.mp (if_pos hc_1) h
    refine st_if (t := 18) (b := true) rfl (decide_eq_true hc_1) rfl ?_
    refine vmWp.sub (lo' := [(2, .int x2)]) ⟨rfl, trivial⟩ ?_
    exact tOperands_kind_18 hQ x2 d h
  · have h := Eq.mp (if_neg hc_1) h
    refine st_if (t := 4) (b := false) rfl (decide_eq_false hc_1) rfl ?_
    refine st_go 2 (pc' := 6) (lo' := [(0, .ref 33), (1, .int x1), (2, .int x2)]) (st' := [.int 2, .int x1]) rfl ?_
    by_cases hc_6 : x1 < 2
    · have h := Eq.mp (if_pos hc_6) h
      refine st_icmp (t := 9) (b := false) rfl (decide_eq_false (Int32.not_le.mpr hc_6)) rfl ?_
      refine st_go 3 (pc' := 14) (lo' := [(0, .ref 33), (1, .int x1), (2, .int x2)]) (st' := [.int x1, .ref 34]) rfl ?_
      obtain ⟨hj_7, h⟩ := h
      refine st_ialdC (o := 34) rfl rfl hj_7 rfl (fun y_8 hy_y_8 => ?_)
      have h := h y_8 hy_y_8
      refine st_go 1 (pc' := 19) (lo' := [(0, .ref 33), (1, .int x1), (2, .int x2)]) (st' := [.int y_8]) rfl ?_
      refine vmWp.sub (lo' := [(2, .int x2)]) ⟨rfl, trivial⟩ ?_
      exact tOperands_kind_19 hQ x2 y_8 d h
    · have h := Eq.mp (if_neg hc_6) h
      refine st_icmp (t := 18) (b := true) rfl (decide_eq_true (Int32.not_lt.mp hc_6)) rfl ?_
      refine vmWp.sub (lo' := [(2, .int x2)]) ⟨rfl, trivial⟩ ?_
      exact tOperands_kind_18 hQ x2 d h
set_option maxRecDepth 100000 in
def Shapes_has (x1 : Int32) (d : vmD) (Q : Int32 → vmD → Prop) : Prop :=
  if x1 < 0 then
  (Q 0 d)
  else
  (if x1 < 1792 then
  (ixOk x1 1792 ∧
  bnd (gA d 16 x1.toNatClampNeg) fun y_4 =>
  if y_4 < 0 then
  (Q 0 d)
  else
  (Q 1 d))
  else
  (Q 0 d))
set_option maxRecDepth 100000 in
set_option maxHeartbeats 4000000 in
theorem tShapes_has {L : Nat} {e : vmD} {Qo : Option Value → vmW → Prop} {Q : Int32 → vmD → Prop} (hQ : ∀ r d, Q r d → Qo (some (.int r)) (wC L d e)) (x1 : Int32) (d : vmD) (h : Shapes_has x1 d Q) : vmWp 180 0 [(0, .ref 15), (1, .int x1)] [] (wC L d e) Qo := by
  unfold Shapes_has at h
  refine st_go 1 (pc' := 1) (lo' := [(0, .ref 15), (1, .int x1)]) (st' := [.int x1]) rfl ?_
  by_cases hc_1 : x1 < 0
  · have h := Eq.mp (if_pos hc_1) h
    refine st_if (t := 24) (b := true) rfl (decide_eq_true hc_1) rfl ?_
    refine st_go 1 (pc' := 25) (lo' := [(0, .ref 15), (1, .int x1)]) (st' := [.int 0]) rfl ?_
    exact st_retZ rfl rfl (Or.inl rfl) (hQ _ _ h)
  · have h := Eq.mp (if_neg hc_1) h
    refine st_if (t := 4) (b := false) rfl (decide_eq_false hc_1) rfl ?_
    refine st_go 2 (pc' := 8) (lo' := [(0, .ref 15), (1, .int x1)]) (st' := [.int 1792, .int x1]) rfl ?_
    by_cases hc_2 : x1 < 1792
    · have h := Eq.mp (if_pos hc_2) h
      refine st_icmp (t := 11) (b := false) rfl (decide_eq_false (Int32.not_le.mpr hc_2)) rfl ?_
      refine st_go 3 (pc' := 16) (lo' := [(0, .ref 15), (1, .int x1)]) (st' := [.int x1, .ref 16]) rfl ?_
      obtain ⟨hj_3, h⟩ := h
      refine st_ialdC (o := 16) rfl rfl hj_3 rfl (fun y_4 hy_y_4 => ?_)
      have h := h y_4 hy_y_4
      by_cases hc_5 : y_4 < 0
      · have h := Eq.mp (if_pos hc_5) h
        refine st_if (t := 24) (b := true) rfl (decide_eq_true hc_5) rfl ?_
        refine st_go 1 (pc' := 25) (lo' := [(0, .ref 15), (1, .int x1)]) (st' := [.int 0]) rfl ?_
        exact st_retZ rfl rfl (Or.inl rfl) (hQ _ _ h)
      · have h := Eq.mp (if_neg hc_5) h
        refine st_if (t := 20) (b := false) rfl (decide_eq_false hc_5) rfl ?_
        refine st_go 2 (pc' := 25) (lo' := [(0, .ref 15), (1, .int x1)]) (st' := [.int 1]) rfl ?_
        exact st_retZ rfl rfl (Or.inr rfl) (hQ _ _ h)
    · have h := Eq.mp (if_neg hc_2) h
      refine st_icmp (t := 24) (b := true) rfl (decide_eq_true (Int32.not_lt.mp hc_2)) rfl ?_
      refine st_go 1 (pc' := 25) (lo' := [(0, .ref 15), (1, .int x1)]) (st' := [.int 0]) rfl ?_
      exact st_retZ rfl rfl (Or.inl rfl) (hQ _ _ h)
set_option maxRecDepth 100000 in
def Shapes_shapeAt (x1 : Int32) (d : vmD) (Q : Int32 → vmD → Prop) : Prop :=
  Shapes_has x1 d fun r_2 d_1 =>
  if r_2 = 0 then
  (Q 0 d_1)
  else
  (ixOk x1 1792 ∧
  bnd (gA d_1 16 x1.toNatClampNeg) fun y_5 =>
  Q y_5 d_1)
set_option maxRecDepth 100000 in
set_option maxHeartbeats 4000000 in
theorem tShapes_shapeAt {L : Nat} {e : vmD} {Qo : Option Value → vmW → Prop} {Q : Int32 → vmD → Prop} (hQ : ∀ r d, Q r d → Qo (some (.int r)) (wC L d e)) (x1 : Int32) (d : vmD) (h : Shapes_shapeAt x1 d Q) : vmWp 181 0 [(0, .ref 15), (1, .int x1)] [] (wC L d e) Qo := by
  unfold Shapes_shapeAt at h
  refine st_go 2 (pc' := 2) (lo' := [(0, .ref 15), (1, .int x1)]) (st' := [.int x1, .ref 15]) rfl ?_
  refine st_calli (k' := 180) (as := [.ref 15, .int x1]) (rest := []) (lo' := [(0, .ref 15), (1, .int x1)]) (wf := fun d => wC L d e) rfl rfl rfl ?_
  refine tShapes_has (fun r_2 d_1 h => ⟨r_2, d_1, rfl, rfl, ?_⟩) x1 d h
  by_cases hc_3 : r_2 = 0
  · have h := Eq.mp (if_pos hc_3) h
    refine st_if (t := 17) (b := true) rfl (decide_eq_true hc_3) rfl ?_
    refine st_go 1 (pc' := 18) (lo' := [(0, .ref 15), (1, .int x1)]) (st' := [.int 0]) rfl ?_
    exact st_retI rfl rfl (hQ _ _ h)
  · have h := Eq.mp (if_neg hc_3) h
    refine st_if (t := 8) (b := false) rfl (decide_eq_false hc_3) rfl ?_
    refine st_go 3 (pc' := 13) (lo' := [(0, .ref 15), (1, .int x1)]) (st' := [.int x1, .ref 16]) rfl ?_
    obtain ⟨hj_4, h⟩ := h
    refine st_ialdC (o := 16) rfl rfl hj_4 rfl (fun y_5 hy_y_5 => ?_)
    have h := h y_5 hy_y_5
    refine st_go 1 (pc' := 18) (lo' := [(0, .ref 15), (1, .int x1)]) (st' := [.int y_5]) rfl ?_
    exact st_retI rfl rfl (hQ _ _ h)
set_option maxRecDepth 100000 in
def Shapes_kind (x1 : Int32) (x2 : Int32) (d : vmD) (Q : Int32 → vmD → Prop) : Prop :=
  if x2 = 0 then
  (Shapes_shapeAt x1 d fun r_3 d_2 =>
  Q ((r_3 >>> ((8 : Int32) &&& 31)) &&& 255) d_2)
  else
  (Shapes_shapeAt x1 d fun r_5 d_4 =>
  Q (r_5 &&& 255) d_4)
set_option maxRecDepth 100000 in
set_option maxHeartbeats 4000000 in
theorem tShapes_kind {L : Nat} {e : vmD} {Qo : Option Value → vmW → Prop} {Q : Int32 → vmD → Prop} (hQ : ∀ r d, Q r d → Qo (some (.int r)) (wC L d e)) (x1 : Int32) (x2 : Int32) (d : vmD) (h : Shapes_kind x1 x2 d Q) : vmWp 183 0 [(0, .ref 15), (1, .int x1), (2, .int x2)] [] (wC L d e) Qo := by
  unfold Shapes_kind at h
  refine st_go 1 (pc' := 1) (lo' := [(0, .ref 15), (1, .int x1), (2, .int x2)]) (st' := [.int x2]) rfl ?_
  by_cases hc_1 : x2 = 0
  · have h := Eq.mp (if_pos hc_1) h
    refine st_if (t := 4) (b := false) rfl (decide_eq_false (fun z => z hc_1)) rfl ?_
    refine st_go 2 (pc' := 6) (lo' := [(0, .ref 15), (1, .int x1), (2, .int x2)]) (st' := [.int x1, .ref 15]) rfl ?_
    refine st_calli (k' := 181) (as := [.ref 15, .int x1]) (rest := []) (lo' := [(0, .ref 15), (1, .int x1)]) (wf := fun d => wC L d e) rfl rfl rfl ?_
    refine tShapes_shapeAt (fun r_3 d_2 h => ⟨r_3, d_2, rfl, rfl, ?_⟩) x1 d h
    refine st_go 5 (pc' := 28) (lo' := [(0, .ref 15), (1, .int x1), (2, .int x2)]) (st' := [.int ((r_3 >>> ((8 : Int32) &&& 31)) &&& 255)]) rfl ?_
    exact st_retI rfl rfl (hQ _ _ h)
  · have h := Eq.mp (if_neg hc_1) h
    refine st_if (t := 19) (b := true) rfl (decide_eq_true hc_1) rfl ?_
    refine st_go 2 (pc' := 21) (lo' := [(0, .ref 15), (1, .int x1), (2, .int x2)]) (st' := [.int x1, .ref 15]) rfl ?_
    refine st_calli (k' := 181) (as := [.ref 15, .int x1]) (rest := []) (lo' := [(0, .ref 15), (1, .int x1)]) (wf := fun d => wC L d e) rfl rfl rfl ?_
    refine tShapes_shapeAt (fun r_5 d_4 h => ⟨r_5, d_4, rfl, rfl, ?_⟩) x1 d h
    refine st_go 2 (pc' := 28) (lo' := [(0, .ref 15), (1, .int x1), (2, .int x2)]) (st' := [.int (r_5 &&& 255)]) rfl ?_
    exact st_retI rfl rfl (hQ _ _ h)
set_option maxRecDepth 100000 in
def Shapes_asRead_15 (x0 : Int32) (d : vmD) (Q : Int32 → vmD → Prop) : Prop :=
  if x0 = 42 then
  (Q 35 d)
  else
  (if x0 = 43 then
  (Q 35 d)
  else
  (Q x0 d))
set_option maxRecDepth 100000 in
set_option maxHeartbeats 4000000 in
theorem tShapes_asRead_15 {L : Nat} {e : vmD} {Qo : Option Value → vmW → Prop} {Q : Int32 → vmD → Prop} (hQ : ∀ r d, Q r d → Qo (some (.int r)) (wC L d e)) (x0 : Int32) (d : vmD) (h : Shapes_asRead_15 x0 d Q) : vmWp 185 15 [(0, .int x0)] [] (wC L d e) Qo := by
  unfold Shapes_asRead_15 at h
  refine st_go 2 (pc' := 18) (lo' := [(0, .int x0)]) (st' := [.int 42, .int x0]) rfl ?_
  by_cases hc_2 : x0 = 42
  · have h := Eq.mp (if_pos hc_2) h
    refine st_icmp (t := 27) (b := true) rfl (decide_eq_true hc_2) rfl ?_
    refine st_go 2 (pc' := 33) (lo' := [(0, .int x0)]) (st' := [.int 35]) rfl ?_
    exact st_retI rfl rfl (hQ _ _ h)
  · have h := Eq.mp (if_neg hc_2) h
    refine st_icmp (t := 21) (b := false) rfl (decide_eq_false hc_2) rfl ?_
    refine st_go 2 (pc' := 24) (lo' := [(0, .int x0)]) (st' := [.int 43, .int x0]) rfl ?_
    by_cases hc_3 : x0 = 43
    · have h := Eq.mp (if_pos hc_3) h
      refine st_icmp (t := 27) (b := false) rfl (decide_eq_false (fun z => z hc_3)) rfl ?_
      refine st_go 2 (pc' := 33) (lo' := [(0, .int x0)]) (st' := [.int 35]) rfl ?_
      exact st_retI rfl rfl (hQ _ _ h)
    · have h := Eq.mp (if_neg hc_3) h
      refine st_icmp (t := 32) (b := true) rfl (decide_eq_true hc_3) rfl ?_
      refine st_go 1 (pc' := 33) (lo' := [(0, .int x0)]) (st' := [.int x0]) rfl ?_
      exact st_retI rfl rfl (hQ _ _ h)
set_option maxRecDepth 100000 in
def Shapes_asRead (x0 : Int32) (d : vmD) (Q : Int32 → vmD → Prop) : Prop :=
  if x0 < 36 then
  (Shapes_asRead_15 x0 d Q)
  else
  (if (41 : Int32) < x0 then
  (Shapes_asRead_15 x0 d Q)
  else
  (Q 34 d))
set_option maxRecDepth 100000 in
set_option maxHeartbeats 4000000 in
theorem tShapes_asRead {L : Nat} {e : vmD} {Qo : Option Value → vmW → Prop} {Q : Int32 → vmD → Prop} (hQ : ∀ r d, Q r d → Qo (some (.int r)) (wC L d e)) (x0 : Int32) (d : vmD) (h : Shapes_asRead x0 d Q) : vmWp 185 0 [(0, .int x0)] [] (wC L d e) Qo := by
  unfold Shapes_asRead at h
  refine st_go 2 (pc' := 3) (lo' := [(0, .int x0)]) (st' := [.int 36, .int x0]) rfl ?_
  by_cases hc_1 : x0 < 36
  · have h := Eq.mp (if_pos hc_1) h
    refine st_icmp (t := 15) (b := true) rfl (decide_eq_true hc_1) rfl ?_
    refine vmWp.sub (lo' := [(0, .int x0)]) ⟨rfl, trivial⟩ ?_
    exact tShapes_asRead_15 hQ x0 d h
  · have h := Eq.mp (if_neg hc_1) h
    refine st_icmp (t := 6) (b := false) rfl (decide_eq_false hc_1) rfl ?_
    refine st_go 2 (pc' := 9) (lo' := [(0, .int x0)]) (st' := [.int 41, .int x0]) rfl ?_
    by_cases hc_4 : (41 : Int32) < x0
    · have h := Eq.mp (if_pos hc_4) h
      refine st_icmp (t := 15) (b := true) rfl (decide_eq_true hc_4) rfl ?_
      refine vmWp.sub (lo' := [(0, .int x0)]) ⟨rfl, trivial⟩ ?_
      exact tShapes_asRead_15 hQ x0 d h
    · have h := Eq.mp (if_neg hc_4) h
      refine st_icmp (t := 12) (b := false) rfl (decide_eq_false hc_4) rfl ?_
      refine st_go 1 (pc' := 14) (lo' := [(0, .int x0)]) (st' := [.int 34]) rfl ?_
      exact st_retI rfl rfl (hQ _ _ h)
set_option maxRecDepth 100000 in
def Shapes_find_89 (b28 : Int32 → Int32 → Int32 → Int32 → vmD → Prop) (x2 : Int32) (x3 : Int32) (x4 : Int32) (x5 : Int32) (d : vmD) (Q : Int32 → vmD → Prop) : Prop :=
  ixOk x4 1792 ∧
  bnd (gA d 17 x4.toNatClampNeg) fun y_19 =>
  bnd (x5 + 1) fun x5_20 =>
  b28 x2 x3 y_19 x5_20 d
set_option maxRecDepth 100000 in
set_option maxHeartbeats 4000000 in
theorem tShapes_find_89 {L : Nat} {e : vmD} {Qo : Option Value → vmW → Prop} {b28 : Int32 → Int32 → Int32 → Int32 → vmD → Prop} {Q : Int32 → vmD → Prop} (hb28 : ∀ x2 x3 x4 x5 d, b28 x2 x3 x4 x5 d → vmWp 184 28 [(0, .ref 15), (2, .int x2), (3, .int x3), (4, .int x4), (5, .int x5)] [] (wC L d e) Qo) (hQ : ∀ r d, Q r d → Qo (some (.int r)) (wC L d e)) (x2 : Int32) (x3 : Int32) (x4 : Int32) (x5 : Int32) (d : vmD) (h : Shapes_find_89 b28 x2 x3 x4 x5 d Q) : vmWp 184 89 [(0, .ref 15), (2, .int x2), (3, .int x3), (4, .int x4), (5, .int x5)] [] (wC L d e) Qo := by
  unfold Shapes_find_89 at h
  refine st_go 3 (pc' := 95) (lo' := [(0, .ref 15), (2, .int x2), (3, .int x3), (4, .int x4), (5, .int x5)]) (st' := [.int x4, .ref 17]) rfl ?_
  obtain ⟨hj_18, h⟩ := h
  refine st_ialdC (o := 17) rfl rfl hj_18 rfl (fun y_19 hy_y_19 => ?_)
  have h := h y_19 hy_y_19
  refine st_go 2 (pc' := 101) (lo' := [(5, .int (x5 + 1)), (4, .int y_19), (0, .ref 15), (2, .int x2), (3, .int x3)]) (st' := []) rfl ?_
  refine st_locI (fun x5_20 hy_x5_20 => ?_)
  have h := h x5_20 hy_x5_20
  refine st_go 1 (pc' := 28) (lo' := [(5, .int x5_20), (4, .int y_19), (0, .ref 15), (2, .int x2), (3, .int x3)]) (st' := []) rfl ?_
  refine vmWp.sub (lo' := [(0, .ref 15), (2, .int x2), (3, .int x3), (4, .int y_19), (5, .int x5_20)]) ⟨rfl, rfl, rfl, rfl, rfl, trivial⟩ ?_
  exact hb28 x2 x3 y_19 x5_20 d h
set_option maxRecDepth 100000 in
def Shapes_find_28 (Q : Int32 → vmD → Prop) : Nat → Int32 → Int32 → Int32 → Int32 → vmD → Prop
  | 0, _, _, _, _, _ => False
  | n + 1, x2, x3, x4, x5, d => if x5 < 1792 then
  (if x4 < 0 then
  (Q (-1) d)
  else
  (if x4 < 1792 then
  (Shapes_kind x4 0 d fun r_6 d_5 =>
  Shapes_asRead r_6 d_5 fun r_8 d_7 =>
  if r_8 = x2 then
  (Shapes_kind x4 1 d_7 fun r_11 d_10 =>
  Shapes_asRead r_11 d_10 fun r_13 d_12 =>
  if r_13 = x3 then
  (Shapes_has x4 d_12 fun r_16 d_15 =>
  if r_16 = 0 then
  (Shapes_find_89 (Shapes_find_28 Q n) x2 x3 x4 x5 d_15 Q)
  else
  (Q x4 d_15))
  else
  (Shapes_find_89 (Shapes_find_28 Q n) x2 x3 x4 x5 d_12 Q))
  else
  (Shapes_find_89 (Shapes_find_28 Q n) x2 x3 x4 x5 d_7 Q))
  else
  (Q (-1) d)))
  else
  (Q (-1) d)
set_option maxRecDepth 100000 in
set_option maxHeartbeats 4000000 in
theorem tShapes_find_28 {L : Nat} {e : vmD} {Qo : Option Value → vmW → Prop} {Q : Int32 → vmD → Prop} (hQ : ∀ r d, Q r d → Qo (some (.int r)) (wC L d e)) : ∀ (n : Nat) (x2 : Int32) (x3 : Int32) (x4 : Int32) (x5 : Int32) (d : vmD), Shapes_find_28 Q n x2 x3 x4 x5 d → vmWp 184 28 [(0, .ref 15), (2, .int x2), (3, .int x3), (4, .int x4), (5, .int x5)] [] (wC L d e) Qo := by
  intro n
  induction n with
  | zero => intro x2 x3 x4 x5 d h; exact h.elim
  | succ n ih =>
    intro x2 x3 x4 x5 d h
    unfold Shapes_find_28 at h
    refine st_go 2 (pc' := 33) (lo' := [(0, .ref 15), (2, .int x2), (3, .int x3), (4, .int x4), (5, .int x5)]) (st' := [.int 1792, .int x5]) rfl ?_
    by_cases hc_2 : x5 < 1792
    · have h := Eq.mp (if_pos hc_2) h
      refine st_icmp (t := 36) (b := false) rfl (decide_eq_false (Int32.not_le.mpr hc_2)) rfl ?_
      refine st_go 1 (pc' := 38) (lo' := [(0, .ref 15), (2, .int x2), (3, .int x3), (4, .int x4), (5, .int x5)]) (st' := [.int x4]) rfl ?_
      by_cases hc_3 : x4 < 0
      · have h := Eq.mp (if_pos hc_3) h
        refine st_if (t := 104) (b := true) rfl (decide_eq_true hc_3) rfl ?_
        refine st_go 1 (pc' := 105) (lo' := [(0, .ref 15), (2, .int x2), (3, .int x3), (4, .int x4), (5, .int x5)]) (st' := [.int (-1)]) rfl ?_
        exact st_retI rfl rfl (hQ _ _ h)
      · have h := Eq.mp (if_neg hc_3) h
        refine st_if (t := 41) (b := false) rfl (decide_eq_false hc_3) rfl ?_
        refine st_go 2 (pc' := 46) (lo' := [(0, .ref 15), (2, .int x2), (3, .int x3), (4, .int x4), (5, .int x5)]) (st' := [.int 1792, .int x4]) rfl ?_
        by_cases hc_4 : x4 < 1792
        · have h := Eq.mp (if_pos hc_4) h
          refine st_icmp (t := 49) (b := false) rfl (decide_eq_false (Int32.not_le.mpr hc_4)) rfl ?_
          refine st_go 3 (pc' := 53) (lo' := [(0, .ref 15), (2, .int x2), (3, .int x3), (4, .int x4), (5, .int x5)]) (st' := [.int 0, .int x4, .ref 15]) rfl ?_
          refine st_calli (k' := 183) (as := [.ref 15, .int x4, .int 0]) (rest := []) (lo' := [(0, .ref 15), (1, .int x4), (2, .int 0)]) (wf := fun d => wC L d e) rfl rfl rfl ?_
          refine tShapes_kind (fun r_6 d_5 h => ⟨r_6, d_5, rfl, rfl, ?_⟩) x4 0 d h
          refine st_calli (k' := 185) (as := [.int r_6]) (rest := []) (lo' := [(0, .int r_6)]) (wf := fun d => wC L d e) rfl rfl rfl ?_
          refine tShapes_asRead (fun r_8 d_7 h => ⟨r_8, d_7, rfl, rfl, ?_⟩) r_6 d_5 h
          refine st_go 1 (pc' := 60) (lo' := [(0, .ref 15), (2, .int x2), (3, .int x3), (4, .int x4), (5, .int x5)]) (st' := [.int x2, .int r_8]) rfl ?_
          by_cases hc_9 : r_8 = x2
          · have h := Eq.mp (if_pos hc_9) h
            refine st_icmp (t := 63) (b := false) rfl (decide_eq_false (fun z => z hc_9)) rfl ?_
            refine st_go 3 (pc' := 67) (lo' := [(0, .ref 15), (2, .int x2), (3, .int x3), (4, .int x4), (5, .int x5)]) (st' := [.int 1, .int x4, .ref 15]) rfl ?_
            refine st_calli (k' := 183) (as := [.ref 15, .int x4, .int 1]) (rest := []) (lo' := [(0, .ref 15), (1, .int x4), (2, .int 1)]) (wf := fun d => wC L d e) rfl rfl rfl ?_
            refine tShapes_kind (fun r_11 d_10 h => ⟨r_11, d_10, rfl, rfl, ?_⟩) x4 1 d_7 h
            refine st_calli (k' := 185) (as := [.int r_11]) (rest := []) (lo' := [(0, .int r_11)]) (wf := fun d => wC L d e) rfl rfl rfl ?_
            refine tShapes_asRead (fun r_13 d_12 h => ⟨r_13, d_12, rfl, rfl, ?_⟩) r_11 d_10 h
            refine st_go 1 (pc' := 74) (lo' := [(0, .ref 15), (2, .int x2), (3, .int x3), (4, .int x4), (5, .int x5)]) (st' := [.int x3, .int r_13]) rfl ?_
            by_cases hc_14 : r_13 = x3
            · have h := Eq.mp (if_pos hc_14) h
              refine st_icmp (t := 77) (b := false) rfl (decide_eq_false (fun z => z hc_14)) rfl ?_
              refine st_go 2 (pc' := 80) (lo' := [(0, .ref 15), (2, .int x2), (3, .int x3), (4, .int x4), (5, .int x5)]) (st' := [.int x4, .ref 15]) rfl ?_
              refine st_calli (k' := 180) (as := [.ref 15, .int x4]) (rest := []) (lo' := [(0, .ref 15), (1, .int x4)]) (wf := fun d => wC L d e) rfl rfl rfl ?_
              refine tShapes_has (fun r_16 d_15 h => ⟨r_16, d_15, rfl, rfl, ?_⟩) x4 d_12 h
              by_cases hc_17 : r_16 = 0
              · have h := Eq.mp (if_pos hc_17) h
                refine st_if (t := 89) (b := true) rfl (decide_eq_true hc_17) rfl ?_
                refine vmWp.sub (lo' := [(0, .ref 15), (2, .int x2), (3, .int x3), (4, .int x4), (5, .int x5)]) ⟨rfl, rfl, rfl, rfl, rfl, trivial⟩ ?_
                exact tShapes_find_89 ih hQ x2 x3 x4 x5 d_15 h
              · have h := Eq.mp (if_neg hc_17) h
                refine st_if (t := 86) (b := false) rfl (decide_eq_false hc_17) rfl ?_
                refine st_go 1 (pc' := 88) (lo' := [(0, .ref 15), (2, .int x2), (3, .int x3), (4, .int x4), (5, .int x5)]) (st' := [.int x4]) rfl ?_
                exact st_retI rfl rfl (hQ _ _ h)
            · have h := Eq.mp (if_neg hc_14) h
              refine st_icmp (t := 89) (b := true) rfl (decide_eq_true hc_14) rfl ?_
              refine vmWp.sub (lo' := [(0, .ref 15), (2, .int x2), (3, .int x3), (4, .int x4), (5, .int x5)]) ⟨rfl, rfl, rfl, rfl, rfl, trivial⟩ ?_
              exact tShapes_find_89 ih hQ x2 x3 x4 x5 d_12 h
          · have h := Eq.mp (if_neg hc_9) h
            refine st_icmp (t := 89) (b := true) rfl (decide_eq_true hc_9) rfl ?_
            refine vmWp.sub (lo' := [(0, .ref 15), (2, .int x2), (3, .int x3), (4, .int x4), (5, .int x5)]) ⟨rfl, rfl, rfl, rfl, rfl, trivial⟩ ?_
            exact tShapes_find_89 ih hQ x2 x3 x4 x5 d_7 h
        · have h := Eq.mp (if_neg hc_4) h
          refine st_icmp (t := 104) (b := true) rfl (decide_eq_true (Int32.not_lt.mp hc_4)) rfl ?_
          refine st_go 1 (pc' := 105) (lo' := [(0, .ref 15), (2, .int x2), (3, .int x3), (4, .int x4), (5, .int x5)]) (st' := [.int (-1)]) rfl ?_
          exact st_retI rfl rfl (hQ _ _ h)
    · have h := Eq.mp (if_neg hc_2) h
      refine st_icmp (t := 104) (b := true) rfl (decide_eq_true (Int32.not_lt.mp hc_2)) rfl ?_
      refine st_go 1 (pc' := 105) (lo' := [(0, .ref 15), (2, .int x2), (3, .int x3), (4, .int x4), (5, .int x5)]) (st' := [.int (-1)]) rfl ?_
      exact st_retI rfl rfl (hQ _ _ h)
set_option maxRecDepth 100000 in
def Shapes_find_23 (x2 : Int32) (x3 : Int32) (s0 : Int32) (d : vmD) (Q : Int32 → vmD → Prop) : Prop :=
  ∃ m28, Shapes_find_28 Q m28 x2 x3 s0 0 d
set_option maxRecDepth 100000 in
set_option maxHeartbeats 4000000 in
theorem tShapes_find_23 {L : Nat} {e : vmD} {Qo : Option Value → vmW → Prop} {Q : Int32 → vmD → Prop} (hQ : ∀ r d, Q r d → Qo (some (.int r)) (wC L d e)) (x2 : Int32) (x3 : Int32) (s0 : Int32) (d : vmD) (h : Shapes_find_23 x2 x3 s0 d Q) : vmWp 184 23 [(0, .ref 15), (2, .int x2), (3, .int x3)] [.int s0] (wC L d e) Qo := by
  unfold Shapes_find_23 at h
  refine st_go 3 (pc' := 28) (lo' := [(5, .int 0), (4, .int s0), (0, .ref 15), (2, .int x2), (3, .int x3)]) (st' := []) rfl ?_
  obtain ⟨m28, h⟩ := h
  refine vmWp.sub (lo' := [(0, .ref 15), (2, .int x2), (3, .int x3), (4, .int s0), (5, .int 0)]) ⟨rfl, rfl, rfl, rfl, rfl, trivial⟩ ?_
  exact tShapes_find_28 hQ m28 x2 x3 s0 0 d h
set_option maxRecDepth 100000 in
def Shapes_find_22 (x2 : Int32) (x3 : Int32) (d : vmD) (Q : Int32 → vmD → Prop) : Prop :=
  Shapes_find_23 x2 x3 (-1) d Q
set_option maxRecDepth 100000 in
set_option maxHeartbeats 4000000 in
theorem tShapes_find_22 {L : Nat} {e : vmD} {Qo : Option Value → vmW → Prop} {Q : Int32 → vmD → Prop} (hQ : ∀ r d, Q r d → Qo (some (.int r)) (wC L d e)) (x2 : Int32) (x3 : Int32) (d : vmD) (h : Shapes_find_22 x2 x3 d Q) : vmWp 184 22 [(0, .ref 15), (2, .int x2), (3, .int x3)] [] (wC L d e) Qo := by
  unfold Shapes_find_22 at h
  refine st_go 1 (pc' := 23) (lo' := [(0, .ref 15), (2, .int x2), (3, .int x3)]) (st' := [.int (-1)]) rfl ?_
  refine vmWp.sub (lo' := [(0, .ref 15), (2, .int x2), (3, .int x3)]) ⟨rfl, rfl, rfl, trivial⟩ ?_
  exact tShapes_find_23 hQ x2 x3 (-1) d h
set_option maxRecDepth 100000 in
def Shapes_find (x1 : Int32) (x2 : Int32) (x3 : Int32) (d : vmD) (Q : Int32 → vmD → Prop) : Prop :=
  if x1 < 0 then
  (Shapes_find_22 x2 x3 d Q)
  else
  (if x1 < 107 then
  (ixOk x1 107 ∧
  bnd (gA d 18 x1.toNatClampNeg) fun y_23 =>
  Shapes_find_23 x2 x3 y_23 d Q)
  else
  (Shapes_find_22 x2 x3 d Q))
set_option maxRecDepth 100000 in
set_option maxHeartbeats 4000000 in
theorem tShapes_find {L : Nat} {e : vmD} {Qo : Option Value → vmW → Prop} {Q : Int32 → vmD → Prop} (hQ : ∀ r d, Q r d → Qo (some (.int r)) (wC L d e)) (x1 : Int32) (x2 : Int32) (x3 : Int32) (d : vmD) (h : Shapes_find x1 x2 x3 d Q) : vmWp 184 0 [(0, .ref 15), (1, .int x1), (2, .int x2), (3, .int x3)] [] (wC L d e) Qo := by
  unfold Shapes_find at h
  refine st_go 1 (pc' := 1) (lo' := [(0, .ref 15), (1, .int x1), (2, .int x2), (3, .int x3)]) (st' := [.int x1]) rfl ?_
  by_cases hc_1 : x1 < 0
  · have h := Eq.mp (if_pos hc_1) h
    refine st_if (t := 22) (b := true) rfl (decide_eq_true hc_1) rfl ?_
    refine vmWp.sub (lo' := [(0, .ref 15), (2, .int x2), (3, .int x3)]) ⟨rfl, rfl, rfl, trivial⟩ ?_
    exact tShapes_find_22 hQ x2 x3 d h
  · have h := Eq.mp (if_neg hc_1) h
    refine st_if (t := 4) (b := false) rfl (decide_eq_false hc_1) rfl ?_
    refine st_go 4 (pc' := 10) (lo' := [(0, .ref 15), (1, .int x1), (2, .int x2), (3, .int x3)]) (st' := [.int 107, .int x1]) rfl ?_
    by_cases hc_21 : x1 < 107
    · have h := Eq.mp (if_pos hc_21) h
      refine st_icmp (t := 13) (b := false) rfl (decide_eq_false (Int32.not_le.mpr hc_21)) rfl ?_
      refine st_go 3 (pc' := 18) (lo' := [(0, .ref 15), (1, .int x1), (2, .int x2), (3, .int x3)]) (st' := [.int x1, .ref 18]) rfl ?_
      obtain ⟨hj_22, h⟩ := h
      refine st_ialdC (o := 18) rfl rfl hj_22 rfl (fun y_23 hy_y_23 => ?_)
      have h := h y_23 hy_y_23
      refine st_go 1 (pc' := 23) (lo' := [(0, .ref 15), (1, .int x1), (2, .int x2), (3, .int x3)]) (st' := [.int y_23]) rfl ?_
      refine vmWp.sub (lo' := [(0, .ref 15), (2, .int x2), (3, .int x3)]) ⟨rfl, rfl, rfl, trivial⟩ ?_
      exact tShapes_find_23 hQ x2 x3 y_23 d h
    · have h := Eq.mp (if_neg hc_21) h
      refine st_icmp (t := 22) (b := true) rfl (decide_eq_true (Int32.not_lt.mp hc_21)) rfl ?_
      refine vmWp.sub (lo' := [(0, .ref 15), (2, .int x2), (3, .int x3)]) ⟨rfl, rfl, rfl, trivial⟩ ?_
      exact tShapes_find_22 hQ x2 x3 d h
set_option maxRecDepth 100000 in
def Shapes_lengthOf (x0 : Int32) (d : vmD) (Q : Int32 → vmD → Prop) : Prop :=
  if x0 = 32 then
  (Q 1 d)
  else
  if x0 = 33 then
  (Q 1 d)
  else
  if x0 = 36 then
  (Q 1 d)
  else
  if x0 = 37 then
  (Q 2 d)
  else
  if x0 = 38 then
  (Q 1 d)
  else
  if x0 = 42 then
  (Q 1 d)
  else
  if x0 = 43 then
  (Q 2 d)
  else
  (Q 0 d)
set_option maxRecDepth 100000 in
set_option maxHeartbeats 4000000 in
theorem tShapes_lengthOf {L : Nat} {e : vmD} {Qo : Option Value → vmW → Prop} {Q : Int32 → vmD → Prop} (hQ : ∀ r d, Q r d → Qo (some (.int r)) (wC L d e)) (x0 : Int32) (d : vmD) (h : Shapes_lengthOf x0 d Q) : vmWp 187 0 [(0, .int x0)] [] (wC L d e) Qo := by
  unfold Shapes_lengthOf at h
  refine st_go 1 (pc' := 1) (lo' := [(0, .int x0)]) (st' := [.int x0]) rfl ?_
  by_cases hc_1 : x0 = 32
  · have h := Eq.mp (if_pos hc_1) h
    refine st_tab (t := 66) rfl (by rw [hc_1]; rfl) ?_
    refine st_go 1 (pc' := 67) (lo' := [(0, .int x0)]) (st' := [.int 1]) rfl ?_
    exact st_retI rfl rfl (hQ _ _ h)
  · have h := Eq.mp (if_neg hc_1) h
    by_cases hc_2 : x0 = 33
    · have h := Eq.mp (if_pos hc_2) h
      refine st_tab (t := 66) rfl (by rw [hc_2]; rfl) ?_
      refine st_go 1 (pc' := 67) (lo' := [(0, .int x0)]) (st' := [.int 1]) rfl ?_
      exact st_retI rfl rfl (hQ _ _ h)
    · have h := Eq.mp (if_neg hc_2) h
      by_cases hc_3 : x0 = 36
      · have h := Eq.mp (if_pos hc_3) h
        refine st_tab (t := 66) rfl (by rw [hc_3]; rfl) ?_
        refine st_go 1 (pc' := 67) (lo' := [(0, .int x0)]) (st' := [.int 1]) rfl ?_
        exact st_retI rfl rfl (hQ _ _ h)
      · have h := Eq.mp (if_neg hc_3) h
        by_cases hc_4 : x0 = 37
        · have h := Eq.mp (if_pos hc_4) h
          refine st_tab (t := 64) rfl (by rw [hc_4]; rfl) ?_
          refine st_go 1 (pc' := 65) (lo' := [(0, .int x0)]) (st' := [.int 2]) rfl ?_
          exact st_retI rfl rfl (hQ _ _ h)
        · have h := Eq.mp (if_neg hc_4) h
          by_cases hc_5 : x0 = 38
          · have h := Eq.mp (if_pos hc_5) h
            refine st_tab (t := 66) rfl (by rw [hc_5]; rfl) ?_
            refine st_go 1 (pc' := 67) (lo' := [(0, .int x0)]) (st' := [.int 1]) rfl ?_
            exact st_retI rfl rfl (hQ _ _ h)
          · have h := Eq.mp (if_neg hc_5) h
            by_cases hc_6 : x0 = 42
            · have h := Eq.mp (if_pos hc_6) h
              refine st_tab (t := 66) rfl (by rw [hc_6]; rfl) ?_
              refine st_go 1 (pc' := 67) (lo' := [(0, .int x0)]) (st' := [.int 1]) rfl ?_
              exact st_retI rfl rfl (hQ _ _ h)
            · have h := Eq.mp (if_neg hc_6) h
              by_cases hc_7 : x0 = 43
              · have h := Eq.mp (if_pos hc_7) h
                refine st_tab (t := 64) rfl (by rw [hc_7]; rfl) ?_
                refine st_go 1 (pc' := 65) (lo' := [(0, .int x0)]) (st' := [.int 2]) rfl ?_
                exact st_retI rfl rfl (hQ _ _ h)
              · have h := Eq.mp (if_neg hc_7) h
                refine st_tab (t := 68) rfl (tab_def rfl (by decide) rfl (by
                  intro j hj hx
                  have hj : j < 12 := hj
                  rcases (j = 0 ∨ j = 1 ∨ j = 2 ∨ j = 3 ∨ j = 4 ∨ j = 5 ∨ j = 6 ∨ j = 7 ∨ j = 8 ∨ j = 9 ∨ j = 10 ∨ j = 11 : Prop) |> fun _ => (show j = 0 ∨ j = 1 ∨ j = 2 ∨ j = 3 ∨ j = 4 ∨ j = 5 ∨ j = 6 ∨ j = 7 ∨ j = 8 ∨ j = 9 ∨ j = 10 ∨ j = 11 by omega) with rfl | rfl | rfl | rfl | rfl | rfl | rfl | rfl | rfl | rfl | rfl | rfl <;> first | rfl | exact absurd hx hc_1 | exact absurd hx hc_2 | exact absurd hx hc_3 | exact absurd hx hc_4 | exact absurd hx hc_5 | exact absurd hx hc_6 | exact absurd hx hc_7)) ?_
                refine st_go 1 (pc' := 69) (lo' := [(0, .int x0)]) (st' := [.int 0]) rfl ?_
                exact st_retI rfl rfl (hQ _ _ h)
set_option maxRecDepth 100000 in
def Shapes_size_24 (x1 : Int32) (x2 : Int32) (d : vmD) (Q : Int32 → vmD → Prop) : Prop :=
  Shapes_kind x1 0 d fun r_3 d_2 =>
  Shapes_lengthOf r_3 d_2 fun r_5 d_4 =>
  Shapes_kind x1 1 d_4 fun r_7 d_6 =>
  Shapes_lengthOf r_7 d_6 fun r_9 d_8 =>
  Q ((x2 + r_5) + r_9) d_8
set_option maxRecDepth 100000 in
set_option maxHeartbeats 4000000 in
theorem tShapes_size_24 {L : Nat} {e : vmD} {Qo : Option Value → vmW → Prop} {Q : Int32 → vmD → Prop} (hQ : ∀ r d, Q r d → Qo (some (.int r)) (wC L d e)) (x1 : Int32) (x2 : Int32) (d : vmD) (h : Shapes_size_24 x1 x2 d Q) : vmWp 186 24 [(0, .ref 15), (1, .int x1), (2, .int x2)] [] (wC L d e) Qo := by
  unfold Shapes_size_24 at h
  refine st_go 4 (pc' := 28) (lo' := [(0, .ref 15), (1, .int x1), (2, .int x2)]) (st' := [.int 0, .int x1, .ref 15, .int x2]) rfl ?_
  refine st_calli (k' := 183) (as := [.ref 15, .int x1, .int 0]) (rest := [.int x2]) (lo' := [(0, .ref 15), (1, .int x1), (2, .int 0)]) (wf := fun d => wC L d e) rfl rfl rfl ?_
  refine tShapes_kind (fun r_3 d_2 h => ⟨r_3, d_2, rfl, rfl, ?_⟩) x1 0 d h
  refine st_calli (k' := 187) (as := [.int r_3]) (rest := [.int x2]) (lo' := [(0, .int r_3)]) (wf := fun d => wC L d e) rfl rfl rfl ?_
  refine tShapes_lengthOf (fun r_5 d_4 h => ⟨r_5, d_4, rfl, rfl, ?_⟩) r_3 d_2 h
  refine st_go 4 (pc' := 38) (lo' := [(0, .ref 15), (1, .int x1), (2, .int x2)]) (st' := [.int 1, .int x1, .ref 15, .int (x2 + r_5)]) rfl ?_
  refine st_calli (k' := 183) (as := [.ref 15, .int x1, .int 1]) (rest := [.int (x2 + r_5)]) (lo' := [(0, .ref 15), (1, .int x1), (2, .int 1)]) (wf := fun d => wC L d e) rfl rfl rfl ?_
  refine tShapes_kind (fun r_7 d_6 h => ⟨r_7, d_6, rfl, rfl, ?_⟩) x1 1 d_4 h
  refine st_calli (k' := 187) (as := [.int r_7]) (rest := [.int (x2 + r_5)]) (lo' := [(0, .int r_7)]) (wf := fun d => wC L d e) rfl rfl rfl ?_
  refine tShapes_lengthOf (fun r_9 d_8 h => ⟨r_9, d_8, rfl, rfl, ?_⟩) r_7 d_6 h
  refine st_go 1 (pc' := 45) (lo' := [(0, .ref 15), (1, .int x1), (2, .int x2)]) (st' := [.int ((x2 + r_5) + r_9)]) rfl ?_
  exact st_retI rfl rfl (hQ _ _ h)
set_option maxRecDepth 100000 in
def Shapes_size (x1 : Int32) (d : vmD) (Q : Int32 → vmD → Prop) : Prop :=
  if (x1 >>> ((8 : Int32) &&& 31)) = 0 then
  (Shapes_size_24 x1 1 d Q)
  else
  (if (x1 >>> ((8 : Int32) &&& 31)) < 5 then
  (Shapes_size_24 x1 2 d Q)
  else
  (Shapes_size_24 x1 3 d Q))
set_option maxRecDepth 100000 in
set_option maxHeartbeats 4000000 in
theorem tShapes_size {L : Nat} {e : vmD} {Qo : Option Value → vmW → Prop} {Q : Int32 → vmD → Prop} (hQ : ∀ r d, Q r d → Qo (some (.int r)) (wC L d e)) (x1 : Int32) (d : vmD) (h : Shapes_size x1 d Q) : vmWp 186 0 [(0, .ref 15), (1, .int x1)] [] (wC L d e) Qo := by
  unfold Shapes_size at h
  refine st_go 5 (pc' := 6) (lo' := [(2, .int 2), (0, .ref 15), (1, .int x1)]) (st' := [.int (x1 >>> ((8 : Int32) &&& 31))]) rfl ?_
  by_cases hc_1 : (x1 >>> ((8 : Int32) &&& 31)) = 0
  · have h := Eq.mp (if_pos hc_1) h
    refine st_if (t := 9) (b := false) rfl (decide_eq_false (fun z => z hc_1)) rfl ?_
    refine st_go 3 (pc' := 24) (lo' := [(2, .int 1), (0, .ref 15), (1, .int x1)]) (st' := []) rfl ?_
    refine vmWp.sub (lo' := [(0, .ref 15), (1, .int x1), (2, .int 1)]) ⟨rfl, rfl, rfl, trivial⟩ ?_
    exact tShapes_size_24 hQ x1 1 d h
  · have h := Eq.mp (if_neg hc_1) h
    refine st_if (t := 14) (b := true) rfl (decide_eq_true hc_1) rfl ?_
    refine st_go 4 (pc' := 19) (lo' := [(2, .int 2), (0, .ref 15), (1, .int x1)]) (st' := [.int 5, .int (x1 >>> ((8 : Int32) &&& 31))]) rfl ?_
    by_cases hc_10 : (x1 >>> ((8 : Int32) &&& 31)) < 5
    · have h := Eq.mp (if_pos hc_10) h
      refine st_icmp (t := 24) (b := true) rfl (decide_eq_true hc_10) rfl ?_
      refine vmWp.sub (lo' := [(0, .ref 15), (1, .int x1), (2, .int 2)]) ⟨rfl, rfl, rfl, trivial⟩ ?_
      exact tShapes_size_24 hQ x1 2 d h
    · have h := Eq.mp (if_neg hc_10) h
      refine st_icmp (t := 22) (b := false) rfl (decide_eq_false hc_10) rfl ?_
      refine st_go 2 (pc' := 24) (lo' := [(2, .int 3), (0, .ref 15), (1, .int x1)]) (st' := []) rfl ?_
      refine vmWp.sub (lo' := [(0, .ref 15), (1, .int x1), (2, .int 3)]) ⟨rfl, rfl, rfl, trivial⟩ ?_
      exact tShapes_size_24 hQ x1 3 d h
set_option maxRecDepth 100000 in
def Operands_count (d : vmD) (Q : Int32 → vmD → Prop) : Prop :=
  Q (gF d 33 8) d
set_option maxRecDepth 100000 in
set_option maxHeartbeats 4000000 in
theorem tOperands_count {L : Nat} {e : vmD} {Qo : Option Value → vmW → Prop} {Q : Int32 → vmD → Prop} (hQ : ∀ r d, Q r d → Qo (some (.int r)) (wC L d e)) (d : vmD) (h : Operands_count d Q) : vmWp 155 0 [(0, .ref 33)] [] (wC L d e) Qo := by
  unfold Operands_count at h
  refine st_go 2 (pc' := 4) (lo' := [(0, .ref 33)]) (st' := [.int (gF d 33 8)]) rfl ?_
  exact st_retI rfl rfl (hQ _ _ h)
set_option maxRecDepth 100000 in
def Operands_value (x1 : Int32) (d : vmD) (Q : Int32 → vmD → Prop) : Prop :=
  if x1 < 0 then
  (Q 0 d)
  else
  (if x1 < 2 then
  (ixOk x1 2 ∧
  bnd (gA d 35 x1.toNatClampNeg) fun y_4 =>
  Q y_4 d)
  else
  (Q 0 d))
set_option maxRecDepth 100000 in
set_option maxHeartbeats 4000000 in
theorem tOperands_value {L : Nat} {e : vmD} {Qo : Option Value → vmW → Prop} {Q : Int32 → vmD → Prop} (hQ : ∀ r d, Q r d → Qo (some (.int r)) (wC L d e)) (x1 : Int32) (d : vmD) (h : Operands_value x1 d Q) : vmWp 157 0 [(0, .ref 33), (1, .int x1)] [] (wC L d e) Qo := by
  unfold Operands_value at h
  refine st_go 1 (pc' := 1) (lo' := [(0, .ref 33), (1, .int x1)]) (st' := [.int x1]) rfl ?_
  by_cases hc_1 : x1 < 0
  · have h := Eq.mp (if_pos hc_1) h
    refine st_if (t := 18) (b := true) rfl (decide_eq_true hc_1) rfl ?_
    refine st_go 1 (pc' := 19) (lo' := [(0, .ref 33), (1, .int x1)]) (st' := [.int 0]) rfl ?_
    exact st_retI rfl rfl (hQ _ _ h)
  · have h := Eq.mp (if_neg hc_1) h
    refine st_if (t := 4) (b := false) rfl (decide_eq_false hc_1) rfl ?_
    refine st_go 2 (pc' := 6) (lo' := [(0, .ref 33), (1, .int x1)]) (st' := [.int 2, .int x1]) rfl ?_
    by_cases hc_2 : x1 < 2
    · have h := Eq.mp (if_pos hc_2) h
      refine st_icmp (t := 9) (b := false) rfl (decide_eq_false (Int32.not_le.mpr hc_2)) rfl ?_
      refine st_go 3 (pc' := 14) (lo' := [(0, .ref 33), (1, .int x1)]) (st' := [.int x1, .ref 35]) rfl ?_
      obtain ⟨hj_3, h⟩ := h
      refine st_ialdC (o := 35) rfl rfl hj_3 rfl (fun y_4 hy_y_4 => ?_)
      have h := h y_4 hy_y_4
      refine st_go 1 (pc' := 19) (lo' := [(0, .ref 33), (1, .int x1)]) (st' := [.int y_4]) rfl ?_
      exact st_retI rfl rfl (hQ _ _ h)
    · have h := Eq.mp (if_neg hc_2) h
      refine st_icmp (t := 18) (b := true) rfl (decide_eq_true (Int32.not_lt.mp hc_2)) rfl ?_
      refine st_go 1 (pc' := 19) (lo' := [(0, .ref 33), (1, .int x1)]) (st' := [.int 0]) rfl ?_
      exact st_retI rfl rfl (hQ _ _ h)
set_option maxRecDepth 100000 in
def Forger_distance (x1 : Int32) (x2 : Int32) (d : vmD) (Q : Int32 → vmD → Prop) : Prop :=
  Q (Int16.toInt32 (Int32.toInt16 ((x1 - (gF d 20 11)) - x2))) d
set_option maxRecDepth 100000 in
set_option maxHeartbeats 4000000 in
theorem tForger_distance {L : Nat} {e : vmD} {Qo : Option Value → vmW → Prop} {Q : Int32 → vmD → Prop} (hQ : ∀ r d, Q r d → Qo (some (.int r)) (wC L d e)) (x1 : Int32) (x2 : Int32) (d : vmD) (h : Forger_distance x1 x2 d Q) : vmWp 48 0 [(0, .ref 20), (1, .int x1), (2, .int x2)] [] (wC L d e) Qo := by
  unfold Forger_distance at h
  refine st_go 7 (pc' := 9) (lo' := [(0, .ref 20), (1, .int x1), (2, .int x2)]) (st' := [.int (Int16.toInt32 (Int32.toInt16 ((x1 - (gF d 20 11)) - x2)))]) rfl ?_
  exact st_retI rfl rfl (hQ _ _ h)
set_option maxRecDepth 100000 in
def Operands_known (x1 : Int32) (d : vmD) (Q : Int32 → vmD → Prop) : Prop :=
  if x1 < 0 then
  (Q 0 d)
  else
  (if x1 < 2 then
  (ixOk x1 2 ∧
  bnd (gA d 37 x1.toNatClampNeg) fun y_4 =>
  if y_4 = 0 then
  (Q 0 d)
  else
  (Q 1 d))
  else
  (Q 0 d))
set_option maxRecDepth 100000 in
set_option maxHeartbeats 4000000 in
theorem tOperands_known {L : Nat} {e : vmD} {Qo : Option Value → vmW → Prop} {Q : Int32 → vmD → Prop} (hQ : ∀ r d, Q r d → Qo (some (.int r)) (wC L d e)) (x1 : Int32) (d : vmD) (h : Operands_known x1 d Q) : vmWp 158 0 [(0, .ref 33), (1, .int x1)] [] (wC L d e) Qo := by
  unfold Operands_known at h
  refine st_go 1 (pc' := 1) (lo' := [(0, .ref 33), (1, .int x1)]) (st' := [.int x1]) rfl ?_
  by_cases hc_1 : x1 < 0
  · have h := Eq.mp (if_pos hc_1) h
    refine st_if (t := 22) (b := true) rfl (decide_eq_true hc_1) rfl ?_
    refine st_go 1 (pc' := 23) (lo' := [(0, .ref 33), (1, .int x1)]) (st' := [.int 0]) rfl ?_
    exact st_retZ rfl rfl (Or.inl rfl) (hQ _ _ h)
  · have h := Eq.mp (if_neg hc_1) h
    refine st_if (t := 4) (b := false) rfl (decide_eq_false hc_1) rfl ?_
    refine st_go 2 (pc' := 6) (lo' := [(0, .ref 33), (1, .int x1)]) (st' := [.int 2, .int x1]) rfl ?_
    by_cases hc_2 : x1 < 2
    · have h := Eq.mp (if_pos hc_2) h
      refine st_icmp (t := 9) (b := false) rfl (decide_eq_false (Int32.not_le.mpr hc_2)) rfl ?_
      refine st_go 3 (pc' := 14) (lo' := [(0, .ref 33), (1, .int x1)]) (st' := [.int x1, .ref 37]) rfl ?_
      obtain ⟨hj_3, h⟩ := h
      refine st_zaldC (o := 37) rfl rfl hj_3 rfl (fun y_4 hy_y_4 => ?_)
      have h := h y_4 hy_y_4
      by_cases hc_5 : y_4 = 0
      · have h := Eq.mp (if_pos hc_5) h
        refine st_if (t := 22) (b := true) rfl (decide_eq_true hc_5) rfl ?_
        refine st_go 1 (pc' := 23) (lo' := [(0, .ref 33), (1, .int x1)]) (st' := [.int 0]) rfl ?_
        exact st_retZ rfl rfl (Or.inl rfl) (hQ _ _ h)
      · have h := Eq.mp (if_neg hc_5) h
        refine st_if (t := 18) (b := false) rfl (decide_eq_false hc_5) rfl ?_
        refine st_go 2 (pc' := 23) (lo' := [(0, .ref 33), (1, .int x1)]) (st' := [.int 1]) rfl ?_
        exact st_retZ rfl rfl (Or.inr rfl) (hQ _ _ h)
    · have h := Eq.mp (if_neg hc_2) h
      refine st_icmp (t := 22) (b := true) rfl (decide_eq_true (Int32.not_lt.mp hc_2)) rfl ?_
      refine st_go 1 (pc' := 23) (lo' := [(0, .ref 33), (1, .int x1)]) (st' := [.int 0]) rfl ?_
      exact st_retZ rfl rfl (Or.inl rfl) (hQ _ _ h)
set_option maxRecDepth 100000 in
def Forger_fits (x0 : Int32) (x1 : Int32) (d : vmD) (Q : Int32 → vmD → Prop) : Prop :=
  if x0 = 32 then
  (if x1 < (-128) then
  (Q 0 d)
  else
  (if (127 : Int32) < x1 then
  (Q 0 d)
  else
  (Q 1 d)))
  else
  if x0 = 33 then
  (if x1 < (-128) then
  (Q 0 d)
  else
  (if (127 : Int32) < x1 then
  (Q 0 d)
  else
  (Q 1 d)))
  else
  if x0 = 36 then
  (if x1 < (-128) then
  (Q 0 d)
  else
  (if (255 : Int32) < x1 then
  (Q 0 d)
  else
  (Q 1 d)))
  else
  if x0 = 37 then
  (if x1 < (-32768) then
  (Q 0 d)
  else
  (if (65535 : Int32) < x1 then
  (Q 0 d)
  else
  (Q 1 d)))
  else
  if x0 = 38 then
  (if x1 < (-128) then
  (Q 0 d)
  else
  (if (127 : Int32) < x1 then
  (Q 0 d)
  else
  (Q 1 d)))
  else
  if x0 = 39 then
  (if x1 < 0 then
  (Q 0 d)
  else
  (if (7 : Int32) < x1 then
  (Q 0 d)
  else
  (Q 1 d)))
  else
  if x0 = 40 then
  (if x1 < 0 then
  (Q 0 d)
  else
  (if (56 : Int32) < x1 then
  (Q 0 d)
  else
  (if (x1 &&& 7) = 0 then
  (Q 1 d)
  else
  (Q 0 d))))
  else
  if x0 = 41 then
  (if x1 < 0 then
  (Q 0 d)
  else
  (if (2 : Int32) < x1 then
  (Q 0 d)
  else
  (Q 1 d)))
  else
  if x0 = 42 then
  (if x1 < (-128) then
  (Q 0 d)
  else
  (if (255 : Int32) < x1 then
  (Q 0 d)
  else
  (Q 1 d)))
  else
  if x0 = 43 then
  (if x1 < (-32768) then
  (Q 0 d)
  else
  (if (65535 : Int32) < x1 then
  (Q 0 d)
  else
  (Q 1 d)))
  else
  (Q 1 d)
set_option maxRecDepth 100000 in
set_option maxHeartbeats 4000000 in
theorem tForger_fits {L : Nat} {e : vmD} {Qo : Option Value → vmW → Prop} {Q : Int32 → vmD → Prop} (hQ : ∀ r d, Q r d → Qo (some (.int r)) (wC L d e)) (x0 : Int32) (x1 : Int32) (d : vmD) (h : Forger_fits x0 x1 d Q) : vmWp 49 0 [(0, .int x0), (1, .int x1)] [] (wC L d e) Qo := by
  unfold Forger_fits at h
  refine st_go 1 (pc' := 1) (lo' := [(0, .int x0), (1, .int x1)]) (st' := [.int x0]) rfl ?_
  by_cases hc_1 : x0 = 32
  · have h := Eq.mp (if_pos hc_1) h
    refine st_tab (t := 102) rfl (by rw [hc_1]; rfl) ?_
    refine st_go 2 (pc' := 105) (lo' := [(0, .int x0), (1, .int x1)]) (st' := [.int (-128), .int x1]) rfl ?_
    by_cases hc_2 : x1 < (-128)
    · have h := Eq.mp (if_pos hc_2) h
      refine st_icmp (t := 118) (b := true) rfl (decide_eq_true hc_2) rfl ?_
      refine st_go 1 (pc' := 119) (lo' := [(0, .int x0), (1, .int x1)]) (st' := [.int 0]) rfl ?_
      exact st_retZ rfl rfl (Or.inl rfl) (hQ _ _ h)
    · have h := Eq.mp (if_neg hc_2) h
      refine st_icmp (t := 108) (b := false) rfl (decide_eq_false hc_2) rfl ?_
      refine st_go 2 (pc' := 111) (lo' := [(0, .int x0), (1, .int x1)]) (st' := [.int 127, .int x1]) rfl ?_
      by_cases hc_3 : (127 : Int32) < x1
      · have h := Eq.mp (if_pos hc_3) h
        refine st_icmp (t := 118) (b := true) rfl (decide_eq_true hc_3) rfl ?_
        refine st_go 1 (pc' := 119) (lo' := [(0, .int x0), (1, .int x1)]) (st' := [.int 0]) rfl ?_
        exact st_retZ rfl rfl (Or.inl rfl) (hQ _ _ h)
      · have h := Eq.mp (if_neg hc_3) h
        refine st_icmp (t := 114) (b := false) rfl (decide_eq_false hc_3) rfl ?_
        refine st_go 2 (pc' := 119) (lo' := [(0, .int x0), (1, .int x1)]) (st' := [.int 1]) rfl ?_
        exact st_retZ rfl rfl (Or.inr rfl) (hQ _ _ h)
  · have h := Eq.mp (if_neg hc_1) h
    by_cases hc_4 : x0 = 33
    · have h := Eq.mp (if_pos hc_4) h
      refine st_tab (t := 102) rfl (by rw [hc_4]; rfl) ?_
      refine st_go 2 (pc' := 105) (lo' := [(0, .int x0), (1, .int x1)]) (st' := [.int (-128), .int x1]) rfl ?_
      by_cases hc_5 : x1 < (-128)
      · have h := Eq.mp (if_pos hc_5) h
        refine st_icmp (t := 118) (b := true) rfl (decide_eq_true hc_5) rfl ?_
        refine st_go 1 (pc' := 119) (lo' := [(0, .int x0), (1, .int x1)]) (st' := [.int 0]) rfl ?_
        exact st_retZ rfl rfl (Or.inl rfl) (hQ _ _ h)
      · have h := Eq.mp (if_neg hc_5) h
        refine st_icmp (t := 108) (b := false) rfl (decide_eq_false hc_5) rfl ?_
        refine st_go 2 (pc' := 111) (lo' := [(0, .int x0), (1, .int x1)]) (st' := [.int 127, .int x1]) rfl ?_
        by_cases hc_6 : (127 : Int32) < x1
        · have h := Eq.mp (if_pos hc_6) h
          refine st_icmp (t := 118) (b := true) rfl (decide_eq_true hc_6) rfl ?_
          refine st_go 1 (pc' := 119) (lo' := [(0, .int x0), (1, .int x1)]) (st' := [.int 0]) rfl ?_
          exact st_retZ rfl rfl (Or.inl rfl) (hQ _ _ h)
        · have h := Eq.mp (if_neg hc_6) h
          refine st_icmp (t := 114) (b := false) rfl (decide_eq_false hc_6) rfl ?_
          refine st_go 2 (pc' := 119) (lo' := [(0, .int x0), (1, .int x1)]) (st' := [.int 1]) rfl ?_
          exact st_retZ rfl rfl (Or.inr rfl) (hQ _ _ h)
    · have h := Eq.mp (if_neg hc_4) h
      by_cases hc_7 : x0 = 36
      · have h := Eq.mp (if_pos hc_7) h
        refine st_tab (t := 64) rfl (by rw [hc_7]; rfl) ?_
        refine st_go 2 (pc' := 67) (lo' := [(0, .int x0), (1, .int x1)]) (st' := [.int (-128), .int x1]) rfl ?_
        by_cases hc_8 : x1 < (-128)
        · have h := Eq.mp (if_pos hc_8) h
          refine st_icmp (t := 81) (b := true) rfl (decide_eq_true hc_8) rfl ?_
          refine st_go 1 (pc' := 82) (lo' := [(0, .int x0), (1, .int x1)]) (st' := [.int 0]) rfl ?_
          exact st_retZ rfl rfl (Or.inl rfl) (hQ _ _ h)
        · have h := Eq.mp (if_neg hc_8) h
          refine st_icmp (t := 70) (b := false) rfl (decide_eq_false hc_8) rfl ?_
          refine st_go 2 (pc' := 74) (lo' := [(0, .int x0), (1, .int x1)]) (st' := [.int 255, .int x1]) rfl ?_
          by_cases hc_9 : (255 : Int32) < x1
          · have h := Eq.mp (if_pos hc_9) h
            refine st_icmp (t := 81) (b := true) rfl (decide_eq_true hc_9) rfl ?_
            refine st_go 1 (pc' := 82) (lo' := [(0, .int x0), (1, .int x1)]) (st' := [.int 0]) rfl ?_
            exact st_retZ rfl rfl (Or.inl rfl) (hQ _ _ h)
          · have h := Eq.mp (if_neg hc_9) h
            refine st_icmp (t := 77) (b := false) rfl (decide_eq_false hc_9) rfl ?_
            refine st_go 2 (pc' := 82) (lo' := [(0, .int x0), (1, .int x1)]) (st' := [.int 1]) rfl ?_
            exact st_retZ rfl rfl (Or.inr rfl) (hQ _ _ h)
      · have h := Eq.mp (if_neg hc_7) h
        by_cases hc_10 : x0 = 37
        · have h := Eq.mp (if_pos hc_10) h
          refine st_tab (t := 83) rfl (by rw [hc_10]; rfl) ?_
          refine st_go 2 (pc' := 87) (lo' := [(0, .int x0), (1, .int x1)]) (st' := [.int (-32768), .int x1]) rfl ?_
          by_cases hc_11 : x1 < (-32768)
          · have h := Eq.mp (if_pos hc_11) h
            refine st_icmp (t := 100) (b := true) rfl (decide_eq_true hc_11) rfl ?_
            refine st_go 1 (pc' := 101) (lo' := [(0, .int x0), (1, .int x1)]) (st' := [.int 0]) rfl ?_
            exact st_retZ rfl rfl (Or.inl rfl) (hQ _ _ h)
          · have h := Eq.mp (if_neg hc_11) h
            refine st_icmp (t := 90) (b := false) rfl (decide_eq_false hc_11) rfl ?_
            refine st_go 2 (pc' := 93) (lo' := [(0, .int x0), (1, .int x1)]) (st' := [.int 65535, .int x1]) rfl ?_
            by_cases hc_12 : (65535 : Int32) < x1
            · have h := Eq.mp (if_pos hc_12) h
              refine st_icmp (t := 100) (b := true) rfl (decide_eq_true hc_12) rfl ?_
              refine st_go 1 (pc' := 101) (lo' := [(0, .int x0), (1, .int x1)]) (st' := [.int 0]) rfl ?_
              exact st_retZ rfl rfl (Or.inl rfl) (hQ _ _ h)
            · have h := Eq.mp (if_neg hc_12) h
              refine st_icmp (t := 96) (b := false) rfl (decide_eq_false hc_12) rfl ?_
              refine st_go 2 (pc' := 101) (lo' := [(0, .int x0), (1, .int x1)]) (st' := [.int 1]) rfl ?_
              exact st_retZ rfl rfl (Or.inr rfl) (hQ _ _ h)
        · have h := Eq.mp (if_neg hc_10) h
          by_cases hc_13 : x0 = 38
          · have h := Eq.mp (if_pos hc_13) h
            refine st_tab (t := 102) rfl (by rw [hc_13]; rfl) ?_
            refine st_go 2 (pc' := 105) (lo' := [(0, .int x0), (1, .int x1)]) (st' := [.int (-128), .int x1]) rfl ?_
            by_cases hc_14 : x1 < (-128)
            · have h := Eq.mp (if_pos hc_14) h
              refine st_icmp (t := 118) (b := true) rfl (decide_eq_true hc_14) rfl ?_
              refine st_go 1 (pc' := 119) (lo' := [(0, .int x0), (1, .int x1)]) (st' := [.int 0]) rfl ?_
              exact st_retZ rfl rfl (Or.inl rfl) (hQ _ _ h)
            · have h := Eq.mp (if_neg hc_14) h
              refine st_icmp (t := 108) (b := false) rfl (decide_eq_false hc_14) rfl ?_
              refine st_go 2 (pc' := 111) (lo' := [(0, .int x0), (1, .int x1)]) (st' := [.int 127, .int x1]) rfl ?_
              by_cases hc_15 : (127 : Int32) < x1
              · have h := Eq.mp (if_pos hc_15) h
                refine st_icmp (t := 118) (b := true) rfl (decide_eq_true hc_15) rfl ?_
                refine st_go 1 (pc' := 119) (lo' := [(0, .int x0), (1, .int x1)]) (st' := [.int 0]) rfl ?_
                exact st_retZ rfl rfl (Or.inl rfl) (hQ _ _ h)
              · have h := Eq.mp (if_neg hc_15) h
                refine st_icmp (t := 114) (b := false) rfl (decide_eq_false hc_15) rfl ?_
                refine st_go 2 (pc' := 119) (lo' := [(0, .int x0), (1, .int x1)]) (st' := [.int 1]) rfl ?_
                exact st_retZ rfl rfl (Or.inr rfl) (hQ _ _ h)
          · have h := Eq.mp (if_neg hc_13) h
            by_cases hc_16 : x0 = 39
            · have h := Eq.mp (if_pos hc_16) h
              refine st_tab (t := 120) rfl (by rw [hc_16]; rfl) ?_
              refine st_go 1 (pc' := 121) (lo' := [(0, .int x0), (1, .int x1)]) (st' := [.int x1]) rfl ?_
              by_cases hc_17 : x1 < 0
              · have h := Eq.mp (if_pos hc_17) h
                refine st_if (t := 134) (b := true) rfl (decide_eq_true hc_17) rfl ?_
                refine st_go 1 (pc' := 135) (lo' := [(0, .int x0), (1, .int x1)]) (st' := [.int 0]) rfl ?_
                exact st_retZ rfl rfl (Or.inl rfl) (hQ _ _ h)
              · have h := Eq.mp (if_neg hc_17) h
                refine st_if (t := 124) (b := false) rfl (decide_eq_false hc_17) rfl ?_
                refine st_go 2 (pc' := 127) (lo' := [(0, .int x0), (1, .int x1)]) (st' := [.int 7, .int x1]) rfl ?_
                by_cases hc_18 : (7 : Int32) < x1
                · have h := Eq.mp (if_pos hc_18) h
                  refine st_icmp (t := 134) (b := true) rfl (decide_eq_true hc_18) rfl ?_
                  refine st_go 1 (pc' := 135) (lo' := [(0, .int x0), (1, .int x1)]) (st' := [.int 0]) rfl ?_
                  exact st_retZ rfl rfl (Or.inl rfl) (hQ _ _ h)
                · have h := Eq.mp (if_neg hc_18) h
                  refine st_icmp (t := 130) (b := false) rfl (decide_eq_false hc_18) rfl ?_
                  refine st_go 2 (pc' := 135) (lo' := [(0, .int x0), (1, .int x1)]) (st' := [.int 1]) rfl ?_
                  exact st_retZ rfl rfl (Or.inr rfl) (hQ _ _ h)
            · have h := Eq.mp (if_neg hc_16) h
              by_cases hc_19 : x0 = 40
              · have h := Eq.mp (if_pos hc_19) h
                refine st_tab (t := 151) rfl (by rw [hc_19]; rfl) ?_
                refine st_go 1 (pc' := 152) (lo' := [(0, .int x0), (1, .int x1)]) (st' := [.int x1]) rfl ?_
                by_cases hc_20 : x1 < 0
                · have h := Eq.mp (if_pos hc_20) h
                  refine st_if (t := 172) (b := true) rfl (decide_eq_true hc_20) rfl ?_
                  refine st_go 1 (pc' := 173) (lo' := [(0, .int x0), (1, .int x1)]) (st' := [.int 0]) rfl ?_
                  exact st_retZ rfl rfl (Or.inl rfl) (hQ _ _ h)
                · have h := Eq.mp (if_neg hc_20) h
                  refine st_if (t := 155) (b := false) rfl (decide_eq_false hc_20) rfl ?_
                  refine st_go 2 (pc' := 158) (lo' := [(0, .int x0), (1, .int x1)]) (st' := [.int 56, .int x1]) rfl ?_
                  by_cases hc_21 : (56 : Int32) < x1
                  · have h := Eq.mp (if_pos hc_21) h
                    refine st_icmp (t := 172) (b := true) rfl (decide_eq_true hc_21) rfl ?_
                    refine st_go 1 (pc' := 173) (lo' := [(0, .int x0), (1, .int x1)]) (st' := [.int 0]) rfl ?_
                    exact st_retZ rfl rfl (Or.inl rfl) (hQ _ _ h)
                  · have h := Eq.mp (if_neg hc_21) h
                    refine st_icmp (t := 161) (b := false) rfl (decide_eq_false hc_21) rfl ?_
                    refine st_go 3 (pc' := 165) (lo' := [(0, .int x0), (1, .int x1)]) (st' := [.int (x1 &&& 7)]) rfl ?_
                    by_cases hc_22 : (x1 &&& 7) = 0
                    · have h := Eq.mp (if_pos hc_22) h
                      refine st_if (t := 168) (b := false) rfl (decide_eq_false (fun z => z hc_22)) rfl ?_
                      refine st_go 2 (pc' := 173) (lo' := [(0, .int x0), (1, .int x1)]) (st' := [.int 1]) rfl ?_
                      exact st_retZ rfl rfl (Or.inr rfl) (hQ _ _ h)
                    · have h := Eq.mp (if_neg hc_22) h
                      refine st_if (t := 172) (b := true) rfl (decide_eq_true hc_22) rfl ?_
                      refine st_go 1 (pc' := 173) (lo' := [(0, .int x0), (1, .int x1)]) (st' := [.int 0]) rfl ?_
                      exact st_retZ rfl rfl (Or.inl rfl) (hQ _ _ h)
              · have h := Eq.mp (if_neg hc_19) h
                by_cases hc_23 : x0 = 41
                · have h := Eq.mp (if_pos hc_23) h
                  refine st_tab (t := 136) rfl (by rw [hc_23]; rfl) ?_
                  refine st_go 1 (pc' := 137) (lo' := [(0, .int x0), (1, .int x1)]) (st' := [.int x1]) rfl ?_
                  by_cases hc_24 : x1 < 0
                  · have h := Eq.mp (if_pos hc_24) h
                    refine st_if (t := 149) (b := true) rfl (decide_eq_true hc_24) rfl ?_
                    refine st_go 1 (pc' := 150) (lo' := [(0, .int x0), (1, .int x1)]) (st' := [.int 0]) rfl ?_
                    exact st_retZ rfl rfl (Or.inl rfl) (hQ _ _ h)
                  · have h := Eq.mp (if_neg hc_24) h
                    refine st_if (t := 140) (b := false) rfl (decide_eq_false hc_24) rfl ?_
                    refine st_go 2 (pc' := 142) (lo' := [(0, .int x0), (1, .int x1)]) (st' := [.int 2, .int x1]) rfl ?_
                    by_cases hc_25 : (2 : Int32) < x1
                    · have h := Eq.mp (if_pos hc_25) h
                      refine st_icmp (t := 149) (b := true) rfl (decide_eq_true hc_25) rfl ?_
                      refine st_go 1 (pc' := 150) (lo' := [(0, .int x0), (1, .int x1)]) (st' := [.int 0]) rfl ?_
                      exact st_retZ rfl rfl (Or.inl rfl) (hQ _ _ h)
                    · have h := Eq.mp (if_neg hc_25) h
                      refine st_icmp (t := 145) (b := false) rfl (decide_eq_false hc_25) rfl ?_
                      refine st_go 2 (pc' := 150) (lo' := [(0, .int x0), (1, .int x1)]) (st' := [.int 1]) rfl ?_
                      exact st_retZ rfl rfl (Or.inr rfl) (hQ _ _ h)
                · have h := Eq.mp (if_neg hc_23) h
                  by_cases hc_26 : x0 = 42
                  · have h := Eq.mp (if_pos hc_26) h
                    refine st_tab (t := 64) rfl (by rw [hc_26]; rfl) ?_
                    refine st_go 2 (pc' := 67) (lo' := [(0, .int x0), (1, .int x1)]) (st' := [.int (-128), .int x1]) rfl ?_
                    by_cases hc_27 : x1 < (-128)
                    · have h := Eq.mp (if_pos hc_27) h
                      refine st_icmp (t := 81) (b := true) rfl (decide_eq_true hc_27) rfl ?_
                      refine st_go 1 (pc' := 82) (lo' := [(0, .int x0), (1, .int x1)]) (st' := [.int 0]) rfl ?_
                      exact st_retZ rfl rfl (Or.inl rfl) (hQ _ _ h)
                    · have h := Eq.mp (if_neg hc_27) h
                      refine st_icmp (t := 70) (b := false) rfl (decide_eq_false hc_27) rfl ?_
                      refine st_go 2 (pc' := 74) (lo' := [(0, .int x0), (1, .int x1)]) (st' := [.int 255, .int x1]) rfl ?_
                      by_cases hc_28 : (255 : Int32) < x1
                      · have h := Eq.mp (if_pos hc_28) h
                        refine st_icmp (t := 81) (b := true) rfl (decide_eq_true hc_28) rfl ?_
                        refine st_go 1 (pc' := 82) (lo' := [(0, .int x0), (1, .int x1)]) (st' := [.int 0]) rfl ?_
                        exact st_retZ rfl rfl (Or.inl rfl) (hQ _ _ h)
                      · have h := Eq.mp (if_neg hc_28) h
                        refine st_icmp (t := 77) (b := false) rfl (decide_eq_false hc_28) rfl ?_
                        refine st_go 2 (pc' := 82) (lo' := [(0, .int x0), (1, .int x1)]) (st' := [.int 1]) rfl ?_
                        exact st_retZ rfl rfl (Or.inr rfl) (hQ _ _ h)
                  · have h := Eq.mp (if_neg hc_26) h
                    by_cases hc_29 : x0 = 43
                    · have h := Eq.mp (if_pos hc_29) h
                      refine st_tab (t := 83) rfl (by rw [hc_29]; rfl) ?_
                      refine st_go 2 (pc' := 87) (lo' := [(0, .int x0), (1, .int x1)]) (st' := [.int (-32768), .int x1]) rfl ?_
                      by_cases hc_30 : x1 < (-32768)
                      · have h := Eq.mp (if_pos hc_30) h
                        refine st_icmp (t := 100) (b := true) rfl (decide_eq_true hc_30) rfl ?_
                        refine st_go 1 (pc' := 101) (lo' := [(0, .int x0), (1, .int x1)]) (st' := [.int 0]) rfl ?_
                        exact st_retZ rfl rfl (Or.inl rfl) (hQ _ _ h)
                      · have h := Eq.mp (if_neg hc_30) h
                        refine st_icmp (t := 90) (b := false) rfl (decide_eq_false hc_30) rfl ?_
                        refine st_go 2 (pc' := 93) (lo' := [(0, .int x0), (1, .int x1)]) (st' := [.int 65535, .int x1]) rfl ?_
                        by_cases hc_31 : (65535 : Int32) < x1
                        · have h := Eq.mp (if_pos hc_31) h
                          refine st_icmp (t := 100) (b := true) rfl (decide_eq_true hc_31) rfl ?_
                          refine st_go 1 (pc' := 101) (lo' := [(0, .int x0), (1, .int x1)]) (st' := [.int 0]) rfl ?_
                          exact st_retZ rfl rfl (Or.inl rfl) (hQ _ _ h)
                        · have h := Eq.mp (if_neg hc_31) h
                          refine st_icmp (t := 96) (b := false) rfl (decide_eq_false hc_31) rfl ?_
                          refine st_go 2 (pc' := 101) (lo' := [(0, .int x0), (1, .int x1)]) (st' := [.int 1]) rfl ?_
                          exact st_retZ rfl rfl (Or.inr rfl) (hQ _ _ h)
                    · have h := Eq.mp (if_neg hc_29) h
                      refine st_tab (t := 174) rfl (tab_def rfl (by decide) rfl (by
                        intro j hj hx
                        have hj : j < 12 := hj
                        rcases (j = 0 ∨ j = 1 ∨ j = 2 ∨ j = 3 ∨ j = 4 ∨ j = 5 ∨ j = 6 ∨ j = 7 ∨ j = 8 ∨ j = 9 ∨ j = 10 ∨ j = 11 : Prop) |> fun _ => (show j = 0 ∨ j = 1 ∨ j = 2 ∨ j = 3 ∨ j = 4 ∨ j = 5 ∨ j = 6 ∨ j = 7 ∨ j = 8 ∨ j = 9 ∨ j = 10 ∨ j = 11 by omega) with rfl | rfl | rfl | rfl | rfl | rfl | rfl | rfl | rfl | rfl | rfl | rfl <;> first | rfl | exact absurd hx hc_1 | exact absurd hx hc_4 | exact absurd hx hc_7 | exact absurd hx hc_10 | exact absurd hx hc_13 | exact absurd hx hc_16 | exact absurd hx hc_19 | exact absurd hx hc_23 | exact absurd hx hc_26 | exact absurd hx hc_29)) ?_
                      refine st_go 1 (pc' := 175) (lo' := [(0, .int x0), (1, .int x1)]) (st' := [.int 1]) rfl ?_
                      exact st_retZ rfl rfl (Or.inr rfl) (hQ _ _ h)
set_option maxRecDepth 100000 in
def Operands_place (x1 : Int32) (d : vmD) (Q : Int32 → vmD → Prop) : Prop :=
  if x1 < 0 then
  (Q 0 d)
  else
  (if x1 < 2 then
  (ixOk x1 2 ∧
  bnd (gA d 36 x1.toNatClampNeg) fun y_4 =>
  Q y_4 d)
  else
  (Q 0 d))
set_option maxRecDepth 100000 in
set_option maxHeartbeats 4000000 in
theorem tOperands_place {L : Nat} {e : vmD} {Qo : Option Value → vmW → Prop} {Q : Int32 → vmD → Prop} (hQ : ∀ r d, Q r d → Qo (some (.int r)) (wC L d e)) (x1 : Int32) (d : vmD) (h : Operands_place x1 d Q) : vmWp 159 0 [(0, .ref 33), (1, .int x1)] [] (wC L d e) Qo := by
  unfold Operands_place at h
  refine st_go 1 (pc' := 1) (lo' := [(0, .ref 33), (1, .int x1)]) (st' := [.int x1]) rfl ?_
  by_cases hc_1 : x1 < 0
  · have h := Eq.mp (if_pos hc_1) h
    refine st_if (t := 18) (b := true) rfl (decide_eq_true hc_1) rfl ?_
    refine st_go 1 (pc' := 19) (lo' := [(0, .ref 33), (1, .int x1)]) (st' := [.int 0]) rfl ?_
    exact st_retI rfl rfl (hQ _ _ h)
  · have h := Eq.mp (if_neg hc_1) h
    refine st_if (t := 4) (b := false) rfl (decide_eq_false hc_1) rfl ?_
    refine st_go 2 (pc' := 6) (lo' := [(0, .ref 33), (1, .int x1)]) (st' := [.int 2, .int x1]) rfl ?_
    by_cases hc_2 : x1 < 2
    · have h := Eq.mp (if_pos hc_2) h
      refine st_icmp (t := 9) (b := false) rfl (decide_eq_false (Int32.not_le.mpr hc_2)) rfl ?_
      refine st_go 3 (pc' := 14) (lo' := [(0, .ref 33), (1, .int x1)]) (st' := [.int x1, .ref 36]) rfl ?_
      obtain ⟨hj_3, h⟩ := h
      refine st_ialdC (o := 36) rfl rfl hj_3 rfl (fun y_4 hy_y_4 => ?_)
      have h := h y_4 hy_y_4
      refine st_go 1 (pc' := 19) (lo' := [(0, .ref 33), (1, .int x1)]) (st' := [.int y_4]) rfl ?_
      exact st_retI rfl rfl (hQ _ _ h)
    · have h := Eq.mp (if_neg hc_2) h
      refine st_icmp (t := 18) (b := true) rfl (decide_eq_true (Int32.not_lt.mp hc_2)) rfl ?_
      refine st_go 1 (pc' := 19) (lo' := [(0, .ref 33), (1, .int x1)]) (st' := [.int 0]) rfl ?_
      exact st_retI rfl rfl (hQ _ _ h)
set_option maxRecDepth 100000 in
def Forger_checkOperands_87 (b2 : Int32 → Int32 → Int32 → vmD → Prop) (x1 : Int32) (x2 : Int32) (x3 : Int32) (d : vmD) (Q : vmD → Prop) : Prop :=
  bnd (x3 + 1) fun x3_14 =>
  b2 x1 x2 x3_14 d
set_option maxRecDepth 100000 in
set_option maxHeartbeats 4000000 in
theorem tForger_checkOperands_87 {L : Nat} {e : vmD} {Qo : Option Value → vmW → Prop} {b2 : Int32 → Int32 → Int32 → vmD → Prop} {Q : vmD → Prop} (hb2 : ∀ x1 x2 x3 d, b2 x1 x2 x3 d → vmWp 47 2 [(0, .ref 20), (1, .int x1), (2, .int x2), (3, .int x3)] [] (wC L d e) Qo) (hQ : ∀ d, Q d → Qo none (wC L d e)) (x1 : Int32) (x2 : Int32) (x3 : Int32) (d : vmD) (h : Forger_checkOperands_87 b2 x1 x2 x3 d Q) : vmWp 47 87 [(0, .ref 20), (1, .int x1), (2, .int x2), (3, .int x3)] [] (wC L d e) Qo := by
  unfold Forger_checkOperands_87 at h
  refine st_go 1 (pc' := 90) (lo' := [(3, .int (x3 + 1)), (0, .ref 20), (1, .int x1), (2, .int x2)]) (st' := []) rfl ?_
  refine st_locI (fun x3_14 hy_x3_14 => ?_)
  have h := h x3_14 hy_x3_14
  refine st_go 1 (pc' := 2) (lo' := [(3, .int x3_14), (0, .ref 20), (1, .int x1), (2, .int x2)]) (st' := []) rfl ?_
  refine vmWp.sub (lo' := [(0, .ref 20), (1, .int x1), (2, .int x2), (3, .int x3_14)]) ⟨rfl, rfl, rfl, rfl, trivial⟩ ?_
  exact hb2 x1 x2 x3_14 d h
set_option maxRecDepth 100000 in
def Forger_checkOperands_50 (b2 : Int32 → Int32 → Int32 → vmD → Prop) (x1 : Int32) (x2 : Int32) (x3 : Int32) (x4 : Int32) (x5 : Int32) (d : vmD) (Q : vmD → Prop) : Prop :=
  Operands_known x3 d fun r_12 d_11 =>
  if r_12 = 0 then
  (Forger_checkOperands_87 b2 x1 x2 x3 d_11 Q)
  else
  (Forger_fits x4 x5 d_11 fun r_16 d_15 =>
  if r_16 = 0 then
  (Operands_place x3 d_15 fun r_19 d_18 =>
  Tokens_blamePlace r_19 5 d_18 fun d_20 =>
  Forger_checkOperands_87 b2 x1 x2 x3 d_20 Q)
  else
  (Forger_checkOperands_87 b2 x1 x2 x3 d_15 Q))
set_option maxRecDepth 100000 in
set_option maxHeartbeats 4000000 in
theorem tForger_checkOperands_50 {L : Nat} {e : vmD} {Qo : Option Value → vmW → Prop} {b2 : Int32 → Int32 → Int32 → vmD → Prop} {Q : vmD → Prop} (hb2 : ∀ x1 x2 x3 d, b2 x1 x2 x3 d → vmWp 47 2 [(0, .ref 20), (1, .int x1), (2, .int x2), (3, .int x3)] [] (wC L d e) Qo) (hQ : ∀ d, Q d → Qo none (wC L d e)) (x1 : Int32) (x2 : Int32) (x3 : Int32) (x4 : Int32) (x5 : Int32) (d : vmD) (h : Forger_checkOperands_50 b2 x1 x2 x3 x4 x5 d Q) : vmWp 47 50 [(0, .ref 20), (1, .int x1), (2, .int x2), (3, .int x3), (4, .int x4), (5, .int x5)] [] (wC L d e) Qo := by
  unfold Forger_checkOperands_50 at h
  refine st_go 3 (pc' := 55) (lo' := [(0, .ref 20), (1, .int x1), (2, .int x2), (3, .int x3), (4, .int x4), (5, .int x5)]) (st' := [.int x3, .ref 33]) rfl ?_
  refine st_calli (k' := 158) (as := [.ref 33, .int x3]) (rest := []) (lo' := [(0, .ref 33), (1, .int x3)]) (wf := fun d => wC L d e) rfl rfl rfl ?_
  refine tOperands_known (fun r_12 d_11 h => ⟨r_12, d_11, rfl, rfl, ?_⟩) x3 d h
  by_cases hc_13 : r_12 = 0
  · have h := Eq.mp (if_pos hc_13) h
    refine st_if (t := 87) (b := true) rfl (decide_eq_true hc_13) rfl ?_
    refine vmWp.sub (lo' := [(0, .ref 20), (1, .int x1), (2, .int x2), (3, .int x3)]) ⟨rfl, rfl, rfl, rfl, trivial⟩ ?_
    exact tForger_checkOperands_87 hb2 hQ x1 x2 x3 d_11 h
  · have h := Eq.mp (if_neg hc_13) h
    refine st_if (t := 61) (b := false) rfl (decide_eq_false hc_13) rfl ?_
    refine st_go 2 (pc' := 65) (lo' := [(0, .ref 20), (1, .int x1), (2, .int x2), (3, .int x3), (4, .int x4), (5, .int x5)]) (st' := [.int x5, .int x4]) rfl ?_
    refine st_calli (k' := 49) (as := [.int x4, .int x5]) (rest := []) (lo' := [(0, .int x4), (1, .int x5)]) (wf := fun d => wC L d e) rfl rfl rfl ?_
    refine tForger_fits (fun r_16 d_15 h => ⟨r_16, d_15, rfl, rfl, ?_⟩) x4 x5 d_11 h
    by_cases hc_17 : r_16 = 0
    · have h := Eq.mp (if_pos hc_17) h
      refine st_if (t := 71) (b := false) rfl (decide_eq_false (fun z => z hc_17)) rfl ?_
      refine st_go 5 (pc' := 80) (lo' := [(0, .ref 20), (1, .int x1), (2, .int x2), (3, .int x3), (4, .int x4), (5, .int x5)]) (st' := [.int x3, .ref 33, .ref 24]) rfl ?_
      refine st_calli (k' := 159) (as := [.ref 33, .int x3]) (rest := [.ref 24]) (lo' := [(0, .ref 33), (1, .int x3)]) (wf := fun d => wC L d e) rfl rfl rfl ?_
      refine tOperands_place (fun r_19 d_18 h => ⟨r_19, d_18, rfl, rfl, ?_⟩) x3 d_15 h
      refine st_go 1 (pc' := 84) (lo' := [(0, .ref 20), (1, .int x1), (2, .int x2), (3, .int x3), (4, .int x4), (5, .int x5)]) (st' := [.int 5, .int r_19, .ref 24]) rfl ?_
      refine st_callv (k' := 219) (as := [.ref 24, .int r_19, .int 5]) (rest := []) (lo' := [(0, .ref 24), (1, .int r_19), (2, .int 5)]) (wf := fun d => wC L d e) rfl rfl rfl ?_
      refine tTokens_blamePlace (fun d_20 h => ⟨d_20, rfl, rfl, ?_⟩) r_19 5 d_18 h
      refine vmWp.sub (lo' := [(0, .ref 20), (1, .int x1), (2, .int x2), (3, .int x3)]) ⟨rfl, rfl, rfl, rfl, trivial⟩ ?_
      exact tForger_checkOperands_87 hb2 hQ x1 x2 x3 d_20 h
    · have h := Eq.mp (if_neg hc_17) h
      refine st_if (t := 87) (b := true) rfl (decide_eq_true hc_17) rfl ?_
      refine vmWp.sub (lo' := [(0, .ref 20), (1, .int x1), (2, .int x2), (3, .int x3)]) ⟨rfl, rfl, rfl, rfl, trivial⟩ ?_
      exact tForger_checkOperands_87 hb2 hQ x1 x2 x3 d_15 h
set_option maxRecDepth 100000 in
def Forger_checkOperands_2 (Q : vmD → Prop) : Nat → Int32 → Int32 → Int32 → vmD → Prop
  | 0, _, _, _, _ => False
  | n + 1, x1, x2, x3, d => Operands_count d fun r_2 d_1 =>
  if x3 < r_2 then
  (Shapes_kind x1 x3 d_1 fun r_5 d_4 =>
  Operands_value x3 d_4 fun r_7 d_6 =>
  if r_5 = 38 then
  (Forger_distance r_7 x2 d_6 fun r_10 d_9 =>
  Forger_checkOperands_50 (Forger_checkOperands_2 Q n) x1 x2 x3 r_5 r_10 d_9 Q)
  else
  (Forger_checkOperands_50 (Forger_checkOperands_2 Q n) x1 x2 x3 r_5 r_7 d_6 Q))
  else
  (Q d_1)
set_option maxRecDepth 100000 in
set_option maxHeartbeats 4000000 in
theorem tForger_checkOperands_2 {L : Nat} {e : vmD} {Qo : Option Value → vmW → Prop} {Q : vmD → Prop} (hQ : ∀ d, Q d → Qo none (wC L d e)) : ∀ (n : Nat) (x1 : Int32) (x2 : Int32) (x3 : Int32) (d : vmD), Forger_checkOperands_2 Q n x1 x2 x3 d → vmWp 47 2 [(0, .ref 20), (1, .int x1), (2, .int x2), (3, .int x3)] [] (wC L d e) Qo := by
  intro n
  induction n with
  | zero => intro x1 x2 x3 d h; exact h.elim
  | succ n ih =>
    intro x1 x2 x3 d h
    unfold Forger_checkOperands_2 at h
    refine st_go 3 (pc' := 7) (lo' := [(0, .ref 20), (1, .int x1), (2, .int x2), (3, .int x3)]) (st' := [.ref 33, .int x3]) rfl ?_
    refine st_calli (k' := 155) (as := [.ref 33]) (rest := [.int x3]) (lo' := [(0, .ref 33)]) (wf := fun d => wC L d e) rfl rfl rfl ?_
    refine tOperands_count (fun r_2 d_1 h => ⟨r_2, d_1, rfl, rfl, ?_⟩) d h
    by_cases hc_3 : x3 < r_2
    · have h := Eq.mp (if_pos hc_3) h
      refine st_icmp (t := 13) (b := false) rfl (decide_eq_false (Int32.not_le.mpr hc_3)) rfl ?_
      refine st_go 4 (pc' := 19) (lo' := [(0, .ref 20), (1, .int x1), (2, .int x2), (3, .int x3)]) (st' := [.int x3, .int x1, .ref 15]) rfl ?_
      refine st_calli (k' := 183) (as := [.ref 15, .int x1, .int x3]) (rest := []) (lo' := [(0, .ref 15), (1, .int x1), (2, .int x3)]) (wf := fun d => wC L d e) rfl rfl rfl ?_
      refine tShapes_kind (fun r_5 d_4 h => ⟨r_5, d_4, rfl, rfl, ?_⟩) x1 x3 d_1 h
      refine st_go 4 (pc' := 29) (lo' := [(4, .int r_5), (0, .ref 20), (1, .int x1), (2, .int x2), (3, .int x3)]) (st' := [.int x3, .ref 33]) rfl ?_
      refine st_calli (k' := 157) (as := [.ref 33, .int x3]) (rest := []) (lo' := [(0, .ref 33), (1, .int x3)]) (wf := fun d => wC L d e) rfl rfl rfl ?_
      refine tOperands_value (fun r_7 d_6 h => ⟨r_7, d_6, rfl, rfl, ?_⟩) x3 d_4 h
      refine st_go 3 (pc' := 38) (lo' := [(5, .int r_7), (4, .int r_5), (0, .ref 20), (1, .int x1), (2, .int x2), (3, .int x3)]) (st' := [.int 38, .int r_5]) rfl ?_
      by_cases hc_8 : r_5 = 38
      · have h := Eq.mp (if_pos hc_8) h
        refine st_icmp (t := 41) (b := false) rfl (decide_eq_false (fun z => z hc_8)) rfl ?_
        refine st_go 3 (pc' := 45) (lo' := [(5, .int r_7), (4, .int r_5), (0, .ref 20), (1, .int x1), (2, .int x2), (3, .int x3)]) (st' := [.int x2, .int r_7, .ref 20]) rfl ?_
        refine st_calli (k' := 48) (as := [.ref 20, .int r_7, .int x2]) (rest := []) (lo' := [(0, .ref 20), (1, .int r_7), (2, .int x2)]) (wf := fun d => wC L d e) rfl rfl rfl ?_
        refine tForger_distance (fun r_10 d_9 h => ⟨r_10, d_9, rfl, rfl, ?_⟩) r_7 x2 d_6 h
        refine st_go 1 (pc' := 50) (lo' := [(5, .int r_10), (4, .int r_5), (0, .ref 20), (1, .int x1), (2, .int x2), (3, .int x3)]) (st' := []) rfl ?_
        refine vmWp.sub (lo' := [(0, .ref 20), (1, .int x1), (2, .int x2), (3, .int x3), (4, .int r_5), (5, .int r_10)]) ⟨rfl, rfl, rfl, rfl, rfl, rfl, trivial⟩ ?_
        exact tForger_checkOperands_50 ih hQ x1 x2 x3 r_5 r_10 d_9 h
      · have h := Eq.mp (if_neg hc_8) h
        refine st_icmp (t := 50) (b := true) rfl (decide_eq_true hc_8) rfl ?_
        refine vmWp.sub (lo' := [(0, .ref 20), (1, .int x1), (2, .int x2), (3, .int x3), (4, .int r_5), (5, .int r_7)]) ⟨rfl, rfl, rfl, rfl, rfl, rfl, trivial⟩ ?_
        exact tForger_checkOperands_50 ih hQ x1 x2 x3 r_5 r_7 d_6 h
    · have h := Eq.mp (if_neg hc_3) h
      refine st_icmp (t := 93) (b := true) rfl (decide_eq_true (Int32.not_lt.mp hc_3)) rfl ?_
      exact st_retV rfl rfl (hQ _ h)
set_option maxRecDepth 100000 in
def Forger_checkOperands (x1 : Int32) (x2 : Int32) (d : vmD) (Q : vmD → Prop) : Prop :=
  ∃ m2, Forger_checkOperands_2 Q m2 x1 x2 0 d
set_option maxRecDepth 100000 in
set_option maxHeartbeats 4000000 in
theorem tForger_checkOperands {L : Nat} {e : vmD} {Qo : Option Value → vmW → Prop} {Q : vmD → Prop} (hQ : ∀ d, Q d → Qo none (wC L d e)) (x1 : Int32) (x2 : Int32) (d : vmD) (h : Forger_checkOperands x1 x2 d Q) : vmWp 47 0 [(0, .ref 20), (1, .int x1), (2, .int x2)] [] (wC L d e) Qo := by
  unfold Forger_checkOperands at h
  refine st_go 2 (pc' := 2) (lo' := [(3, .int 0), (0, .ref 20), (1, .int x1), (2, .int x2)]) (st' := []) rfl ?_
  obtain ⟨m2, h⟩ := h
  refine vmWp.sub (lo' := [(0, .ref 20), (1, .int x1), (2, .int x2), (3, .int 0)]) ⟨rfl, rfl, rfl, rfl, trivial⟩ ?_
  exact tForger_checkOperands_2 hQ m2 x1 x2 0 d h
set_option maxRecDepth 100000 in
def Forger_withinOpcode (x0 : Int32) (x1 : Int32) (d : vmD) (Q : Int32 → vmD → Prop) : Prop :=
  if x0 = 39 then
  (Q (x1 <<< ((3 : Int32) &&& 31)) d)
  else
  if x0 = 40 then
  (Q x1 d)
  else
  if x0 = 41 then
  (if x1 = 0 then
  (Q 0 d)
  else
  (Q ((x1 + 1) <<< ((3 : Int32) &&& 31)) d))
  else
  (Q 0 d)
set_option maxRecDepth 100000 in
set_option maxHeartbeats 4000000 in
theorem tForger_withinOpcode {L : Nat} {e : vmD} {Qo : Option Value → vmW → Prop} {Q : Int32 → vmD → Prop} (hQ : ∀ r d, Q r d → Qo (some (.int r)) (wC L d e)) (x0 : Int32) (x1 : Int32) (d : vmD) (h : Forger_withinOpcode x0 x1 d Q) : vmWp 52 0 [(0, .int x0), (1, .int x1)] [] (wC L d e) Qo := by
  unfold Forger_withinOpcode at h
  refine st_go 1 (pc' := 1) (lo' := [(0, .int x0), (1, .int x1)]) (st' := [.int x0]) rfl ?_
  by_cases hc_1 : x0 = 39
  · have h := Eq.mp (if_pos hc_1) h
    refine st_tab (t := 28) rfl (by rw [hc_1]; rfl) ?_
    refine st_go 3 (pc' := 31) (lo' := [(0, .int x0), (1, .int x1)]) (st' := [.int (x1 <<< ((3 : Int32) &&& 31))]) rfl ?_
    exact st_retI rfl rfl (hQ _ _ h)
  · have h := Eq.mp (if_neg hc_1) h
    by_cases hc_2 : x0 = 40
    · have h := Eq.mp (if_pos hc_2) h
      refine st_tab (t := 32) rfl (by rw [hc_2]; rfl) ?_
      refine st_go 1 (pc' := 33) (lo' := [(0, .int x0), (1, .int x1)]) (st' := [.int x1]) rfl ?_
      exact st_retI rfl rfl (hQ _ _ h)
    · have h := Eq.mp (if_neg hc_2) h
      by_cases hc_3 : x0 = 41
      · have h := Eq.mp (if_pos hc_3) h
        refine st_tab (t := 34) rfl (by rw [hc_3]; rfl) ?_
        refine st_go 1 (pc' := 35) (lo' := [(0, .int x0), (1, .int x1)]) (st' := [.int x1]) rfl ?_
        by_cases hc_4 : x1 = 0
        · have h := Eq.mp (if_pos hc_4) h
          refine st_if (t := 38) (b := false) rfl (decide_eq_false (fun z => z hc_4)) rfl ?_
          refine st_go 2 (pc' := 47) (lo' := [(0, .int x0), (1, .int x1)]) (st' := [.int 0]) rfl ?_
          exact st_retI rfl rfl (hQ _ _ h)
        · have h := Eq.mp (if_neg hc_4) h
          refine st_if (t := 42) (b := true) rfl (decide_eq_true hc_4) rfl ?_
          refine st_go 5 (pc' := 47) (lo' := [(0, .int x0), (1, .int x1)]) (st' := [.int ((x1 + 1) <<< ((3 : Int32) &&& 31))]) rfl ?_
          exact st_retI rfl rfl (hQ _ _ h)
      · have h := Eq.mp (if_neg hc_3) h
        refine st_tab (t := 48) rfl (tab_def rfl (by decide) rfl (by
          intro j hj hx
          have hj : j < 3 := hj
          rcases (j = 0 ∨ j = 1 ∨ j = 2 : Prop) |> fun _ => (show j = 0 ∨ j = 1 ∨ j = 2 by omega) with rfl | rfl | rfl <;> first | rfl | exact absurd hx hc_1 | exact absurd hx hc_2 | exact absurd hx hc_3)) ?_
        refine st_go 1 (pc' := 49) (lo' := [(0, .int x0), (1, .int x1)]) (st' := [.int 0]) rfl ?_
        exact st_retI rfl rfl (hQ _ _ h)
set_option maxRecDepth 100000 in
def Forger_leadOf (x0 : Int32) (d : vmD) (Q : Int32 → vmD → Prop) : Prop :=
  if x0 = 1 then
  (Q 203 d)
  else
  if x0 = 2 then
  (Q 237 d)
  else
  if x0 = 3 then
  (Q 221 d)
  else
  if x0 = 5 then
  (Q 221 d)
  else
  (Q 253 d)
set_option maxRecDepth 100000 in
set_option maxHeartbeats 4000000 in
theorem tForger_leadOf {L : Nat} {e : vmD} {Qo : Option Value → vmW → Prop} {Q : Int32 → vmD → Prop} (hQ : ∀ r d, Q r d → Qo (some (.int r)) (wC L d e)) (x0 : Int32) (d : vmD) (h : Forger_leadOf x0 d Q) : vmWp 51 0 [(0, .int x0)] [] (wC L d e) Qo := by
  unfold Forger_leadOf at h
  refine st_go 1 (pc' := 1) (lo' := [(0, .int x0)]) (st' := [.int x0]) rfl ?_
  by_cases hc_1 : x0 = 1
  · have h := Eq.mp (if_pos hc_1) h
    refine st_tab (t := 36) rfl (by rw [hc_1]; rfl) ?_
    refine st_go 1 (pc' := 39) (lo' := [(0, .int x0)]) (st' := [.int 203]) rfl ?_
    exact st_retI rfl rfl (hQ _ _ h)
  · have h := Eq.mp (if_neg hc_1) h
    by_cases hc_2 : x0 = 2
    · have h := Eq.mp (if_pos hc_2) h
      refine st_tab (t := 40) rfl (by rw [hc_2]; rfl) ?_
      refine st_go 1 (pc' := 43) (lo' := [(0, .int x0)]) (st' := [.int 237]) rfl ?_
      exact st_retI rfl rfl (hQ _ _ h)
    · have h := Eq.mp (if_neg hc_2) h
      by_cases hc_3 : x0 = 3
      · have h := Eq.mp (if_pos hc_3) h
        refine st_tab (t := 44) rfl (by rw [hc_3]; rfl) ?_
        refine st_go 1 (pc' := 47) (lo' := [(0, .int x0)]) (st' := [.int 221]) rfl ?_
        exact st_retI rfl rfl (hQ _ _ h)
      · have h := Eq.mp (if_neg hc_3) h
        by_cases hc_4 : x0 = 5
        · have h := Eq.mp (if_pos hc_4) h
          refine st_tab (t := 44) rfl (by rw [hc_4]; rfl) ?_
          refine st_go 1 (pc' := 47) (lo' := [(0, .int x0)]) (st' := [.int 221]) rfl ?_
          exact st_retI rfl rfl (hQ _ _ h)
        · have h := Eq.mp (if_neg hc_4) h
          refine st_tab (t := 48) rfl (tab_def rfl (by decide) rfl (by
            intro j hj hx
            have hj : j < 5 := hj
            rcases (j = 0 ∨ j = 1 ∨ j = 2 ∨ j = 3 ∨ j = 4 : Prop) |> fun _ => (show j = 0 ∨ j = 1 ∨ j = 2 ∨ j = 3 ∨ j = 4 by omega) with rfl | rfl | rfl | rfl | rfl <;> first | rfl | exact absurd hx hc_1 | exact absurd hx hc_2 | exact absurd hx hc_3 | exact absurd hx hc_4)) ?_
          refine st_go 1 (pc' := 51) (lo' := [(0, .int x0)]) (st' := [.int 253]) rfl ?_
          exact st_retI rfl rfl (hQ _ _ h)
set_option maxRecDepth 100000 in
def Forger_putInstruction_214 (b139 : Int32 → Int32 → Int32 → Int32 → Int32 → vmD → Prop) (x1 : Int32) (x2 : Int32) (x4 : Int32) (x5 : Int32) (x6 : Int32) (x8 : Int32) (s0 : Int32) (s1 : Int32) (s2 : Int32) (d : vmD) (Q : vmD → Prop) : Prop :=
  Forger_putNumber s2 s1 s0 d fun d_27 =>
  bnd (x4 + x8) fun x4_28 =>
  bnd (x6 + 1) fun x6_29 =>
  b139 x1 x2 x4_28 x5 x6_29 d_27
set_option maxRecDepth 100000 in
set_option maxHeartbeats 4000000 in
theorem tForger_putInstruction_214 {L : Nat} {e : vmD} {Qo : Option Value → vmW → Prop} {b139 : Int32 → Int32 → Int32 → Int32 → Int32 → vmD → Prop} {Q : vmD → Prop} (hb139 : ∀ x1 x2 x4 x5 x6 d, b139 x1 x2 x4 x5 x6 d → vmWp 50 139 [(0, .ref 20), (1, .int x1), (2, .int x2), (4, .int x4), (5, .int x5), (6, .int x6)] [] (wC L d e) Qo) (hQ : ∀ d, Q d → Qo none (wC L d e)) (x1 : Int32) (x2 : Int32) (x4 : Int32) (x5 : Int32) (x6 : Int32) (x8 : Int32) (s0 : Int32) (s1 : Int32) (s2 : Int32) (d : vmD) (h : Forger_putInstruction_214 b139 x1 x2 x4 x5 x6 x8 s0 s1 s2 d Q) : vmWp 50 214 [(0, .ref 20), (1, .int x1), (2, .int x2), (4, .int x4), (5, .int x5), (6, .int x6), (8, .int x8)] [.int s0, .int s1, .int s2, .ref 20] (wC L d e) Qo := by
  unfold Forger_putInstruction_214 at h
  refine st_callv (k' := 53) (as := [.ref 20, .int s2, .int s1, .int s0]) (rest := []) (lo' := [(0, .ref 20), (1, .int s2), (2, .int s1), (3, .int s0)]) (wf := fun d => wC L d e) rfl rfl rfl ?_
  refine tForger_putNumber (fun d_27 h => ⟨d_27, rfl, rfl, ?_⟩) s2 s1 s0 d h
  refine st_go 4 (pc' := 224) (lo' := [(4, .int (x4 + x8)), (0, .ref 20), (1, .int x1), (2, .int x2), (5, .int x5), (6, .int x6), (8, .int x8)]) (st' := []) rfl ?_
  refine st_locI (fun x4_28 hy_x4_28 => ?_)
  have h := h x4_28 hy_x4_28
  refine st_go 1 (pc' := 227) (lo' := [(6, .int (x6 + 1)), (4, .int x4_28), (0, .ref 20), (1, .int x1), (2, .int x2), (5, .int x5), (8, .int x8)]) (st' := []) rfl ?_
  refine st_locI (fun x6_29 hy_x6_29 => ?_)
  have h := h x6_29 hy_x6_29
  refine st_go 1 (pc' := 139) (lo' := [(6, .int x6_29), (4, .int x4_28), (0, .ref 20), (1, .int x1), (2, .int x2), (5, .int x5), (8, .int x8)]) (st' := []) rfl ?_
  refine vmWp.sub (lo' := [(0, .ref 20), (1, .int x1), (2, .int x2), (4, .int x4_28), (5, .int x5), (6, .int x6_29)]) ⟨rfl, rfl, rfl, rfl, rfl, rfl, trivial⟩ ?_
  exact hb139 x1 x2 x4_28 x5 x6_29 d_27 h
set_option maxRecDepth 100000 in
def Forger_putInstruction_177 (b139 : Int32 → Int32 → Int32 → Int32 → Int32 → vmD → Prop) (x1 : Int32) (x2 : Int32) (x4 : Int32) (x5 : Int32) (x6 : Int32) (x7 : Int32) (s0 : Int32) (d : vmD) (Q : vmD → Prop) : Prop :=
  Operands_value x6 d fun r_23 d_22 =>
  if x7 = 38 then
  (Forger_distance r_23 x2 d_22 fun r_26 d_25 =>
  Forger_putInstruction_214 b139 x1 x2 x4 x5 x6 s0 r_26 s0 x4 d_25 Q)
  else
  (Forger_putInstruction_214 b139 x1 x2 x4 x5 x6 s0 r_23 s0 x4 d_22 Q)
set_option maxRecDepth 100000 in
set_option maxHeartbeats 4000000 in
theorem tForger_putInstruction_177 {L : Nat} {e : vmD} {Qo : Option Value → vmW → Prop} {b139 : Int32 → Int32 → Int32 → Int32 → Int32 → vmD → Prop} {Q : vmD → Prop} (hb139 : ∀ x1 x2 x4 x5 x6 d, b139 x1 x2 x4 x5 x6 d → vmWp 50 139 [(0, .ref 20), (1, .int x1), (2, .int x2), (4, .int x4), (5, .int x5), (6, .int x6)] [] (wC L d e) Qo) (hQ : ∀ d, Q d → Qo none (wC L d e)) (x1 : Int32) (x2 : Int32) (x4 : Int32) (x5 : Int32) (x6 : Int32) (x7 : Int32) (s0 : Int32) (d : vmD) (h : Forger_putInstruction_177 b139 x1 x2 x4 x5 x6 x7 s0 d Q) : vmWp 50 177 [(0, .ref 20), (1, .int x1), (2, .int x2), (4, .int x4), (5, .int x5), (6, .int x6), (7, .int x7)] [.int s0] (wC L d e) Qo := by
  unfold Forger_putInstruction_177 at h
  refine st_go 4 (pc' := 185) (lo' := [(8, .int s0), (0, .ref 20), (1, .int x1), (2, .int x2), (4, .int x4), (5, .int x5), (6, .int x6), (7, .int x7)]) (st' := [.int x6, .ref 33]) rfl ?_
  refine st_calli (k' := 157) (as := [.ref 33, .int x6]) (rest := []) (lo' := [(0, .ref 33), (1, .int x6)]) (wf := fun d => wC L d e) rfl rfl rfl ?_
  refine tOperands_value (fun r_23 d_22 h => ⟨r_23, d_22, rfl, rfl, ?_⟩) x6 d h
  refine st_go 6 (pc' := 199) (lo' := [(9, .int r_23), (8, .int s0), (0, .ref 20), (1, .int x1), (2, .int x2), (4, .int x4), (5, .int x5), (6, .int x6), (7, .int x7)]) (st' := [.int 38, .int x7, .int s0, .int x4, .ref 20]) rfl ?_
  by_cases hc_24 : x7 = 38
  · have h := Eq.mp (if_pos hc_24) h
    refine st_icmp (t := 202) (b := false) rfl (decide_eq_false (fun z => z hc_24)) rfl ?_
    refine st_go 3 (pc' := 206) (lo' := [(9, .int r_23), (8, .int s0), (0, .ref 20), (1, .int x1), (2, .int x2), (4, .int x4), (5, .int x5), (6, .int x6), (7, .int x7)]) (st' := [.int x2, .int r_23, .ref 20, .int s0, .int x4, .ref 20]) rfl ?_
    refine st_calli (k' := 48) (as := [.ref 20, .int r_23, .int x2]) (rest := [.int s0, .int x4, .ref 20]) (lo' := [(0, .ref 20), (1, .int r_23), (2, .int x2)]) (wf := fun d => wC L d e) rfl rfl rfl ?_
    refine tForger_distance (fun r_26 d_25 h => ⟨r_26, d_25, rfl, rfl, ?_⟩) r_23 x2 d_22 h
    refine st_go 1 (pc' := 214) (lo' := [(9, .int r_23), (8, .int s0), (0, .ref 20), (1, .int x1), (2, .int x2), (4, .int x4), (5, .int x5), (6, .int x6), (7, .int x7)]) (st' := [.int r_26, .int s0, .int x4, .ref 20]) rfl ?_
    refine vmWp.sub (lo' := [(0, .ref 20), (1, .int x1), (2, .int x2), (4, .int x4), (5, .int x5), (6, .int x6), (8, .int s0)]) ⟨rfl, rfl, rfl, rfl, rfl, rfl, rfl, trivial⟩ ?_
    exact tForger_putInstruction_214 hb139 hQ x1 x2 x4 x5 x6 s0 r_26 s0 x4 d_25 h
  · have h := Eq.mp (if_neg hc_24) h
    refine st_icmp (t := 212) (b := true) rfl (decide_eq_true hc_24) rfl ?_
    refine st_go 1 (pc' := 214) (lo' := [(9, .int r_23), (8, .int s0), (0, .ref 20), (1, .int x1), (2, .int x2), (4, .int x4), (5, .int x5), (6, .int x6), (7, .int x7)]) (st' := [.int r_23, .int s0, .int x4, .ref 20]) rfl ?_
    refine vmWp.sub (lo' := [(0, .ref 20), (1, .int x1), (2, .int x2), (4, .int x4), (5, .int x5), (6, .int x6), (8, .int s0)]) ⟨rfl, rfl, rfl, rfl, rfl, rfl, rfl, trivial⟩ ?_
    exact tForger_putInstruction_214 hb139 hQ x1 x2 x4 x5 x6 s0 r_23 s0 x4 d_22 h
set_option maxRecDepth 100000 in
def Forger_putInstruction_139 (Q : vmD → Prop) : Nat → Int32 → Int32 → Int32 → Int32 → Int32 → vmD → Prop
  | 0, _, _, _, _, _, _ => False
  | n + 1, x1, x2, x4, x5, x6, d => Operands_count d fun r_15 d_14 =>
  if x6 < r_15 then
  (Shapes_kind x1 x6 d_14 fun r_18 d_17 =>
  if x5 = 0 then
  (Shapes_lengthOf r_18 d_17 fun r_21 d_20 =>
  Forger_putInstruction_177 (Forger_putInstruction_139 Q n) x1 x2 x4 x5 x6 r_18 r_21 d_20 Q)
  else
  (Forger_putInstruction_177 (Forger_putInstruction_139 Q n) x1 x2 x4 x5 x6 r_18 0 d_17 Q))
  else
  (Q d_14)
set_option maxRecDepth 100000 in
set_option maxHeartbeats 4000000 in
theorem tForger_putInstruction_139 {L : Nat} {e : vmD} {Qo : Option Value → vmW → Prop} {Q : vmD → Prop} (hQ : ∀ d, Q d → Qo none (wC L d e)) : ∀ (n : Nat) (x1 : Int32) (x2 : Int32) (x4 : Int32) (x5 : Int32) (x6 : Int32) (d : vmD), Forger_putInstruction_139 Q n x1 x2 x4 x5 x6 d → vmWp 50 139 [(0, .ref 20), (1, .int x1), (2, .int x2), (4, .int x4), (5, .int x5), (6, .int x6)] [] (wC L d e) Qo := by
  intro n
  induction n with
  | zero => intro x1 x2 x4 x5 x6 d h; exact h.elim
  | succ n ih =>
    intro x1 x2 x4 x5 x6 d h
    unfold Forger_putInstruction_139 at h
    refine st_go 3 (pc' := 145) (lo' := [(0, .ref 20), (1, .int x1), (2, .int x2), (4, .int x4), (5, .int x5), (6, .int x6)]) (st' := [.ref 33, .int x6]) rfl ?_
    refine st_calli (k' := 155) (as := [.ref 33]) (rest := [.int x6]) (lo' := [(0, .ref 33)]) (wf := fun d => wC L d e) rfl rfl rfl ?_
    refine tOperands_count (fun r_15 d_14 h => ⟨r_15, d_14, rfl, rfl, ?_⟩) d h
    by_cases hc_16 : x6 < r_15
    · have h := Eq.mp (if_pos hc_16) h
      refine st_icmp (t := 151) (b := false) rfl (decide_eq_false (Int32.not_le.mpr hc_16)) rfl ?_
      refine st_go 4 (pc' := 158) (lo' := [(0, .ref 20), (1, .int x1), (2, .int x2), (4, .int x4), (5, .int x5), (6, .int x6)]) (st' := [.int x6, .int x1, .ref 15]) rfl ?_
      refine st_calli (k' := 183) (as := [.ref 15, .int x1, .int x6]) (rest := []) (lo' := [(0, .ref 15), (1, .int x1), (2, .int x6)]) (wf := fun d => wC L d e) rfl rfl rfl ?_
      refine tShapes_kind (fun r_18 d_17 h => ⟨r_18, d_17, rfl, rfl, ?_⟩) x1 x6 d_14 h
      refine st_go 2 (pc' := 165) (lo' := [(7, .int r_18), (0, .ref 20), (1, .int x1), (2, .int x2), (4, .int x4), (5, .int x5), (6, .int x6)]) (st' := [.int x5]) rfl ?_
      by_cases hc_19 : x5 = 0
      · have h := Eq.mp (if_pos hc_19) h
        refine st_if (t := 172) (b := true) rfl (decide_eq_true hc_19) rfl ?_
        refine st_go 1 (pc' := 174) (lo' := [(7, .int r_18), (0, .ref 20), (1, .int x1), (2, .int x2), (4, .int x4), (5, .int x5), (6, .int x6)]) (st' := [.int r_18]) rfl ?_
        refine st_calli (k' := 187) (as := [.int r_18]) (rest := []) (lo' := [(0, .int r_18)]) (wf := fun d => wC L d e) rfl rfl rfl ?_
        refine tShapes_lengthOf (fun r_21 d_20 h => ⟨r_21, d_20, rfl, rfl, ?_⟩) r_18 d_17 h
        refine vmWp.sub (lo' := [(0, .ref 20), (1, .int x1), (2, .int x2), (4, .int x4), (5, .int x5), (6, .int x6), (7, .int r_18)]) ⟨rfl, rfl, rfl, rfl, rfl, rfl, rfl, trivial⟩ ?_
        exact tForger_putInstruction_177 ih hQ x1 x2 x4 x5 x6 r_18 r_21 d_20 h
      · have h := Eq.mp (if_neg hc_19) h
        refine st_if (t := 168) (b := false) rfl (decide_eq_false hc_19) rfl ?_
        refine st_go 2 (pc' := 177) (lo' := [(7, .int r_18), (0, .ref 20), (1, .int x1), (2, .int x2), (4, .int x4), (5, .int x5), (6, .int x6)]) (st' := [.int 0]) rfl ?_
        refine vmWp.sub (lo' := [(0, .ref 20), (1, .int x1), (2, .int x2), (4, .int x4), (5, .int x5), (6, .int x6), (7, .int r_18)]) ⟨rfl, rfl, rfl, rfl, rfl, rfl, rfl, trivial⟩ ?_
        exact tForger_putInstruction_177 ih hQ x1 x2 x4 x5 x6 r_18 0 d_17 h
    · have h := Eq.mp (if_neg hc_16) h
      refine st_icmp (t := 230) (b := true) rfl (decide_eq_true (Int32.not_lt.mp hc_16)) rfl ?_
      exact st_retV rfl rfl (hQ _ h)
set_option maxRecDepth 100000 in
def Forger_putInstruction_100 (x1 : Int32) (x2 : Int32) (x4 : Int32) (x5 : Int32) (d : vmD) (Q : vmD → Prop) : Prop :=
  Shapes_kind x1 0 d fun r_7 d_6 =>
  Operands_value 0 d_6 fun r_9 d_8 =>
  Forger_withinOpcode r_7 r_9 d_8 fun r_11 d_10 =>
  Forger_putNumber x4 1 ((x1 &&& 255) ||| r_11) d_10 fun d_12 =>
  bnd (x4 + 1) fun x4_13 =>
  ∃ m139, Forger_putInstruction_139 Q m139 x1 x2 x4_13 x5 0 d_12
set_option maxRecDepth 100000 in
set_option maxHeartbeats 4000000 in
theorem tForger_putInstruction_100 {L : Nat} {e : vmD} {Qo : Option Value → vmW → Prop} {Q : vmD → Prop} (hQ : ∀ d, Q d → Qo none (wC L d e)) (x1 : Int32) (x2 : Int32) (x4 : Int32) (x5 : Int32) (d : vmD) (h : Forger_putInstruction_100 x1 x2 x4 x5 d Q) : vmWp 50 100 [(0, .ref 20), (1, .int x1), (2, .int x2), (4, .int x4), (5, .int x5)] [] (wC L d e) Qo := by
  unfold Forger_putInstruction_100 at h
  refine st_go 10 (pc' := 115) (lo' := [(0, .ref 20), (1, .int x1), (2, .int x2), (4, .int x4), (5, .int x5)]) (st' := [.int 0, .int x1, .ref 15, .int (x1 &&& 255), .int 1, .int x4, .ref 20]) rfl ?_
  refine st_calli (k' := 183) (as := [.ref 15, .int x1, .int 0]) (rest := [.int (x1 &&& 255), .int 1, .int x4, .ref 20]) (lo' := [(0, .ref 15), (1, .int x1), (2, .int 0)]) (wf := fun d => wC L d e) rfl rfl rfl ?_
  refine tShapes_kind (fun r_7 d_6 h => ⟨r_7, d_6, rfl, rfl, ?_⟩) x1 0 d h
  refine st_go 3 (pc' := 123) (lo' := [(0, .ref 20), (1, .int x1), (2, .int x2), (4, .int x4), (5, .int x5)]) (st' := [.int 0, .ref 33, .int r_7, .int (x1 &&& 255), .int 1, .int x4, .ref 20]) rfl ?_
  refine st_calli (k' := 157) (as := [.ref 33, .int 0]) (rest := [.int r_7, .int (x1 &&& 255), .int 1, .int x4, .ref 20]) (lo' := [(0, .ref 33), (1, .int 0)]) (wf := fun d => wC L d e) rfl rfl rfl ?_
  refine tOperands_value (fun r_9 d_8 h => ⟨r_9, d_8, rfl, rfl, ?_⟩) 0 d_6 h
  refine st_calli (k' := 52) (as := [.int r_7, .int r_9]) (rest := [.int (x1 &&& 255), .int 1, .int x4, .ref 20]) (lo' := [(0, .int r_7), (1, .int r_9)]) (wf := fun d => wC L d e) rfl rfl rfl ?_
  refine tForger_withinOpcode (fun r_11 d_10 h => ⟨r_11, d_10, rfl, rfl, ?_⟩) r_7 r_9 d_8 h
  refine st_go 1 (pc' := 130) (lo' := [(0, .ref 20), (1, .int x1), (2, .int x2), (4, .int x4), (5, .int x5)]) (st' := [.int ((x1 &&& 255) ||| r_11), .int 1, .int x4, .ref 20]) rfl ?_
  refine st_callv (k' := 53) (as := [.ref 20, .int x4, .int 1, .int ((x1 &&& 255) ||| r_11)]) (rest := []) (lo' := [(0, .ref 20), (1, .int x4), (2, .int 1), (3, .int ((x1 &&& 255) ||| r_11))]) (wf := fun d => wC L d e) rfl rfl rfl ?_
  refine tForger_putNumber (fun d_12 h => ⟨d_12, rfl, rfl, ?_⟩) x4 1 ((x1 &&& 255) ||| r_11) d_10 h
  refine st_go 1 (pc' := 136) (lo' := [(4, .int (x4 + 1)), (0, .ref 20), (1, .int x1), (2, .int x2), (5, .int x5)]) (st' := []) rfl ?_
  refine st_locI (fun x4_13 hy_x4_13 => ?_)
  have h := h x4_13 hy_x4_13
  refine st_go 2 (pc' := 139) (lo' := [(6, .int 0), (4, .int x4_13), (0, .ref 20), (1, .int x1), (2, .int x2), (5, .int x5)]) (st' := []) rfl ?_
  obtain ⟨m139, h⟩ := h
  refine vmWp.sub (lo' := [(0, .ref 20), (1, .int x1), (2, .int x2), (4, .int x4_13), (5, .int x5), (6, .int 0)]) ⟨rfl, rfl, rfl, rfl, rfl, rfl, trivial⟩ ?_
  exact tForger_putInstruction_139 hQ m139 x1 x2 x4_13 x5 0 d_12 h
set_option maxRecDepth 100000 in
def Forger_putInstruction_91 (x1 : Int32) (x2 : Int32) (x4 : Int32) (x5 : Int32) (s0 : Int32) (s2 : Int32) (s3 : Int32) (d : vmD) (Q : vmD → Prop) : Prop :=
  Operands_value s0 d fun r_35 d_34 =>
  Forger_putNumber s3 s2 r_35 d_34 fun d_36 =>
  bnd (x4 + 2) fun x4_37 =>
  Forger_putInstruction_100 x1 x2 x4_37 x5 d_36 Q
set_option maxRecDepth 100000 in
set_option maxHeartbeats 4000000 in
theorem tForger_putInstruction_91 {L : Nat} {e : vmD} {Qo : Option Value → vmW → Prop} {Q : vmD → Prop} (hQ : ∀ d, Q d → Qo none (wC L d e)) (x1 : Int32) (x2 : Int32) (x4 : Int32) (x5 : Int32) (s0 : Int32) (s2 : Int32) (s3 : Int32) (d : vmD) (h : Forger_putInstruction_91 x1 x2 x4 x5 s0 s2 s3 d Q) : vmWp 50 91 [(0, .ref 20), (1, .int x1), (2, .int x2), (4, .int x4), (5, .int x5)] [.int s0, .ref 33, .int s2, .int s3, .ref 20] (wC L d e) Qo := by
  unfold Forger_putInstruction_91 at h
  refine st_calli (k' := 157) (as := [.ref 33, .int s0]) (rest := [.int s2, .int s3, .ref 20]) (lo' := [(0, .ref 33), (1, .int s0)]) (wf := fun d => wC L d e) rfl rfl rfl ?_
  refine tOperands_value (fun r_35 d_34 h => ⟨r_35, d_34, rfl, rfl, ?_⟩) s0 d h
  refine st_callv (k' := 53) (as := [.ref 20, .int s3, .int s2, .int r_35]) (rest := []) (lo' := [(0, .ref 20), (1, .int s3), (2, .int s2), (3, .int r_35)]) (wf := fun d => wC L d e) rfl rfl rfl ?_
  refine tForger_putNumber (fun d_36 h => ⟨d_36, rfl, rfl, ?_⟩) s3 s2 r_35 d_34 h
  refine st_go 1 (pc' := 100) (lo' := [(4, .int (x4 + 2)), (0, .ref 20), (1, .int x1), (2, .int x2), (5, .int x5)]) (st' := []) rfl ?_
  refine st_locI (fun x4_37 hy_x4_37 => ?_)
  have h := h x4_37 hy_x4_37
  refine vmWp.sub (lo' := [(0, .ref 20), (1, .int x1), (2, .int x2), (4, .int x4_37), (5, .int x5)]) ⟨rfl, rfl, rfl, rfl, rfl, trivial⟩ ?_
  exact tForger_putInstruction_100 hQ x1 x2 x4_37 x5 d_36 h
set_option maxRecDepth 100000 in
def Forger_putInstruction_45 (x1 : Int32) (x2 : Int32) (x4 : Int32) (s0 : Int32) (d : vmD) (Q : vmD → Prop) : Prop :=
  if s0 = 0 then
  (Forger_putInstruction_100 x1 x2 x4 s0 d Q)
  else
  (Forger_putNumber x4 1 203 d fun d_30 =>
  Shapes_kind x1 0 d_30 fun r_32 d_31 =>
  if r_32 = 39 then
  (Forger_putInstruction_91 x1 x2 x4 s0 1 1 (x4 + 1) d_31 Q)
  else
  (Forger_putInstruction_91 x1 x2 x4 s0 0 1 (x4 + 1) d_31 Q))
set_option maxRecDepth 100000 in
set_option maxHeartbeats 4000000 in
theorem tForger_putInstruction_45 {L : Nat} {e : vmD} {Qo : Option Value → vmW → Prop} {Q : vmD → Prop} (hQ : ∀ d, Q d → Qo none (wC L d e)) (x1 : Int32) (x2 : Int32) (x4 : Int32) (s0 : Int32) (d : vmD) (h : Forger_putInstruction_45 x1 x2 x4 s0 d Q) : vmWp 50 45 [(0, .ref 20), (1, .int x1), (2, .int x2), (4, .int x4)] [.int s0] (wC L d e) Qo := by
  unfold Forger_putInstruction_45 at h
  refine st_go 2 (pc' := 49) (lo' := [(5, .int s0), (0, .ref 20), (1, .int x1), (2, .int x2), (4, .int x4)]) (st' := [.int s0]) rfl ?_
  by_cases hc_5 : s0 = 0
  · have h := Eq.mp (if_pos hc_5) h
    refine st_if (t := 100) (b := true) rfl (decide_eq_true hc_5) rfl ?_
    refine vmWp.sub (lo' := [(0, .ref 20), (1, .int x1), (2, .int x2), (4, .int x4), (5, .int s0)]) ⟨rfl, rfl, rfl, rfl, rfl, trivial⟩ ?_
    exact tForger_putInstruction_100 hQ x1 x2 x4 s0 d h
  · have h := Eq.mp (if_neg hc_5) h
    refine st_if (t := 52) (b := false) rfl (decide_eq_false hc_5) rfl ?_
    refine st_go 4 (pc' := 59) (lo' := [(5, .int s0), (0, .ref 20), (1, .int x1), (2, .int x2), (4, .int x4)]) (st' := [.int 203, .int 1, .int x4, .ref 20]) rfl ?_
    refine st_callv (k' := 53) (as := [.ref 20, .int x4, .int 1, .int 203]) (rest := []) (lo' := [(0, .ref 20), (1, .int x4), (2, .int 1), (3, .int 203)]) (wf := fun d => wC L d e) rfl rfl rfl ?_
    refine tForger_putNumber (fun d_30 h => ⟨d_30, rfl, rfl, ?_⟩) x4 1 203 d h
    refine st_go 11 (pc' := 78) (lo' := [(5, .int s0), (0, .ref 20), (1, .int x1), (2, .int x2), (4, .int x4)]) (st' := [.int 0, .int x1, .ref 15, .ref 33, .int 1, .int (x4 + 1), .ref 20]) rfl ?_
    refine st_calli (k' := 183) (as := [.ref 15, .int x1, .int 0]) (rest := [.ref 33, .int 1, .int (x4 + 1), .ref 20]) (lo' := [(0, .ref 15), (1, .int x1), (2, .int 0)]) (wf := fun d => wC L d e) rfl rfl rfl ?_
    refine tShapes_kind (fun r_32 d_31 h => ⟨r_32, d_31, rfl, rfl, ?_⟩) x1 0 d_30 h
    refine st_go 1 (pc' := 83) (lo' := [(5, .int s0), (0, .ref 20), (1, .int x1), (2, .int x2), (4, .int x4)]) (st' := [.int 39, .int r_32, .ref 33, .int 1, .int (x4 + 1), .ref 20]) rfl ?_
    by_cases hc_33 : r_32 = 39
    · have h := Eq.mp (if_pos hc_33) h
      refine st_icmp (t := 86) (b := false) rfl (decide_eq_false (fun z => z hc_33)) rfl ?_
      refine st_go 2 (pc' := 91) (lo' := [(5, .int s0), (0, .ref 20), (1, .int x1), (2, .int x2), (4, .int x4)]) (st' := [.int 1, .ref 33, .int 1, .int (x4 + 1), .ref 20]) rfl ?_
      refine vmWp.sub (lo' := [(0, .ref 20), (1, .int x1), (2, .int x2), (4, .int x4), (5, .int s0)]) ⟨rfl, rfl, rfl, rfl, rfl, trivial⟩ ?_
      exact tForger_putInstruction_91 hQ x1 x2 x4 s0 1 1 (x4 + 1) d_31 h
    · have h := Eq.mp (if_neg hc_33) h
      refine st_icmp (t := 90) (b := true) rfl (decide_eq_true hc_33) rfl ?_
      refine st_go 1 (pc' := 91) (lo' := [(5, .int s0), (0, .ref 20), (1, .int x1), (2, .int x2), (4, .int x4)]) (st' := [.int 0, .ref 33, .int 1, .int (x4 + 1), .ref 20]) rfl ?_
      refine vmWp.sub (lo' := [(0, .ref 20), (1, .int x1), (2, .int x2), (4, .int x4), (5, .int s0)]) ⟨rfl, rfl, rfl, rfl, rfl, trivial⟩ ?_
      exact tForger_putInstruction_91 hQ x1 x2 x4 s0 0 1 (x4 + 1) d_31 h
set_option maxRecDepth 100000 in
def Forger_putInstruction_40 (x1 : Int32) (x2 : Int32) (x4 : Int32) (d : vmD) (Q : vmD → Prop) : Prop :=
  Forger_putInstruction_45 x1 x2 x4 1 d Q
set_option maxRecDepth 100000 in
set_option maxHeartbeats 4000000 in
theorem tForger_putInstruction_40 {L : Nat} {e : vmD} {Qo : Option Value → vmW → Prop} {Q : vmD → Prop} (hQ : ∀ d, Q d → Qo none (wC L d e)) (x1 : Int32) (x2 : Int32) (x4 : Int32) (d : vmD) (h : Forger_putInstruction_40 x1 x2 x4 d Q) : vmWp 50 40 [(0, .ref 20), (1, .int x1), (2, .int x2), (4, .int x4)] [] (wC L d e) Qo := by
  unfold Forger_putInstruction_40 at h
  refine st_go 2 (pc' := 45) (lo' := [(0, .ref 20), (1, .int x1), (2, .int x2), (4, .int x4)]) (st' := [.int 1]) rfl ?_
  refine vmWp.sub (lo' := [(0, .ref 20), (1, .int x1), (2, .int x2), (4, .int x4)]) ⟨rfl, rfl, rfl, rfl, trivial⟩ ?_
  exact tForger_putInstruction_45 hQ x1 x2 x4 1 d h
set_option maxRecDepth 100000 in
def Forger_putInstruction_29 (x1 : Int32) (x2 : Int32) (x3 : Int32) (x4 : Int32) (d : vmD) (Q : vmD → Prop) : Prop :=
  if x3 = 5 then
  (Forger_putInstruction_40 x1 x2 x4 d Q)
  else
  (if x3 = 6 then
  (Forger_putInstruction_40 x1 x2 x4 d Q)
  else
  (Forger_putInstruction_45 x1 x2 x4 0 d Q))
set_option maxRecDepth 100000 in
set_option maxHeartbeats 4000000 in
theorem tForger_putInstruction_29 {L : Nat} {e : vmD} {Qo : Option Value → vmW → Prop} {Q : vmD → Prop} (hQ : ∀ d, Q d → Qo none (wC L d e)) (x1 : Int32) (x2 : Int32) (x3 : Int32) (x4 : Int32) (d : vmD) (h : Forger_putInstruction_29 x1 x2 x3 x4 d Q) : vmWp 50 29 [(0, .ref 20), (1, .int x1), (2, .int x2), (3, .int x3), (4, .int x4)] [] (wC L d e) Qo := by
  unfold Forger_putInstruction_29 at h
  refine st_go 2 (pc' := 31) (lo' := [(0, .ref 20), (1, .int x1), (2, .int x2), (3, .int x3), (4, .int x4)]) (st' := [.int 5, .int x3]) rfl ?_
  by_cases hc_4 : x3 = 5
  · have h := Eq.mp (if_pos hc_4) h
    refine st_icmp (t := 40) (b := true) rfl (decide_eq_true hc_4) rfl ?_
    refine vmWp.sub (lo' := [(0, .ref 20), (1, .int x1), (2, .int x2), (4, .int x4)]) ⟨rfl, rfl, rfl, rfl, trivial⟩ ?_
    exact tForger_putInstruction_40 hQ x1 x2 x4 d h
  · have h := Eq.mp (if_neg hc_4) h
    refine st_icmp (t := 34) (b := false) rfl (decide_eq_false hc_4) rfl ?_
    refine st_go 2 (pc' := 37) (lo' := [(0, .ref 20), (1, .int x1), (2, .int x2), (3, .int x3), (4, .int x4)]) (st' := [.int 6, .int x3]) rfl ?_
    by_cases hc_38 : x3 = 6
    · have h := Eq.mp (if_pos hc_38) h
      refine st_icmp (t := 40) (b := false) rfl (decide_eq_false (fun z => z hc_38)) rfl ?_
      refine vmWp.sub (lo' := [(0, .ref 20), (1, .int x1), (2, .int x2), (4, .int x4)]) ⟨rfl, rfl, rfl, rfl, trivial⟩ ?_
      exact tForger_putInstruction_40 hQ x1 x2 x4 d h
    · have h := Eq.mp (if_neg hc_38) h
      refine st_icmp (t := 44) (b := true) rfl (decide_eq_true hc_38) rfl ?_
      refine st_go 1 (pc' := 45) (lo' := [(0, .ref 20), (1, .int x1), (2, .int x2), (3, .int x3), (4, .int x4)]) (st' := [.int 0]) rfl ?_
      refine vmWp.sub (lo' := [(0, .ref 20), (1, .int x1), (2, .int x2), (4, .int x4)]) ⟨rfl, rfl, rfl, rfl, trivial⟩ ?_
      exact tForger_putInstruction_45 hQ x1 x2 x4 0 d h
set_option maxRecDepth 100000 in
def Forger_putInstruction (x1 : Int32) (x2 : Int32) (d : vmD) (Q : vmD → Prop) : Prop :=
  bnd (x1 >>> ((8 : Int32) &&& 31)) fun x3_1 =>
  bnd (gF d 20 11) fun x4_2 =>
  if x3_1 = 0 then
  (Forger_putInstruction_29 x1 x2 x3_1 x4_2 d Q)
  else
  (Forger_leadOf x3_1 d fun r_40 d_39 =>
  Forger_putNumber x4_2 1 r_40 d_39 fun d_41 =>
  bnd (x4_2 + 1) fun x4_42 =>
  Forger_putInstruction_29 x1 x2 x3_1 x4_42 d_41 Q)
set_option maxRecDepth 100000 in
set_option maxHeartbeats 4000000 in
theorem tForger_putInstruction {L : Nat} {e : vmD} {Qo : Option Value → vmW → Prop} {Q : vmD → Prop} (hQ : ∀ d, Q d → Qo none (wC L d e)) (x1 : Int32) (x2 : Int32) (d : vmD) (h : Forger_putInstruction x1 x2 d Q) : vmWp 50 0 [(0, .ref 20), (1, .int x1), (2, .int x2)] [] (wC L d e) Qo := by
  unfold Forger_putInstruction at h
  refine st_go 4 (pc' := 5) (lo' := [(3, .int (x1 >>> ((8 : Int32) &&& 31))), (0, .ref 20), (1, .int x1), (2, .int x2)]) (st' := []) rfl ?_
  refine st_locI (fun x3_1 hy_x3_1 => ?_)
  have h := h x3_1 hy_x3_1
  refine st_go 3 (pc' := 11) (lo' := [(4, .int (gF d 20 11)), (3, .int x3_1), (0, .ref 20), (1, .int x1), (2, .int x2)]) (st' := []) rfl ?_
  refine st_locI (fun x4_2 hy_x4_2 => ?_)
  have h := h x4_2 hy_x4_2
  refine st_go 1 (pc' := 12) (lo' := [(4, .int x4_2), (3, .int x3_1), (0, .ref 20), (1, .int x1), (2, .int x2)]) (st' := [.int x3_1]) rfl ?_
  by_cases hc_3 : x3_1 = 0
  · have h := Eq.mp (if_pos hc_3) h
    refine st_if (t := 29) (b := true) rfl (decide_eq_true hc_3) rfl ?_
    refine vmWp.sub (lo' := [(0, .ref 20), (1, .int x1), (2, .int x2), (3, .int x3_1), (4, .int x4_2)]) ⟨rfl, rfl, rfl, rfl, rfl, trivial⟩ ?_
    exact tForger_putInstruction_29 hQ x1 x2 x3_1 x4_2 d h
  · have h := Eq.mp (if_neg hc_3) h
    refine st_if (t := 15) (b := false) rfl (decide_eq_false hc_3) rfl ?_
    refine st_go 4 (pc' := 20) (lo' := [(4, .int x4_2), (3, .int x3_1), (0, .ref 20), (1, .int x1), (2, .int x2)]) (st' := [.int x3_1, .int 1, .int x4_2, .ref 20]) rfl ?_
    refine st_calli (k' := 51) (as := [.int x3_1]) (rest := [.int 1, .int x4_2, .ref 20]) (lo' := [(0, .int x3_1)]) (wf := fun d => wC L d e) rfl rfl rfl ?_
    refine tForger_leadOf (fun r_40 d_39 h => ⟨r_40, d_39, rfl, rfl, ?_⟩) x3_1 d h
    refine st_callv (k' := 53) (as := [.ref 20, .int x4_2, .int 1, .int r_40]) (rest := []) (lo' := [(0, .ref 20), (1, .int x4_2), (2, .int 1), (3, .int r_40)]) (wf := fun d => wC L d e) rfl rfl rfl ?_
    refine tForger_putNumber (fun d_41 h => ⟨d_41, rfl, rfl, ?_⟩) x4_2 1 r_40 d_39 h
    refine st_go 1 (pc' := 29) (lo' := [(4, .int (x4_2 + 1)), (3, .int x3_1), (0, .ref 20), (1, .int x1), (2, .int x2)]) (st' := []) rfl ?_
    refine st_locI (fun x4_42 hy_x4_42 => ?_)
    have h := h x4_42 hy_x4_42
    refine vmWp.sub (lo' := [(0, .ref 20), (1, .int x1), (2, .int x2), (3, .int x3_1), (4, .int x4_42)]) ⟨rfl, rfl, rfl, rfl, rfl, trivial⟩ ?_
    exact tForger_putInstruction_29 hQ x1 x2 x3_1 x4_42 d_41 h
set_option maxRecDepth 100000 in
def Tokens_endsOperand (x1 : Int32) (d : vmD) (Q : Int32 → vmD → Prop) : Prop :=
  Tokens_kind x1 d fun r_2 d_1 =>
  if r_2 = 0 then
  (Q 1 d_1)
  else
  (Tokens_kind x1 d_1 fun r_5 d_4 =>
  if r_5 = 44 then
  (Q 1 d_4)
  else
  (Q 0 d_4))
set_option maxRecDepth 100000 in
set_option maxHeartbeats 4000000 in
theorem tTokens_endsOperand {L : Nat} {e : vmD} {Qo : Option Value → vmW → Prop} {Q : Int32 → vmD → Prop} (hQ : ∀ r d, Q r d → Qo (some (.int r)) (wC L d e)) (x1 : Int32) (d : vmD) (h : Tokens_endsOperand x1 d Q) : vmWp 217 0 [(0, .ref 24), (1, .int x1)] [] (wC L d e) Qo := by
  unfold Tokens_endsOperand at h
  refine st_go 2 (pc' := 2) (lo' := [(0, .ref 24), (1, .int x1)]) (st' := [.int x1, .ref 24]) rfl ?_
  refine st_calli (k' := 213) (as := [.ref 24, .int x1]) (rest := []) (lo' := [(0, .ref 24), (1, .int x1)]) (wf := fun d => wC L d e) rfl rfl rfl ?_
  refine tTokens_kind (fun r_2 d_1 h => ⟨r_2, d_1, rfl, rfl, ?_⟩) x1 d h
  by_cases hc_3 : r_2 = 0
  · have h := Eq.mp (if_pos hc_3) h
    refine st_if (t := 18) (b := true) rfl (decide_eq_true hc_3) rfl ?_
    refine st_go 2 (pc' := 23) (lo' := [(0, .ref 24), (1, .int x1)]) (st' := [.int 1]) rfl ?_
    exact st_retZ rfl rfl (Or.inr rfl) (hQ _ _ h)
  · have h := Eq.mp (if_neg hc_3) h
    refine st_if (t := 8) (b := false) rfl (decide_eq_false hc_3) rfl ?_
    refine st_go 2 (pc' := 10) (lo' := [(0, .ref 24), (1, .int x1)]) (st' := [.int x1, .ref 24]) rfl ?_
    refine st_calli (k' := 213) (as := [.ref 24, .int x1]) (rest := []) (lo' := [(0, .ref 24), (1, .int x1)]) (wf := fun d => wC L d e) rfl rfl rfl ?_
    refine tTokens_kind (fun r_5 d_4 h => ⟨r_5, d_4, rfl, rfl, ?_⟩) x1 d_1 h
    refine st_go 1 (pc' := 15) (lo' := [(0, .ref 24), (1, .int x1)]) (st' := [.int 44, .int r_5]) rfl ?_
    by_cases hc_6 : r_5 = 44
    · have h := Eq.mp (if_pos hc_6) h
      refine st_icmp (t := 18) (b := false) rfl (decide_eq_false (fun z => z hc_6)) rfl ?_
      refine st_go 2 (pc' := 23) (lo' := [(0, .ref 24), (1, .int x1)]) (st' := [.int 1]) rfl ?_
      exact st_retZ rfl rfl (Or.inr rfl) (hQ _ _ h)
    · have h := Eq.mp (if_neg hc_6) h
      refine st_icmp (t := 22) (b := true) rfl (decide_eq_true hc_6) rfl ?_
      refine st_go 1 (pc' := 23) (lo' := [(0, .ref 24), (1, .int x1)]) (st' := [.int 0]) rfl ?_
      exact st_retZ rfl rfl (Or.inl rfl) (hQ _ _ h)
set_option maxRecDepth 100000 in
def Operands_closing_48 (b4 : Int32 → Int32 → Int32 → vmD → Prop) (x1 : Int32) (x2 : Int32) (x3 : Int32) (d : vmD) (Q : Int32 → vmD → Prop) : Prop :=
  if (0 : Int32) < x2 then
  (bnd (x3 + 1) fun x3_9 =>
  b4 x1 x2 x3_9 d)
  else
  (if x1 < x3 then
  (Tokens_endsOperand (x3 + 1) d fun r_12 d_11 =>
  if r_12 = 0 then
  (Q (-1) d_11)
  else
  (Q x3 d_11))
  else
  (Q (-1) d))
set_option maxRecDepth 100000 in
set_option maxHeartbeats 4000000 in
theorem tOperands_closing_48 {L : Nat} {e : vmD} {Qo : Option Value → vmW → Prop} {b4 : Int32 → Int32 → Int32 → vmD → Prop} {Q : Int32 → vmD → Prop} (hb4 : ∀ x1 x2 x3 d, b4 x1 x2 x3 d → vmWp 152 4 [(0, .ref 33), (1, .int x1), (2, .int x2), (3, .int x3)] [] (wC L d e) Qo) (hQ : ∀ r d, Q r d → Qo (some (.int r)) (wC L d e)) (x1 : Int32) (x2 : Int32) (x3 : Int32) (d : vmD) (h : Operands_closing_48 b4 x1 x2 x3 d Q) : vmWp 152 48 [(0, .ref 33), (1, .int x1), (2, .int x2), (3, .int x3)] [] (wC L d e) Qo := by
  unfold Operands_closing_48 at h
  refine st_go 1 (pc' := 49) (lo' := [(0, .ref 33), (1, .int x1), (2, .int x2), (3, .int x3)]) (st' := [.int x2]) rfl ?_
  by_cases hc_8 : (0 : Int32) < x2
  · have h := Eq.mp (if_pos hc_8) h
    refine st_if (t := 76) (b := true) rfl (decide_eq_true hc_8) rfl ?_
    refine st_go 1 (pc' := 79) (lo' := [(3, .int (x3 + 1)), (0, .ref 33), (1, .int x1), (2, .int x2)]) (st' := []) rfl ?_
    refine st_locI (fun x3_9 hy_x3_9 => ?_)
    have h := h x3_9 hy_x3_9
    refine st_go 1 (pc' := 4) (lo' := [(3, .int x3_9), (0, .ref 33), (1, .int x1), (2, .int x2)]) (st' := []) rfl ?_
    refine vmWp.sub (lo' := [(0, .ref 33), (1, .int x1), (2, .int x2), (3, .int x3_9)]) ⟨rfl, rfl, rfl, rfl, trivial⟩ ?_
    exact hb4 x1 x2 x3_9 d h
  · have h := Eq.mp (if_neg hc_8) h
    refine st_if (t := 52) (b := false) rfl (decide_eq_false hc_8) rfl ?_
    refine st_go 2 (pc' := 54) (lo' := [(0, .ref 33), (1, .int x1), (2, .int x2), (3, .int x3)]) (st' := [.int x1, .int x3]) rfl ?_
    by_cases hc_10 : x1 < x3
    · have h := Eq.mp (if_pos hc_10) h
      refine st_icmp (t := 57) (b := false) rfl (decide_eq_false (Int32.not_le.mpr hc_10)) rfl ?_
      refine st_go 5 (pc' := 64) (lo' := [(0, .ref 33), (1, .int x1), (2, .int x2), (3, .int x3)]) (st' := [.int (x3 + 1), .ref 24]) rfl ?_
      refine st_calli (k' := 217) (as := [.ref 24, .int (x3 + 1)]) (rest := []) (lo' := [(0, .ref 24), (1, .int (x3 + 1))]) (wf := fun d => wC L d e) rfl rfl rfl ?_
      refine tTokens_endsOperand (fun r_12 d_11 h => ⟨r_12, d_11, rfl, rfl, ?_⟩) (x3 + 1) d h
      by_cases hc_13 : r_12 = 0
      · have h := Eq.mp (if_pos hc_13) h
        refine st_if (t := 74) (b := true) rfl (decide_eq_true hc_13) rfl ?_
        refine st_go 1 (pc' := 75) (lo' := [(0, .ref 33), (1, .int x1), (2, .int x2), (3, .int x3)]) (st' := [.int (-1)]) rfl ?_
        exact st_retI rfl rfl (hQ _ _ h)
      · have h := Eq.mp (if_neg hc_13) h
        refine st_if (t := 70) (b := false) rfl (decide_eq_false hc_13) rfl ?_
        refine st_go 2 (pc' := 75) (lo' := [(0, .ref 33), (1, .int x1), (2, .int x2), (3, .int x3)]) (st' := [.int x3]) rfl ?_
        exact st_retI rfl rfl (hQ _ _ h)
    · have h := Eq.mp (if_neg hc_10) h
      refine st_icmp (t := 74) (b := true) rfl (decide_eq_true (Int32.not_lt.mp hc_10)) rfl ?_
      refine st_go 1 (pc' := 75) (lo' := [(0, .ref 33), (1, .int x1), (2, .int x2), (3, .int x3)]) (st' := [.int (-1)]) rfl ?_
      exact st_retI rfl rfl (hQ _ _ h)
set_option maxRecDepth 100000 in
def Operands_closing_4 (Q : Int32 → vmD → Prop) : Nat → Int32 → Int32 → Int32 → vmD → Prop
  | 0, _, _, _, _ => False
  | n + 1, x1, x2, x3, d => Tokens_count d fun r_2 d_1 =>
  if x3 < r_2 then
  (Tokens_kind x3 d_1 fun r_5 d_4 =>
  if r_5 = 40 then
  (bnd (x2 + 1) fun x2_7 =>
  Operands_closing_48 (Operands_closing_4 Q n) x1 x2_7 x3 d_4 Q)
  else
  (if r_5 = 41 then
  (bnd (x2 + (-1)) fun x2_15 =>
  Operands_closing_48 (Operands_closing_4 Q n) x1 x2_15 x3 d_4 Q)
  else
  (Operands_closing_48 (Operands_closing_4 Q n) x1 x2 x3 d_4 Q)))
  else
  (Q (-1) d_1)
set_option maxRecDepth 100000 in
set_option maxHeartbeats 4000000 in
theorem tOperands_closing_4 {L : Nat} {e : vmD} {Qo : Option Value → vmW → Prop} {Q : Int32 → vmD → Prop} (hQ : ∀ r d, Q r d → Qo (some (.int r)) (wC L d e)) : ∀ (n : Nat) (x1 : Int32) (x2 : Int32) (x3 : Int32) (d : vmD), Operands_closing_4 Q n x1 x2 x3 d → vmWp 152 4 [(0, .ref 33), (1, .int x1), (2, .int x2), (3, .int x3)] [] (wC L d e) Qo := by
  intro n
  induction n with
  | zero => intro x1 x2 x3 d h; exact h.elim
  | succ n ih =>
    intro x1 x2 x3 d h
    unfold Operands_closing_4 at h
    refine st_go 3 (pc' := 9) (lo' := [(0, .ref 33), (1, .int x1), (2, .int x2), (3, .int x3)]) (st' := [.ref 24, .int x3]) rfl ?_
    refine st_calli (k' := 216) (as := [.ref 24]) (rest := [.int x3]) (lo' := [(0, .ref 24)]) (wf := fun d => wC L d e) rfl rfl rfl ?_
    refine tTokens_count (fun r_2 d_1 h => ⟨r_2, d_1, rfl, rfl, ?_⟩) d h
    by_cases hc_3 : x3 < r_2
    · have h := Eq.mp (if_pos hc_3) h
      refine st_icmp (t := 15) (b := false) rfl (decide_eq_false (Int32.not_le.mpr hc_3)) rfl ?_
      refine st_go 3 (pc' := 20) (lo' := [(0, .ref 33), (1, .int x1), (2, .int x2), (3, .int x3)]) (st' := [.int x3, .ref 24]) rfl ?_
      refine st_calli (k' := 213) (as := [.ref 24, .int x3]) (rest := []) (lo' := [(0, .ref 24), (1, .int x3)]) (wf := fun d => wC L d e) rfl rfl rfl ?_
      refine tTokens_kind (fun r_5 d_4 h => ⟨r_5, d_4, rfl, rfl, ?_⟩) x3 d_1 h
      refine st_go 3 (pc' := 29) (lo' := [(4, .int r_5), (0, .ref 33), (1, .int x1), (2, .int x2), (3, .int x3)]) (st' := [.int 40, .int r_5]) rfl ?_
      by_cases hc_6 : r_5 = 40
      · have h := Eq.mp (if_pos hc_6) h
        refine st_icmp (t := 32) (b := false) rfl (decide_eq_false (fun z => z hc_6)) rfl ?_
        refine st_go 1 (pc' := 35) (lo' := [(2, .int (x2 + 1)), (4, .int r_5), (0, .ref 33), (1, .int x1), (3, .int x3)]) (st' := []) rfl ?_
        refine st_locI (fun x2_7 hy_x2_7 => ?_)
        have h := h x2_7 hy_x2_7
        refine st_go 1 (pc' := 48) (lo' := [(2, .int x2_7), (4, .int r_5), (0, .ref 33), (1, .int x1), (3, .int x3)]) (st' := []) rfl ?_
        refine vmWp.sub (lo' := [(0, .ref 33), (1, .int x1), (2, .int x2_7), (3, .int x3)]) ⟨rfl, rfl, rfl, rfl, trivial⟩ ?_
        exact tOperands_closing_48 ih hQ x1 x2_7 x3 d_4 h
      · have h := Eq.mp (if_neg hc_6) h
        refine st_icmp (t := 38) (b := true) rfl (decide_eq_true hc_6) rfl ?_
        refine st_go 2 (pc' := 42) (lo' := [(4, .int r_5), (0, .ref 33), (1, .int x1), (2, .int x2), (3, .int x3)]) (st' := [.int 41, .int r_5]) rfl ?_
        by_cases hc_14 : r_5 = 41
        · have h := Eq.mp (if_pos hc_14) h
          refine st_icmp (t := 45) (b := false) rfl (decide_eq_false (fun z => z hc_14)) rfl ?_
          refine st_go 1 (pc' := 48) (lo' := [(2, .int (x2 + (-1))), (4, .int r_5), (0, .ref 33), (1, .int x1), (3, .int x3)]) (st' := []) rfl ?_
          refine st_locI (fun x2_15 hy_x2_15 => ?_)
          have h := h x2_15 hy_x2_15
          refine vmWp.sub (lo' := [(0, .ref 33), (1, .int x1), (2, .int x2_15), (3, .int x3)]) ⟨rfl, rfl, rfl, rfl, trivial⟩ ?_
          exact tOperands_closing_48 ih hQ x1 x2_15 x3 d_4 h
        · have h := Eq.mp (if_neg hc_14) h
          refine st_icmp (t := 48) (b := true) rfl (decide_eq_true hc_14) rfl ?_
          refine vmWp.sub (lo' := [(0, .ref 33), (1, .int x1), (2, .int x2), (3, .int x3)]) ⟨rfl, rfl, rfl, rfl, trivial⟩ ?_
          exact tOperands_closing_48 ih hQ x1 x2 x3 d_4 h
    · have h := Eq.mp (if_neg hc_3) h
      refine st_icmp (t := 82) (b := true) rfl (decide_eq_true (Int32.not_lt.mp hc_3)) rfl ?_
      refine st_go 1 (pc' := 83) (lo' := [(0, .ref 33), (1, .int x1), (2, .int x2), (3, .int x3)]) (st' := [.int (-1)]) rfl ?_
      exact st_retI rfl rfl (hQ _ _ h)
set_option maxRecDepth 100000 in
def Operands_closing (x1 : Int32) (d : vmD) (Q : Int32 → vmD → Prop) : Prop :=
  ∃ m4, Operands_closing_4 Q m4 x1 0 x1 d
set_option maxRecDepth 100000 in
set_option maxHeartbeats 4000000 in
theorem tOperands_closing {L : Nat} {e : vmD} {Qo : Option Value → vmW → Prop} {Q : Int32 → vmD → Prop} (hQ : ∀ r d, Q r d → Qo (some (.int r)) (wC L d e)) (x1 : Int32) (d : vmD) (h : Operands_closing x1 d Q) : vmWp 152 0 [(0, .ref 33), (1, .int x1)] [] (wC L d e) Qo := by
  unfold Operands_closing at h
  refine st_go 4 (pc' := 4) (lo' := [(3, .int x1), (2, .int 0), (0, .ref 33), (1, .int x1)]) (st' := []) rfl ?_
  obtain ⟨m4, h⟩ := h
  refine vmWp.sub (lo' := [(0, .ref 33), (1, .int x1), (2, .int 0), (3, .int x1)]) ⟨rfl, rfl, rfl, rfl, trivial⟩ ?_
  exact tOperands_closing_4 hQ m4 x1 0 x1 d h
set_option maxRecDepth 100000 in
def Operands_placeOf (x0 : Int32) (d : vmD) (Q : Int32 → vmD → Prop) : Prop :=
  if x0 = 2 then
  (Q 29 d)
  else
  if x0 = 9 then
  (Q 26 d)
  else
  if x0 = 10 then
  (Q 27 d)
  else
  if x0 = 11 then
  (Q 7 d)
  else
  if x0 = 12 then
  (Q 28 d)
  else
  if x0 = 15 then
  (Q 30 d)
  else
  if x0 = 16 then
  (Q 31 d)
  else
  (Q 0 d)
set_option maxRecDepth 100000 in
set_option maxHeartbeats 4000000 in
theorem tOperands_placeOf {L : Nat} {e : vmD} {Qo : Option Value → vmW → Prop} {Q : Int32 → vmD → Prop} (hQ : ∀ r d, Q r d → Qo (some (.int r)) (wC L d e)) (x0 : Int32) (d : vmD) (h : Operands_placeOf x0 d Q) : vmWp 154 0 [(0, .int x0)] [] (wC L d e) Qo := by
  unfold Operands_placeOf at h
  refine st_go 1 (pc' := 1) (lo' := [(0, .int x0)]) (st' := [.int x0]) rfl ?_
  by_cases hc_1 : x0 = 2
  · have h := Eq.mp (if_pos hc_1) h
    refine st_tab (t := 88) rfl (by rw [hc_1]; rfl) ?_
    refine st_go 1 (pc' := 90) (lo' := [(0, .int x0)]) (st' := [.int 29]) rfl ?_
    exact st_retI rfl rfl (hQ _ _ h)
  · have h := Eq.mp (if_neg hc_1) h
    by_cases hc_2 : x0 = 9
    · have h := Eq.mp (if_pos hc_2) h
      refine st_tab (t := 79) rfl (by rw [hc_2]; rfl) ?_
      refine st_go 1 (pc' := 81) (lo' := [(0, .int x0)]) (st' := [.int 26]) rfl ?_
      exact st_retI rfl rfl (hQ _ _ h)
    · have h := Eq.mp (if_neg hc_2) h
      by_cases hc_3 : x0 = 10
      · have h := Eq.mp (if_pos hc_3) h
        refine st_tab (t := 82) rfl (by rw [hc_3]; rfl) ?_
        refine st_go 1 (pc' := 84) (lo' := [(0, .int x0)]) (st' := [.int 27]) rfl ?_
        exact st_retI rfl rfl (hQ _ _ h)
      · have h := Eq.mp (if_neg hc_3) h
        by_cases hc_4 : x0 = 11
        · have h := Eq.mp (if_pos hc_4) h
          refine st_tab (t := 76) rfl (by rw [hc_4]; rfl) ?_
          refine st_go 1 (pc' := 78) (lo' := [(0, .int x0)]) (st' := [.int 7]) rfl ?_
          exact st_retI rfl rfl (hQ _ _ h)
        · have h := Eq.mp (if_neg hc_4) h
          by_cases hc_5 : x0 = 12
          · have h := Eq.mp (if_pos hc_5) h
            refine st_tab (t := 85) rfl (by rw [hc_5]; rfl) ?_
            refine st_go 1 (pc' := 87) (lo' := [(0, .int x0)]) (st' := [.int 28]) rfl ?_
            exact st_retI rfl rfl (hQ _ _ h)
          · have h := Eq.mp (if_neg hc_5) h
            by_cases hc_6 : x0 = 15
            · have h := Eq.mp (if_pos hc_6) h
              refine st_tab (t := 91) rfl (by rw [hc_6]; rfl) ?_
              refine st_go 1 (pc' := 93) (lo' := [(0, .int x0)]) (st' := [.int 30]) rfl ?_
              exact st_retI rfl rfl (hQ _ _ h)
            · have h := Eq.mp (if_neg hc_6) h
              by_cases hc_7 : x0 = 16
              · have h := Eq.mp (if_pos hc_7) h
                refine st_tab (t := 94) rfl (by rw [hc_7]; rfl) ?_
                refine st_go 1 (pc' := 96) (lo' := [(0, .int x0)]) (st' := [.int 31]) rfl ?_
                exact st_retI rfl rfl (hQ _ _ h)
              · have h := Eq.mp (if_neg hc_7) h
                refine st_tab (t := 97) rfl (tab_def rfl (by decide) rfl (by
                  intro j hj hx
                  have hj : j < 15 := hj
                  rcases (j = 0 ∨ j = 1 ∨ j = 2 ∨ j = 3 ∨ j = 4 ∨ j = 5 ∨ j = 6 ∨ j = 7 ∨ j = 8 ∨ j = 9 ∨ j = 10 ∨ j = 11 ∨ j = 12 ∨ j = 13 ∨ j = 14 : Prop) |> fun _ => (show j = 0 ∨ j = 1 ∨ j = 2 ∨ j = 3 ∨ j = 4 ∨ j = 5 ∨ j = 6 ∨ j = 7 ∨ j = 8 ∨ j = 9 ∨ j = 10 ∨ j = 11 ∨ j = 12 ∨ j = 13 ∨ j = 14 by omega) with rfl | rfl | rfl | rfl | rfl | rfl | rfl | rfl | rfl | rfl | rfl | rfl | rfl | rfl | rfl <;> first | rfl | exact absurd hx hc_1 | exact absurd hx hc_2 | exact absurd hx hc_3 | exact absurd hx hc_4 | exact absurd hx hc_5 | exact absurd hx hc_6 | exact absurd hx hc_7)) ?_
                refine st_go 1 (pc' := 98) (lo' := [(0, .int x0)]) (st' := [.int 0]) rfl ?_
                exact st_retI rfl rfl (hQ _ _ h)
