/-! The decompiled program, 4.5 -/
set_option maxRecDepth 100000 in
def MO_next_321 (d : vmD) (Q : vmD → Prop) : Prop :=
  bnd (sF d 42 5 (gF d 42 2)) fun d_16 =>
  Q d_16
set_option maxRecDepth 100000 in
set_option maxHeartbeats 4000000 in
theorem tMO_next_321 {L : Nat} {e : vmD} {Qo : Option Value → vmW → Prop} {Q : vmD → Prop} (hQ : ∀ d, Q d → Qo none (wR L d e)) (d : vmD) (h : MO_next_321 d Q) : vmWp 252 321 [(0, .ref 42)] [] (wR L d e) Qo := by
  unfold MO_next_321 at h
  refine st_go 3 (pc' := 326) (lo' := [(0, .ref 42)]) (st' := [.int (gF d 42 2), .ref 42]) rfl ?_
  refine st_putIR (o := 42) (f := 5) rfl rfl rfl rfl rfl (fun d_16 hy_d_16 => ?_)
  have h := h d_16 hy_d_16
  exact st_retV rfl rfl (hQ _ h)
set_option maxRecDepth 100000 in
def MO_next_72 (Q : vmD → Prop) : Nat → vmD → Prop
  | 0, _ => False
  | n + 1, d => MO_byteAt (gF d 42 4) d fun r_14 d_13 =>
  if r_14 = 10 then
  (MO_next_321 d_13 Q)
  else
  (bnd (sF d_13 42 4 ((gF d_13 42 4) + 1)) fun d_17 =>
  (MO_next_72 Q n) d_17)
set_option maxRecDepth 100000 in
set_option maxHeartbeats 4000000 in
theorem tMO_next_72 {L : Nat} {e : vmD} {Qo : Option Value → vmW → Prop} {Q : vmD → Prop} (hQ : ∀ d, Q d → Qo none (wR L d e)) : ∀ (n : Nat) (d : vmD), MO_next_72 Q n d → vmWp 252 72 [(0, .ref 42)] [] (wR L d e) Qo := by
  intro n
  induction n with
  | zero => intro d h; exact h.elim
  | succ n ih =>
    intro d h
    unfold MO_next_72 at h
    refine st_go 3 (pc' := 77) (lo' := [(0, .ref 42)]) (st' := [.int (gF d 42 4), .ref 42]) rfl ?_
    refine st_calli (k' := 247) (as := [.ref 42, .int (gF d 42 4)]) (rest := []) (lo' := [(0, .ref 42), (1, .int (gF d 42 4))]) (wf := fun d => wR L d e) rfl rfl rfl ?_
    refine tMO_byteAt (fun r_14 d_13 h => ⟨r_14, d_13, rfl, rfl, ?_⟩) (gF d 42 4) d h
    refine st_go 1 (pc' := 82) (lo' := [(0, .ref 42)]) (st' := [.int 10, .int r_14]) rfl ?_
    by_cases hc_15 : r_14 = 10
    · have h := Eq.mp (if_pos hc_15) h
      refine st_icmp (t := 321) (b := true) rfl (decide_eq_true hc_15) rfl ?_
      refine vmWp.sub (lo' := [(0, .ref 42)]) ⟨rfl, trivial⟩ ?_
      exact tMO_next_321 hQ d_13 h
    · have h := Eq.mp (if_neg hc_15) h
      refine st_icmp (t := 85) (b := false) rfl (decide_eq_false hc_15) rfl ?_
      refine st_go 5 (pc' := 92) (lo' := [(0, .ref 42)]) (st' := [.int ((gF d_13 42 4) + 1), .ref 42]) rfl ?_
      refine st_putIR (o := 42) (f := 4) rfl rfl rfl rfl rfl (fun d_17 hy_d_17 => ?_)
      have h := h d_17 hy_d_17
      refine st_go 1 (pc' := 72) (lo' := [(0, .ref 42)]) (st' := []) rfl ?_
      refine vmWp.sub (lo' := [(0, .ref 42)]) ⟨rfl, trivial⟩ ?_
      exact ih d_17 h
set_option maxRecDepth 100000 in
def MO_next_67 (d : vmD) (Q : vmD → Prop) : Prop :=
  bnd (sF d 42 3 1) fun d_12 =>
  ∃ m72, MO_next_72 Q m72 d_12
set_option maxRecDepth 100000 in
set_option maxHeartbeats 4000000 in
theorem tMO_next_67 {L : Nat} {e : vmD} {Qo : Option Value → vmW → Prop} {Q : vmD → Prop} (hQ : ∀ d, Q d → Qo none (wR L d e)) (d : vmD) (h : MO_next_67 d Q) : vmWp 252 67 [(0, .ref 42)] [] (wR L d e) Qo := by
  unfold MO_next_67 at h
  refine st_go 2 (pc' := 69) (lo' := [(0, .ref 42)]) (st' := [.int 1, .ref 42]) rfl ?_
  refine st_putIR (o := 42) (f := 3) rfl rfl rfl rfl rfl (fun d_12 hy_d_12 => ?_)
  have h := h d_12 hy_d_12
  obtain ⟨m72, h⟩ := h
  refine vmWp.sub (lo' := [(0, .ref 42)]) ⟨rfl, trivial⟩ ?_
  exact tMO_next_72 hQ m72 d_12 h
set_option maxRecDepth 100000 in
def MO_next_239 (d : vmD) (Q : vmD → Prop) : Prop :=
  MO_next_321 d Q
set_option maxRecDepth 100000 in
set_option maxHeartbeats 4000000 in
theorem tMO_next_239 {L : Nat} {e : vmD} {Qo : Option Value → vmW → Prop} {Q : vmD → Prop} (hQ : ∀ d, Q d → Qo none (wR L d e)) (d : vmD) (h : MO_next_239 d Q) : vmWp 252 239 [(0, .ref 42)] [] (wR L d e) Qo := by
  unfold MO_next_239 at h
  refine st_go 1 (pc' := 321) (lo' := [(0, .ref 42)]) (st' := []) rfl ?_
  refine vmWp.sub (lo' := [(0, .ref 42)]) ⟨rfl, trivial⟩ ?_
  exact tMO_next_321 hQ d h
set_option maxRecDepth 100000 in
def MO_next_313 (d : vmD) (Q : vmD → Prop) : Prop :=
  MO_next_321 d Q
set_option maxRecDepth 100000 in
set_option maxHeartbeats 4000000 in
theorem tMO_next_313 {L : Nat} {e : vmD} {Qo : Option Value → vmW → Prop} {Q : vmD → Prop} (hQ : ∀ d, Q d → Qo none (wR L d e)) (d : vmD) (h : MO_next_313 d Q) : vmWp 252 313 [(0, .ref 42)] [] (wR L d e) Qo := by
  unfold MO_next_313 at h
  refine st_go 1 (pc' := 321) (lo' := [(0, .ref 42)]) (st' := []) rfl ?_
  refine vmWp.sub (lo' := [(0, .ref 42)]) ⟨rfl, trivial⟩ ?_
  exact tMO_next_321 hQ d h
set_option maxRecDepth 100000 in
def MO_next_291 (x2 : Int32) (d : vmD) (Q : vmD → Prop) : Prop :=
  MO_byteAt x2 d fun r_46 d_45 =>
  if r_46 = 34 then
  (bnd (sF d_45 42 3 4) fun d_48 =>
  bnd (sF d_48 42 2 (x2 + 1)) fun d_49 =>
  MO_next_313 d_49 Q)
  else
  (MO_next_313 d_45 Q)
set_option maxRecDepth 100000 in
set_option maxHeartbeats 4000000 in
theorem tMO_next_291 {L : Nat} {e : vmD} {Qo : Option Value → vmW → Prop} {Q : vmD → Prop} (hQ : ∀ d, Q d → Qo none (wR L d e)) (x2 : Int32) (d : vmD) (h : MO_next_291 x2 d Q) : vmWp 252 291 [(0, .ref 42), (2, .int x2)] [] (wR L d e) Qo := by
  unfold MO_next_291 at h
  refine st_go 2 (pc' := 293) (lo' := [(0, .ref 42), (2, .int x2)]) (st' := [.int x2, .ref 42]) rfl ?_
  refine st_calli (k' := 247) (as := [.ref 42, .int x2]) (rest := []) (lo' := [(0, .ref 42), (1, .int x2)]) (wf := fun d => wR L d e) rfl rfl rfl ?_
  refine tMO_byteAt (fun r_46 d_45 h => ⟨r_46, d_45, rfl, rfl, ?_⟩) x2 d h
  refine st_go 1 (pc' := 298) (lo' := [(0, .ref 42), (2, .int x2)]) (st' := [.int 34, .int r_46]) rfl ?_
  by_cases hc_47 : r_46 = 34
  · have h := Eq.mp (if_pos hc_47) h
    refine st_icmp (t := 301) (b := false) rfl (decide_eq_false (fun z => z hc_47)) rfl ?_
    refine st_go 2 (pc' := 303) (lo' := [(0, .ref 42), (2, .int x2)]) (st' := [.int 4, .ref 42]) rfl ?_
    refine st_putIR (o := 42) (f := 3) rfl rfl rfl rfl rfl (fun d_48 hy_d_48 => ?_)
    have h := h d_48 hy_d_48
    refine st_go 4 (pc' := 310) (lo' := [(0, .ref 42), (2, .int x2)]) (st' := [.int (x2 + 1), .ref 42]) rfl ?_
    refine st_putIR (o := 42) (f := 2) rfl rfl rfl rfl rfl (fun d_49 hy_d_49 => ?_)
    have h := h d_49 hy_d_49
    refine vmWp.sub (lo' := [(0, .ref 42)]) ⟨rfl, trivial⟩ ?_
    exact tMO_next_313 hQ d_49 h
  · have h := Eq.mp (if_neg hc_47) h
    refine st_icmp (t := 313) (b := true) rfl (decide_eq_true hc_47) rfl ?_
    refine vmWp.sub (lo' := [(0, .ref 42)]) ⟨rfl, trivial⟩ ?_
    exact tMO_next_313 hQ d_45 h
set_option maxRecDepth 100000 in
def MO_next_255 (Q : vmD → Prop) : Nat → Int32 → vmD → Prop
  | 0, _, _ => False
  | n + 1, x2, d => MO_byteAt x2 d fun r_43 d_42 =>
  if r_43 < 32 then
  (MO_next_291 x2 d_42 Q)
  else
  (MO_byteAt x2 d_42 fun r_51 d_50 =>
  if (126 : Int32) < r_51 then
  (MO_next_291 x2 d_50 Q)
  else
  (MO_byteAt x2 d_50 fun r_54 d_53 =>
  if r_54 = 34 then
  (MO_next_291 x2 d_53 Q)
  else
  (bnd (x2 + 1) fun x2_56 =>
  (MO_next_255 Q n) x2_56 d_53)))
set_option maxRecDepth 100000 in
set_option maxHeartbeats 4000000 in
theorem tMO_next_255 {L : Nat} {e : vmD} {Qo : Option Value → vmW → Prop} {Q : vmD → Prop} (hQ : ∀ d, Q d → Qo none (wR L d e)) : ∀ (n : Nat) (x2 : Int32) (d : vmD), MO_next_255 Q n x2 d → vmWp 252 255 [(0, .ref 42), (2, .int x2)] [] (wR L d e) Qo := by
  intro n
  induction n with
  | zero => intro x2 d h; exact h.elim
  | succ n ih =>
    intro x2 d h
    unfold MO_next_255 at h
    refine st_go 2 (pc' := 257) (lo' := [(0, .ref 42), (2, .int x2)]) (st' := [.int x2, .ref 42]) rfl ?_
    refine st_calli (k' := 247) (as := [.ref 42, .int x2]) (rest := []) (lo' := [(0, .ref 42), (1, .int x2)]) (wf := fun d => wR L d e) rfl rfl rfl ?_
    refine tMO_byteAt (fun r_43 d_42 h => ⟨r_43, d_42, rfl, rfl, ?_⟩) x2 d h
    refine st_go 1 (pc' := 262) (lo' := [(0, .ref 42), (2, .int x2)]) (st' := [.int 32, .int r_43]) rfl ?_
    by_cases hc_44 : r_43 < 32
    · have h := Eq.mp (if_pos hc_44) h
      refine st_icmp (t := 291) (b := true) rfl (decide_eq_true hc_44) rfl ?_
      refine vmWp.sub (lo' := [(0, .ref 42), (2, .int x2)]) ⟨rfl, rfl, trivial⟩ ?_
      exact tMO_next_291 hQ x2 d_42 h
    · have h := Eq.mp (if_neg hc_44) h
      refine st_icmp (t := 265) (b := false) rfl (decide_eq_false hc_44) rfl ?_
      refine st_go 2 (pc' := 267) (lo' := [(0, .ref 42), (2, .int x2)]) (st' := [.int x2, .ref 42]) rfl ?_
      refine st_calli (k' := 247) (as := [.ref 42, .int x2]) (rest := []) (lo' := [(0, .ref 42), (1, .int x2)]) (wf := fun d => wR L d e) rfl rfl rfl ?_
      refine tMO_byteAt (fun r_51 d_50 h => ⟨r_51, d_50, rfl, rfl, ?_⟩) x2 d_42 h
      refine st_go 1 (pc' := 272) (lo' := [(0, .ref 42), (2, .int x2)]) (st' := [.int 126, .int r_51]) rfl ?_
      by_cases hc_52 : (126 : Int32) < r_51
      · have h := Eq.mp (if_pos hc_52) h
        refine st_icmp (t := 291) (b := true) rfl (decide_eq_true hc_52) rfl ?_
        refine vmWp.sub (lo' := [(0, .ref 42), (2, .int x2)]) ⟨rfl, rfl, trivial⟩ ?_
        exact tMO_next_291 hQ x2 d_50 h
      · have h := Eq.mp (if_neg hc_52) h
        refine st_icmp (t := 275) (b := false) rfl (decide_eq_false hc_52) rfl ?_
        refine st_go 2 (pc' := 277) (lo' := [(0, .ref 42), (2, .int x2)]) (st' := [.int x2, .ref 42]) rfl ?_
        refine st_calli (k' := 247) (as := [.ref 42, .int x2]) (rest := []) (lo' := [(0, .ref 42), (1, .int x2)]) (wf := fun d => wR L d e) rfl rfl rfl ?_
        refine tMO_byteAt (fun r_54 d_53 h => ⟨r_54, d_53, rfl, rfl, ?_⟩) x2 d_50 h
        refine st_go 1 (pc' := 282) (lo' := [(0, .ref 42), (2, .int x2)]) (st' := [.int 34, .int r_54]) rfl ?_
        by_cases hc_55 : r_54 = 34
        · have h := Eq.mp (if_pos hc_55) h
          refine st_icmp (t := 291) (b := true) rfl (decide_eq_true hc_55) rfl ?_
          refine vmWp.sub (lo' := [(0, .ref 42), (2, .int x2)]) ⟨rfl, rfl, trivial⟩ ?_
          exact tMO_next_291 hQ x2 d_53 h
        · have h := Eq.mp (if_neg hc_55) h
          refine st_icmp (t := 285) (b := false) rfl (decide_eq_false hc_55) rfl ?_
          refine st_go 1 (pc' := 288) (lo' := [(2, .int (x2 + 1)), (0, .ref 42)]) (st' := []) rfl ?_
          refine st_locI (fun x2_56 hy_x2_56 => ?_)
          have h := h x2_56 hy_x2_56
          refine st_go 1 (pc' := 255) (lo' := [(2, .int x2_56), (0, .ref 42)]) (st' := []) rfl ?_
          refine vmWp.sub (lo' := [(0, .ref 42), (2, .int x2_56)]) ⟨rfl, rfl, trivial⟩ ?_
          exact ih x2_56 d_53 h
set_option maxRecDepth 100000 in
def MO_next_0 (Q : vmD → Prop) : Nat → vmD → Prop
  | 0, _ => False
  | n + 1, d => MO_byteAt (gF d 42 2) d fun r_2 d_1 =>
  MO_isBlank r_2 d_1 fun r_4 d_3 =>
  if r_4 = 0 then
  (bnd (sF d_3 42 4 (gF d_3 42 2)) fun d_6 =>
  MO_byteAt (gF d_6 42 2) d_6 fun r_8 d_7 =>
  bnd (sF d_7 42 3 0) fun d_9 =>
  bnd (sG d_9 42 7 0) fun d_10 =>
  if r_8 = 10 then
  (MO_next_67 d_10 Q)
  else
  (if r_8 = 59 then
  (MO_next_67 d_10 Q)
  else
  (MO_isStart r_8 d_10 fun r_20 d_19 =>
  if r_20 = 0 then
  (MO_isDigit r_8 d_19 fun r_23 d_22 =>
  if r_23 = 0 then
  (if r_8 = 36 then
  (MO_digits 16 ((gF d_22 42 2) + 1) d_22 fun d_26 =>
  MO_next_321 d_26 Q)
  else
  (if r_8 = 37 then
  (MO_digits 2 ((gF d_22 42 2) + 1) d_22 fun d_28 =>
  MO_next_321 d_28 Q)
  else
  (if r_8 = 39 then
  (MO_byteAt ((gF d_22 42 2) + 1) d_22 fun r_31 d_30 =>
  if r_31 < 32 then
  (MO_next_239 d_30 Q)
  else
  (if (126 : Int32) < r_31 then
  (MO_next_239 d_30 Q)
  else
  (MO_byteAt ((gF d_30 42 2) + 2) d_30 fun r_35 d_34 =>
  if r_35 = 39 then
  (bnd (sF d_34 42 3 3) fun d_37 =>
  bnd (sF d_37 42 6 r_31) fun d_38 =>
  bnd (sF d_38 42 2 ((gF d_38 42 2) + 3)) fun d_39 =>
  MO_next_239 d_39 Q)
  else
  (MO_next_239 d_34 Q))))
  else
  (if r_8 = 34 then
  (bnd ((gF d_22 42 2) + 1) fun x2_41 =>
  ∃ m255, MO_next_255 Q m255 x2_41 d_22)
  else
  (MO_readSign r_8 d_22 fun d_57 =>
  MO_next_321 d_57 Q)))))
  else
  (MO_digits 10 (gF d_22 42 2) d_22 fun d_58 =>
  MO_next_321 d_58 Q))
  else
  (MO_name d_19 fun d_59 =>
  MO_next_321 d_59 Q))))
  else
  (bnd (sF d_3 42 2 ((gF d_3 42 2) + 1)) fun d_60 =>
  (MO_next_0 Q n) d_60)
set_option maxRecDepth 100000 in
set_option maxHeartbeats 4000000 in
theorem tMO_next_0 {L : Nat} {e : vmD} {Qo : Option Value → vmW → Prop} {Q : vmD → Prop} (hQ : ∀ d, Q d → Qo none (wR L d e)) : ∀ (n : Nat) (d : vmD), MO_next_0 Q n d → vmWp 252 0 [(0, .ref 42)] [] (wR L d e) Qo := by
  intro n
  induction n with
  | zero => intro d h; exact h.elim
  | succ n ih =>
    intro d h
    unfold MO_next_0 at h
    refine st_go 4 (pc' := 6) (lo' := [(0, .ref 42)]) (st' := [.int (gF d 42 2), .ref 42, .ref 42]) rfl ?_
    refine st_calli (k' := 247) (as := [.ref 42, .int (gF d 42 2)]) (rest := [.ref 42]) (lo' := [(0, .ref 42), (1, .int (gF d 42 2))]) (wf := fun d => wR L d e) rfl rfl rfl ?_
    refine tMO_byteAt (fun r_2 d_1 h => ⟨r_2, d_1, rfl, rfl, ?_⟩) (gF d 42 2) d h
    refine st_calli (k' := 251) (as := [.ref 42, .int r_2]) (rest := []) (lo' := [(0, .ref 42), (1, .int r_2)]) (wf := fun d => wR L d e) rfl rfl rfl ?_
    refine tMO_isBlank (fun r_4 d_3 h => ⟨r_4, d_3, rfl, rfl, ?_⟩) r_2 d_1 h
    by_cases hc_5 : r_4 = 0
    · have h := Eq.mp (if_pos hc_5) h
      refine st_if (t := 28) (b := true) rfl (decide_eq_true hc_5) rfl ?_
      refine st_go 3 (pc' := 33) (lo' := [(0, .ref 42)]) (st' := [.int (gF d_3 42 2), .ref 42]) rfl ?_
      refine st_putIR (o := 42) (f := 4) rfl rfl rfl rfl rfl (fun d_6 hy_d_6 => ?_)
      have h := h d_6 hy_d_6
      refine st_go 3 (pc' := 41) (lo' := [(0, .ref 42)]) (st' := [.int (gF d_6 42 2), .ref 42]) rfl ?_
      refine st_calli (k' := 247) (as := [.ref 42, .int (gF d_6 42 2)]) (rest := []) (lo' := [(0, .ref 42), (1, .int (gF d_6 42 2))]) (wf := fun d => wR L d e) rfl rfl rfl ?_
      refine tMO_byteAt (fun r_8 d_7 h => ⟨r_8, d_7, rfl, rfl, ?_⟩) (gF d_6 42 2) d_6 h
      refine st_go 3 (pc' := 47) (lo' := [(1, .int r_8), (0, .ref 42)]) (st' := [.int 0, .ref 42]) rfl ?_
      refine st_putIR (o := 42) (f := 3) rfl rfl rfl rfl rfl (fun d_9 hy_d_9 => ?_)
      have h := h d_9 hy_d_9
      refine st_go 2 (pc' := 52) (lo' := [(1, .int r_8), (0, .ref 42)]) (st' := [.long 0, .ref 42]) rfl ?_
      refine st_putJR (o := 42) (f := 7) rfl rfl rfl rfl rfl (fun d_10 hy_d_10 => ?_)
      have h := h d_10 hy_d_10
      refine st_go 2 (pc' := 58) (lo' := [(1, .int r_8), (0, .ref 42)]) (st' := [.int 10, .int r_8]) rfl ?_
      by_cases hc_11 : r_8 = 10
      · have h := Eq.mp (if_pos hc_11) h
        refine st_icmp (t := 67) (b := true) rfl (decide_eq_true hc_11) rfl ?_
        refine vmWp.sub (lo' := [(0, .ref 42)]) ⟨rfl, trivial⟩ ?_
        exact tMO_next_67 hQ d_10 h
      · have h := Eq.mp (if_neg hc_11) h
        refine st_icmp (t := 61) (b := false) rfl (decide_eq_false hc_11) rfl ?_
        refine st_go 2 (pc' := 64) (lo' := [(1, .int r_8), (0, .ref 42)]) (st' := [.int 59, .int r_8]) rfl ?_
        by_cases hc_18 : r_8 = 59
        · have h := Eq.mp (if_pos hc_18) h
          refine st_icmp (t := 67) (b := false) rfl (decide_eq_false (fun z => z hc_18)) rfl ?_
          refine vmWp.sub (lo' := [(0, .ref 42)]) ⟨rfl, trivial⟩ ?_
          exact tMO_next_67 hQ d_10 h
        · have h := Eq.mp (if_neg hc_18) h
          refine st_icmp (t := 98) (b := true) rfl (decide_eq_true hc_18) rfl ?_
          refine st_go 2 (pc' := 100) (lo' := [(1, .int r_8), (0, .ref 42)]) (st' := [.int r_8, .ref 42]) rfl ?_
          refine st_calli (k' := 250) (as := [.ref 42, .int r_8]) (rest := []) (lo' := [(0, .ref 42), (1, .int r_8)]) (wf := fun d => wR L d e) rfl rfl rfl ?_
          refine tMO_isStart (fun r_20 d_19 h => ⟨r_20, d_19, rfl, rfl, ?_⟩) r_8 d_10 h
          by_cases hc_21 : r_20 = 0
          · have h := Eq.mp (if_pos hc_21) h
            refine st_if (t := 113) (b := true) rfl (decide_eq_true hc_21) rfl ?_
            refine st_go 2 (pc' := 115) (lo' := [(1, .int r_8), (0, .ref 42)]) (st' := [.int r_8, .ref 42]) rfl ?_
            refine st_calli (k' := 249) (as := [.ref 42, .int r_8]) (rest := []) (lo' := [(0, .ref 42), (1, .int r_8)]) (wf := fun d => wR L d e) rfl rfl rfl ?_
            refine tMO_isDigit (fun r_23 d_22 h => ⟨r_23, d_22, rfl, rfl, ?_⟩) r_8 d_19 h
            by_cases hc_24 : r_23 = 0
            · have h := Eq.mp (if_pos hc_24) h
              refine st_if (t := 134) (b := true) rfl (decide_eq_true hc_24) rfl ?_
              refine st_go 2 (pc' := 137) (lo' := [(1, .int r_8), (0, .ref 42)]) (st' := [.int 36, .int r_8]) rfl ?_
              by_cases hc_25 : r_8 = 36
              · have h := Eq.mp (if_pos hc_25) h
                refine st_icmp (t := 140) (b := false) rfl (decide_eq_false (fun z => z hc_25)) rfl ?_
                refine st_go 6 (pc' := 149) (lo' := [(1, .int r_8), (0, .ref 42)]) (st' := [.int ((gF d_22 42 2) + 1), .int 16, .ref 42]) rfl ?_
                refine st_callv (k' := 255) (as := [.ref 42, .int 16, .int ((gF d_22 42 2) + 1)]) (rest := []) (lo' := [(0, .ref 42), (1, .int 16), (2, .int ((gF d_22 42 2) + 1))]) (wf := fun d => wR L d e) rfl rfl rfl ?_
                refine tMO_digits (fun d_26 h => ⟨d_26, rfl, rfl, ?_⟩) 16 ((gF d_22 42 2) + 1) d_22 h
                refine st_go 1 (pc' := 321) (lo' := [(1, .int r_8), (0, .ref 42)]) (st' := []) rfl ?_
                refine vmWp.sub (lo' := [(0, .ref 42)]) ⟨rfl, trivial⟩ ?_
                exact tMO_next_321 hQ d_26 h
              · have h := Eq.mp (if_neg hc_25) h
                refine st_icmp (t := 155) (b := true) rfl (decide_eq_true hc_25) rfl ?_
                refine st_go 2 (pc' := 158) (lo' := [(1, .int r_8), (0, .ref 42)]) (st' := [.int 37, .int r_8]) rfl ?_
                by_cases hc_27 : r_8 = 37
                · have h := Eq.mp (if_pos hc_27) h
                  refine st_icmp (t := 161) (b := false) rfl (decide_eq_false (fun z => z hc_27)) rfl ?_
                  refine st_go 6 (pc' := 169) (lo' := [(1, .int r_8), (0, .ref 42)]) (st' := [.int ((gF d_22 42 2) + 1), .int 2, .ref 42]) rfl ?_
                  refine st_callv (k' := 255) (as := [.ref 42, .int 2, .int ((gF d_22 42 2) + 1)]) (rest := []) (lo' := [(0, .ref 42), (1, .int 2), (2, .int ((gF d_22 42 2) + 1))]) (wf := fun d => wR L d e) rfl rfl rfl ?_
                  refine tMO_digits (fun d_28 h => ⟨d_28, rfl, rfl, ?_⟩) 2 ((gF d_22 42 2) + 1) d_22 h
                  refine st_go 1 (pc' := 321) (lo' := [(1, .int r_8), (0, .ref 42)]) (st' := []) rfl ?_
                  refine vmWp.sub (lo' := [(0, .ref 42)]) ⟨rfl, trivial⟩ ?_
                  exact tMO_next_321 hQ d_28 h
                · have h := Eq.mp (if_neg hc_27) h
                  refine st_icmp (t := 175) (b := true) rfl (decide_eq_true hc_27) rfl ?_
                  refine st_go 2 (pc' := 178) (lo' := [(1, .int r_8), (0, .ref 42)]) (st' := [.int 39, .int r_8]) rfl ?_
                  by_cases hc_29 : r_8 = 39
                  · have h := Eq.mp (if_pos hc_29) h
                    refine st_icmp (t := 181) (b := false) rfl (decide_eq_false (fun z => z hc_29)) rfl ?_
                    refine st_go 5 (pc' := 188) (lo' := [(1, .int r_8), (0, .ref 42)]) (st' := [.int ((gF d_22 42 2) + 1), .ref 42]) rfl ?_
                    refine st_calli (k' := 247) (as := [.ref 42, .int ((gF d_22 42 2) + 1)]) (rest := []) (lo' := [(0, .ref 42), (1, .int ((gF d_22 42 2) + 1))]) (wf := fun d => wR L d e) rfl rfl rfl ?_
                    refine tMO_byteAt (fun r_31 d_30 h => ⟨r_31, d_30, rfl, rfl, ?_⟩) ((gF d_22 42 2) + 1) d_22 h
                    refine st_go 3 (pc' := 195) (lo' := [(2, .int r_31), (1, .int r_8), (0, .ref 42)]) (st' := [.int 32, .int r_31]) rfl ?_
                    by_cases hc_32 : r_31 < 32
                    · have h := Eq.mp (if_pos hc_32) h
                      refine st_icmp (t := 239) (b := true) rfl (decide_eq_true hc_32) rfl ?_
                      refine vmWp.sub (lo' := [(0, .ref 42)]) ⟨rfl, trivial⟩ ?_
                      exact tMO_next_239 hQ d_30 h
                    · have h := Eq.mp (if_neg hc_32) h
                      refine st_icmp (t := 198) (b := false) rfl (decide_eq_false hc_32) rfl ?_
                      refine st_go 2 (pc' := 201) (lo' := [(2, .int r_31), (1, .int r_8), (0, .ref 42)]) (st' := [.int 126, .int r_31]) rfl ?_
                      by_cases hc_33 : (126 : Int32) < r_31
                      · have h := Eq.mp (if_pos hc_33) h
                        refine st_icmp (t := 239) (b := true) rfl (decide_eq_true hc_33) rfl ?_
                        refine vmWp.sub (lo' := [(0, .ref 42)]) ⟨rfl, trivial⟩ ?_
                        exact tMO_next_239 hQ d_30 h
                      · have h := Eq.mp (if_neg hc_33) h
                        refine st_icmp (t := 204) (b := false) rfl (decide_eq_false hc_33) rfl ?_
                        refine st_go 5 (pc' := 211) (lo' := [(2, .int r_31), (1, .int r_8), (0, .ref 42)]) (st' := [.int ((gF d_30 42 2) + 2), .ref 42]) rfl ?_
                        refine st_calli (k' := 247) (as := [.ref 42, .int ((gF d_30 42 2) + 2)]) (rest := []) (lo' := [(0, .ref 42), (1, .int ((gF d_30 42 2) + 2))]) (wf := fun d => wR L d e) rfl rfl rfl ?_
                        refine tMO_byteAt (fun r_35 d_34 h => ⟨r_35, d_34, rfl, rfl, ?_⟩) ((gF d_30 42 2) + 2) d_30 h
                        refine st_go 1 (pc' := 216) (lo' := [(2, .int r_31), (1, .int r_8), (0, .ref 42)]) (st' := [.int 39, .int r_35]) rfl ?_
                        by_cases hc_36 : r_35 = 39
                        · have h := Eq.mp (if_pos hc_36) h
                          refine st_icmp (t := 219) (b := false) rfl (decide_eq_false (fun z => z hc_36)) rfl ?_
                          refine st_go 2 (pc' := 221) (lo' := [(2, .int r_31), (1, .int r_8), (0, .ref 42)]) (st' := [.int 3, .ref 42]) rfl ?_
                          refine st_putIR (o := 42) (f := 3) rfl rfl rfl rfl rfl (fun d_37 hy_d_37 => ?_)
                          have h := h d_37 hy_d_37
                          refine st_go 2 (pc' := 226) (lo' := [(2, .int r_31), (1, .int r_8), (0, .ref 42)]) (st' := [.int r_31, .ref 42]) rfl ?_
                          refine st_putIR (o := 42) (f := 6) rfl rfl rfl rfl rfl (fun d_38 hy_d_38 => ?_)
                          have h := h d_38 hy_d_38
                          refine st_go 5 (pc' := 236) (lo' := [(2, .int r_31), (1, .int r_8), (0, .ref 42)]) (st' := [.int ((gF d_38 42 2) + 3), .ref 42]) rfl ?_
                          refine st_putIR (o := 42) (f := 2) rfl rfl rfl rfl rfl (fun d_39 hy_d_39 => ?_)
                          have h := h d_39 hy_d_39
                          refine vmWp.sub (lo' := [(0, .ref 42)]) ⟨rfl, trivial⟩ ?_
                          exact tMO_next_239 hQ d_39 h
                        · have h := Eq.mp (if_neg hc_36) h
                          refine st_icmp (t := 239) (b := true) rfl (decide_eq_true hc_36) rfl ?_
                          refine vmWp.sub (lo' := [(0, .ref 42)]) ⟨rfl, trivial⟩ ?_
                          exact tMO_next_239 hQ d_34 h
                  · have h := Eq.mp (if_neg hc_29) h
                    refine st_icmp (t := 242) (b := true) rfl (decide_eq_true hc_29) rfl ?_
                    refine st_go 2 (pc' := 245) (lo' := [(1, .int r_8), (0, .ref 42)]) (st' := [.int 34, .int r_8]) rfl ?_
                    by_cases hc_40 : r_8 = 34
                    · have h := Eq.mp (if_pos hc_40) h
                      refine st_icmp (t := 248) (b := false) rfl (decide_eq_false (fun z => z hc_40)) rfl ?_
                      refine st_go 5 (pc' := 255) (lo' := [(2, .int ((gF d_22 42 2) + 1)), (1, .int r_8), (0, .ref 42)]) (st' := []) rfl ?_
                      refine st_locI (fun x2_41 hy_x2_41 => ?_)
                      have h := h x2_41 hy_x2_41
                      obtain ⟨m255, h⟩ := h
                      refine vmWp.sub (lo' := [(0, .ref 42), (2, .int x2_41)]) ⟨rfl, rfl, trivial⟩ ?_
                      exact tMO_next_255 hQ m255 x2_41 d_22 h
                    · have h := Eq.mp (if_neg hc_40) h
                      refine st_icmp (t := 316) (b := true) rfl (decide_eq_true hc_40) rfl ?_
                      refine st_go 2 (pc' := 318) (lo' := [(1, .int r_8), (0, .ref 42)]) (st' := [.int r_8, .ref 42]) rfl ?_
                      refine st_callv (k' := 256) (as := [.ref 42, .int r_8]) (rest := []) (lo' := [(0, .ref 42), (1, .int r_8)]) (wf := fun d => wR L d e) rfl rfl rfl ?_
                      refine tMO_readSign (fun d_57 h => ⟨d_57, rfl, rfl, ?_⟩) r_8 d_22 h
                      refine vmWp.sub (lo' := [(0, .ref 42)]) ⟨rfl, trivial⟩ ?_
                      exact tMO_next_321 hQ d_57 h
            · have h := Eq.mp (if_neg hc_24) h
              refine st_if (t := 121) (b := false) rfl (decide_eq_false hc_24) rfl ?_
              refine st_go 4 (pc' := 128) (lo' := [(1, .int r_8), (0, .ref 42)]) (st' := [.int (gF d_22 42 2), .int 10, .ref 42]) rfl ?_
              refine st_callv (k' := 255) (as := [.ref 42, .int 10, .int (gF d_22 42 2)]) (rest := []) (lo' := [(0, .ref 42), (1, .int 10), (2, .int (gF d_22 42 2))]) (wf := fun d => wR L d e) rfl rfl rfl ?_
              refine tMO_digits (fun d_58 h => ⟨d_58, rfl, rfl, ?_⟩) 10 (gF d_22 42 2) d_22 h
              refine st_go 1 (pc' := 321) (lo' := [(1, .int r_8), (0, .ref 42)]) (st' := []) rfl ?_
              refine vmWp.sub (lo' := [(0, .ref 42)]) ⟨rfl, trivial⟩ ?_
              exact tMO_next_321 hQ d_58 h
          · have h := Eq.mp (if_neg hc_21) h
            refine st_if (t := 106) (b := false) rfl (decide_eq_false hc_21) rfl ?_
            refine st_go 1 (pc' := 107) (lo' := [(1, .int r_8), (0, .ref 42)]) (st' := [.ref 42]) rfl ?_
            refine st_callv (k' := 253) (as := [.ref 42]) (rest := []) (lo' := [(0, .ref 42)]) (wf := fun d => wR L d e) rfl rfl rfl ?_
            refine tMO_name (fun d_59 h => ⟨d_59, rfl, rfl, ?_⟩) d_19 h
            refine st_go 1 (pc' := 321) (lo' := [(1, .int r_8), (0, .ref 42)]) (st' := []) rfl ?_
            refine vmWp.sub (lo' := [(0, .ref 42)]) ⟨rfl, trivial⟩ ?_
            exact tMO_next_321 hQ d_59 h
    · have h := Eq.mp (if_neg hc_5) h
      refine st_if (t := 15) (b := false) rfl (decide_eq_false hc_5) rfl ?_
      refine st_go 5 (pc' := 22) (lo' := [(0, .ref 42)]) (st' := [.int ((gF d_3 42 2) + 1), .ref 42]) rfl ?_
      refine st_putIR (o := 42) (f := 2) rfl rfl rfl rfl rfl (fun d_60 hy_d_60 => ?_)
      have h := h d_60 hy_d_60
      refine st_go 1 (pc' := 0) (lo' := [(0, .ref 42)]) (st' := []) rfl ?_
      refine vmWp.sub (lo' := [(0, .ref 42)]) ⟨rfl, trivial⟩ ?_
      exact ih d_60 h
set_option maxRecDepth 100000 in
def MO_next (d : vmD) (Q : vmD → Prop) : Prop :=
  ∃ m0, MO_next_0 Q m0 d
set_option maxRecDepth 100000 in
set_option maxHeartbeats 4000000 in
theorem tMO_next {L : Nat} {e : vmD} {Qo : Option Value → vmW → Prop} {Q : vmD → Prop} (hQ : ∀ d, Q d → Qo none (wR L d e)) (d : vmD) (h : MO_next d Q) : vmWp 252 0 [(0, .ref 42)] [] (wR L d e) Qo := by
  unfold MO_next at h
  obtain ⟨m0, h⟩ := h
  refine vmWp.sub (lo' := [(0, .ref 42)]) ⟨rfl, trivial⟩ ?_
  exact tMO_next_0 hQ m0 d h
set_option maxRecDepth 100000 in
def MO_isSign (x1 : Int32) (d : vmD) (Q : Int32 → vmD → Prop) : Prop :=
  if (gF d 42 3) = 5 then
  (if (gF d 42 6) = x1 then
  (Q 1 d)
  else
  (Q 0 d))
  else
  (Q 0 d)
set_option maxRecDepth 100000 in
set_option maxHeartbeats 4000000 in
theorem tMO_isSign {L : Nat} {e : vmD} {Qo : Option Value → vmW → Prop} {Q : Int32 → vmD → Prop} (hQ : ∀ r d, Q r d → Qo (some (.int r)) (wR L d e)) (x1 : Int32) (d : vmD) (h : MO_isSign x1 d Q) : vmWp 257 0 [(0, .ref 42), (1, .int x1)] [] (wR L d e) Qo := by
  unfold MO_isSign at h
  refine st_go 3 (pc' := 5) (lo' := [(0, .ref 42), (1, .int x1)]) (st' := [.int 5, .int (gF d 42 3)]) rfl ?_
  by_cases hc_1 : (gF d 42 3) = 5
  · have h := Eq.mp (if_pos hc_1) h
    refine st_icmp (t := 8) (b := false) rfl (decide_eq_false (fun z => z hc_1)) rfl ?_
    refine st_go 3 (pc' := 13) (lo' := [(0, .ref 42), (1, .int x1)]) (st' := [.int x1, .int (gF d 42 6)]) rfl ?_
    by_cases hc_2 : (gF d 42 6) = x1
    · have h := Eq.mp (if_pos hc_2) h
      refine st_icmp (t := 16) (b := false) rfl (decide_eq_false (fun z => z hc_2)) rfl ?_
      refine st_go 2 (pc' := 21) (lo' := [(0, .ref 42), (1, .int x1)]) (st' := [.int 1]) rfl ?_
      exact st_retZ rfl rfl (Or.inr rfl) (hQ _ _ h)
    · have h := Eq.mp (if_neg hc_2) h
      refine st_icmp (t := 20) (b := true) rfl (decide_eq_true hc_2) rfl ?_
      refine st_go 1 (pc' := 21) (lo' := [(0, .ref 42), (1, .int x1)]) (st' := [.int 0]) rfl ?_
      exact st_retZ rfl rfl (Or.inl rfl) (hQ _ _ h)
  · have h := Eq.mp (if_neg hc_1) h
    refine st_icmp (t := 20) (b := true) rfl (decide_eq_true hc_1) rfl ?_
    refine st_go 1 (pc' := 21) (lo' := [(0, .ref 42), (1, .int x1)]) (st' := [.int 0]) rfl ?_
    exact st_retZ rfl rfl (Or.inl rfl) (hQ _ _ h)
set_option maxRecDepth 100000 in
def MO_isRegister (x1 : Int64) (d : vmD) (Q : Int32 → vmD → Prop) : Prop :=
  if (lg_cmp x1 65) = 0 then
  (Q 1 d)
  else
  (if (lg_cmp x1 66) = 0 then
  (Q 1 d)
  else
  (if (lg_cmp x1 67) = 0 then
  (Q 1 d)
  else
  (if (lg_cmp x1 68) = 0 then
  (Q 1 d)
  else
  (if (lg_cmp x1 69) = 0 then
  (Q 1 d)
  else
  (if (lg_cmp x1 72) = 0 then
  (Q 1 d)
  else
  (if (lg_cmp x1 76) = 0 then
  (Q 1 d)
  else
  (if (lg_cmp x1 73) = 0 then
  (Q 1 d)
  else
  (if (lg_cmp x1 82) = 0 then
  (Q 1 d)
  else
  (if (lg_cmp x1 16710) = 0 then
  (Q 1 d)
  else
  (if (lg_cmp x1 4277799) = 0 then
  (Q 1 d)
  else
  (if (lg_cmp x1 16963) = 0 then
  (Q 1 d)
  else
  (if (lg_cmp x1 17477) = 0 then
  (Q 1 d)
  else
  (if (lg_cmp x1 18508) = 0 then
  (Q 1 d)
  else
  (if (lg_cmp x1 21328) = 0 then
  (Q 1 d)
  else
  (if (lg_cmp x1 18776) = 0 then
  (Q 1 d)
  else
  (if (lg_cmp x1 18777) = 0 then
  (Q 1 d)
  else
  (if (lg_cmp x1 20058) = 0 then
  (Q 1 d)
  else
  (if (lg_cmp x1 90) = 0 then
  (Q 1 d)
  else
  (if (lg_cmp x1 20035) = 0 then
  (Q 1 d)
  else
  (if (lg_cmp x1 20559) = 0 then
  (Q 1 d)
  else
  (if (lg_cmp x1 20549) = 0 then
  (Q 1 d)
  else
  (if (lg_cmp x1 80) = 0 then
  (Q 1 d)
  else
  (if (lg_cmp x1 77) = 0 then
  (Q 1 d)
  else
  (Q 0 d))))))))))))))))))))))))
set_option maxRecDepth 100000 in
set_option maxHeartbeats 4000000 in
theorem tMO_isRegister {L : Nat} {e : vmD} {Qo : Option Value → vmW → Prop} {Q : Int32 → vmD → Prop} (hQ : ∀ r d, Q r d → Qo (some (.int r)) (wR L d e)) (x1 : Int64) (d : vmD) (h : MO_isRegister x1 d Q) : vmWp 261 0 [(0, .ref 42), (1, .long x1)] [] (wR L d e) Qo := by
  unfold MO_isRegister at h
  refine st_go 3 (pc' := 5) (lo' := [(0, .ref 42), (1, .long x1)]) (st' := [.int (lg_cmp x1 65)]) rfl ?_
  by_cases hc_1 : (lg_cmp x1 65) = 0
  · have h := Eq.mp (if_pos hc_1) h
    refine st_if (t := 192) (b := true) rfl (decide_eq_true hc_1) rfl ?_
    refine st_go 2 (pc' := 197) (lo' := [(0, .ref 42), (1, .long x1)]) (st' := [.int 1]) rfl ?_
    exact st_retZ rfl rfl (Or.inr rfl) (hQ _ _ h)
  · have h := Eq.mp (if_neg hc_1) h
    refine st_if (t := 8) (b := false) rfl (decide_eq_false hc_1) rfl ?_
    refine st_go 3 (pc' := 13) (lo' := [(0, .ref 42), (1, .long x1)]) (st' := [.int (lg_cmp x1 66)]) rfl ?_
    by_cases hc_2 : (lg_cmp x1 66) = 0
    · have h := Eq.mp (if_pos hc_2) h
      refine st_if (t := 192) (b := true) rfl (decide_eq_true hc_2) rfl ?_
      refine st_go 2 (pc' := 197) (lo' := [(0, .ref 42), (1, .long x1)]) (st' := [.int 1]) rfl ?_
      exact st_retZ rfl rfl (Or.inr rfl) (hQ _ _ h)
    · have h := Eq.mp (if_neg hc_2) h
      refine st_if (t := 16) (b := false) rfl (decide_eq_false hc_2) rfl ?_
      refine st_go 3 (pc' := 21) (lo' := [(0, .ref 42), (1, .long x1)]) (st' := [.int (lg_cmp x1 67)]) rfl ?_
      by_cases hc_3 : (lg_cmp x1 67) = 0
      · have h := Eq.mp (if_pos hc_3) h
        refine st_if (t := 192) (b := true) rfl (decide_eq_true hc_3) rfl ?_
        refine st_go 2 (pc' := 197) (lo' := [(0, .ref 42), (1, .long x1)]) (st' := [.int 1]) rfl ?_
        exact st_retZ rfl rfl (Or.inr rfl) (hQ _ _ h)
      · have h := Eq.mp (if_neg hc_3) h
        refine st_if (t := 24) (b := false) rfl (decide_eq_false hc_3) rfl ?_
        refine st_go 3 (pc' := 29) (lo' := [(0, .ref 42), (1, .long x1)]) (st' := [.int (lg_cmp x1 68)]) rfl ?_
        by_cases hc_4 : (lg_cmp x1 68) = 0
        · have h := Eq.mp (if_pos hc_4) h
          refine st_if (t := 192) (b := true) rfl (decide_eq_true hc_4) rfl ?_
          refine st_go 2 (pc' := 197) (lo' := [(0, .ref 42), (1, .long x1)]) (st' := [.int 1]) rfl ?_
          exact st_retZ rfl rfl (Or.inr rfl) (hQ _ _ h)
        · have h := Eq.mp (if_neg hc_4) h
          refine st_if (t := 32) (b := false) rfl (decide_eq_false hc_4) rfl ?_
          refine st_go 3 (pc' := 37) (lo' := [(0, .ref 42), (1, .long x1)]) (st' := [.int (lg_cmp x1 69)]) rfl ?_
          by_cases hc_5 : (lg_cmp x1 69) = 0
          · have h := Eq.mp (if_pos hc_5) h
            refine st_if (t := 192) (b := true) rfl (decide_eq_true hc_5) rfl ?_
            refine st_go 2 (pc' := 197) (lo' := [(0, .ref 42), (1, .long x1)]) (st' := [.int 1]) rfl ?_
            exact st_retZ rfl rfl (Or.inr rfl) (hQ _ _ h)
          · have h := Eq.mp (if_neg hc_5) h
            refine st_if (t := 40) (b := false) rfl (decide_eq_false hc_5) rfl ?_
            refine st_go 3 (pc' := 45) (lo' := [(0, .ref 42), (1, .long x1)]) (st' := [.int (lg_cmp x1 72)]) rfl ?_
            by_cases hc_6 : (lg_cmp x1 72) = 0
            · have h := Eq.mp (if_pos hc_6) h
              refine st_if (t := 192) (b := true) rfl (decide_eq_true hc_6) rfl ?_
              refine st_go 2 (pc' := 197) (lo' := [(0, .ref 42), (1, .long x1)]) (st' := [.int 1]) rfl ?_
              exact st_retZ rfl rfl (Or.inr rfl) (hQ _ _ h)
            · have h := Eq.mp (if_neg hc_6) h
              refine st_if (t := 48) (b := false) rfl (decide_eq_false hc_6) rfl ?_
              refine st_go 3 (pc' := 53) (lo' := [(0, .ref 42), (1, .long x1)]) (st' := [.int (lg_cmp x1 76)]) rfl ?_
              by_cases hc_7 : (lg_cmp x1 76) = 0
              · have h := Eq.mp (if_pos hc_7) h
                refine st_if (t := 192) (b := true) rfl (decide_eq_true hc_7) rfl ?_
                refine st_go 2 (pc' := 197) (lo' := [(0, .ref 42), (1, .long x1)]) (st' := [.int 1]) rfl ?_
                exact st_retZ rfl rfl (Or.inr rfl) (hQ _ _ h)
              · have h := Eq.mp (if_neg hc_7) h
                refine st_if (t := 56) (b := false) rfl (decide_eq_false hc_7) rfl ?_
                refine st_go 3 (pc' := 61) (lo' := [(0, .ref 42), (1, .long x1)]) (st' := [.int (lg_cmp x1 73)]) rfl ?_
                by_cases hc_8 : (lg_cmp x1 73) = 0
                · have h := Eq.mp (if_pos hc_8) h
                  refine st_if (t := 192) (b := true) rfl (decide_eq_true hc_8) rfl ?_
                  refine st_go 2 (pc' := 197) (lo' := [(0, .ref 42), (1, .long x1)]) (st' := [.int 1]) rfl ?_
                  exact st_retZ rfl rfl (Or.inr rfl) (hQ _ _ h)
                · have h := Eq.mp (if_neg hc_8) h
                  refine st_if (t := 64) (b := false) rfl (decide_eq_false hc_8) rfl ?_
                  refine st_go 3 (pc' := 69) (lo' := [(0, .ref 42), (1, .long x1)]) (st' := [.int (lg_cmp x1 82)]) rfl ?_
                  by_cases hc_9 : (lg_cmp x1 82) = 0
                  · have h := Eq.mp (if_pos hc_9) h
                    refine st_if (t := 192) (b := true) rfl (decide_eq_true hc_9) rfl ?_
                    refine st_go 2 (pc' := 197) (lo' := [(0, .ref 42), (1, .long x1)]) (st' := [.int 1]) rfl ?_
                    exact st_retZ rfl rfl (Or.inr rfl) (hQ _ _ h)
                  · have h := Eq.mp (if_neg hc_9) h
                    refine st_if (t := 72) (b := false) rfl (decide_eq_false hc_9) rfl ?_
                    refine st_go 3 (pc' := 77) (lo' := [(0, .ref 42), (1, .long x1)]) (st' := [.int (lg_cmp x1 16710)]) rfl ?_
                    by_cases hc_10 : (lg_cmp x1 16710) = 0
                    · have h := Eq.mp (if_pos hc_10) h
                      refine st_if (t := 192) (b := true) rfl (decide_eq_true hc_10) rfl ?_
                      refine st_go 2 (pc' := 197) (lo' := [(0, .ref 42), (1, .long x1)]) (st' := [.int 1]) rfl ?_
                      exact st_retZ rfl rfl (Or.inr rfl) (hQ _ _ h)
                    · have h := Eq.mp (if_neg hc_10) h
                      refine st_if (t := 80) (b := false) rfl (decide_eq_false hc_10) rfl ?_
                      refine st_go 3 (pc' := 85) (lo' := [(0, .ref 42), (1, .long x1)]) (st' := [.int (lg_cmp x1 4277799)]) rfl ?_
                      by_cases hc_11 : (lg_cmp x1 4277799) = 0
                      · have h := Eq.mp (if_pos hc_11) h
                        refine st_if (t := 192) (b := true) rfl (decide_eq_true hc_11) rfl ?_
                        refine st_go 2 (pc' := 197) (lo' := [(0, .ref 42), (1, .long x1)]) (st' := [.int 1]) rfl ?_
                        exact st_retZ rfl rfl (Or.inr rfl) (hQ _ _ h)
                      · have h := Eq.mp (if_neg hc_11) h
                        refine st_if (t := 88) (b := false) rfl (decide_eq_false hc_11) rfl ?_
                        refine st_go 3 (pc' := 93) (lo' := [(0, .ref 42), (1, .long x1)]) (st' := [.int (lg_cmp x1 16963)]) rfl ?_
                        by_cases hc_12 : (lg_cmp x1 16963) = 0
                        · have h := Eq.mp (if_pos hc_12) h
                          refine st_if (t := 192) (b := true) rfl (decide_eq_true hc_12) rfl ?_
                          refine st_go 2 (pc' := 197) (lo' := [(0, .ref 42), (1, .long x1)]) (st' := [.int 1]) rfl ?_
                          exact st_retZ rfl rfl (Or.inr rfl) (hQ _ _ h)
                        · have h := Eq.mp (if_neg hc_12) h
                          refine st_if (t := 96) (b := false) rfl (decide_eq_false hc_12) rfl ?_
                          refine st_go 3 (pc' := 101) (lo' := [(0, .ref 42), (1, .long x1)]) (st' := [.int (lg_cmp x1 17477)]) rfl ?_
                          by_cases hc_13 : (lg_cmp x1 17477) = 0
                          · have h := Eq.mp (if_pos hc_13) h
                            refine st_if (t := 192) (b := true) rfl (decide_eq_true hc_13) rfl ?_
                            refine st_go 2 (pc' := 197) (lo' := [(0, .ref 42), (1, .long x1)]) (st' := [.int 1]) rfl ?_
                            exact st_retZ rfl rfl (Or.inr rfl) (hQ _ _ h)
                          · have h := Eq.mp (if_neg hc_13) h
                            refine st_if (t := 104) (b := false) rfl (decide_eq_false hc_13) rfl ?_
                            refine st_go 3 (pc' := 109) (lo' := [(0, .ref 42), (1, .long x1)]) (st' := [.int (lg_cmp x1 18508)]) rfl ?_
                            by_cases hc_14 : (lg_cmp x1 18508) = 0
                            · have h := Eq.mp (if_pos hc_14) h
                              refine st_if (t := 192) (b := true) rfl (decide_eq_true hc_14) rfl ?_
                              refine st_go 2 (pc' := 197) (lo' := [(0, .ref 42), (1, .long x1)]) (st' := [.int 1]) rfl ?_
                              exact st_retZ rfl rfl (Or.inr rfl) (hQ _ _ h)
                            · have h := Eq.mp (if_neg hc_14) h
                              refine st_if (t := 112) (b := false) rfl (decide_eq_false hc_14) rfl ?_
                              refine st_go 3 (pc' := 117) (lo' := [(0, .ref 42), (1, .long x1)]) (st' := [.int (lg_cmp x1 21328)]) rfl ?_
                              by_cases hc_15 : (lg_cmp x1 21328) = 0
                              · have h := Eq.mp (if_pos hc_15) h
                                refine st_if (t := 192) (b := true) rfl (decide_eq_true hc_15) rfl ?_
                                refine st_go 2 (pc' := 197) (lo' := [(0, .ref 42), (1, .long x1)]) (st' := [.int 1]) rfl ?_
                                exact st_retZ rfl rfl (Or.inr rfl) (hQ _ _ h)
                              · have h := Eq.mp (if_neg hc_15) h
                                refine st_if (t := 120) (b := false) rfl (decide_eq_false hc_15) rfl ?_
                                refine st_go 3 (pc' := 125) (lo' := [(0, .ref 42), (1, .long x1)]) (st' := [.int (lg_cmp x1 18776)]) rfl ?_
                                by_cases hc_16 : (lg_cmp x1 18776) = 0
                                · have h := Eq.mp (if_pos hc_16) h
                                  refine st_if (t := 192) (b := true) rfl (decide_eq_true hc_16) rfl ?_
                                  refine st_go 2 (pc' := 197) (lo' := [(0, .ref 42), (1, .long x1)]) (st' := [.int 1]) rfl ?_
                                  exact st_retZ rfl rfl (Or.inr rfl) (hQ _ _ h)
                                · have h := Eq.mp (if_neg hc_16) h
                                  refine st_if (t := 128) (b := false) rfl (decide_eq_false hc_16) rfl ?_
                                  refine st_go 3 (pc' := 133) (lo' := [(0, .ref 42), (1, .long x1)]) (st' := [.int (lg_cmp x1 18777)]) rfl ?_
                                  by_cases hc_17 : (lg_cmp x1 18777) = 0
                                  · have h := Eq.mp (if_pos hc_17) h
                                    refine st_if (t := 192) (b := true) rfl (decide_eq_true hc_17) rfl ?_
                                    refine st_go 2 (pc' := 197) (lo' := [(0, .ref 42), (1, .long x1)]) (st' := [.int 1]) rfl ?_
                                    exact st_retZ rfl rfl (Or.inr rfl) (hQ _ _ h)
                                  · have h := Eq.mp (if_neg hc_17) h
                                    refine st_if (t := 136) (b := false) rfl (decide_eq_false hc_17) rfl ?_
                                    refine st_go 3 (pc' := 141) (lo' := [(0, .ref 42), (1, .long x1)]) (st' := [.int (lg_cmp x1 20058)]) rfl ?_
                                    by_cases hc_18 : (lg_cmp x1 20058) = 0
                                    · have h := Eq.mp (if_pos hc_18) h
                                      refine st_if (t := 192) (b := true) rfl (decide_eq_true hc_18) rfl ?_
                                      refine st_go 2 (pc' := 197) (lo' := [(0, .ref 42), (1, .long x1)]) (st' := [.int 1]) rfl ?_
                                      exact st_retZ rfl rfl (Or.inr rfl) (hQ _ _ h)
                                    · have h := Eq.mp (if_neg hc_18) h
                                      refine st_if (t := 144) (b := false) rfl (decide_eq_false hc_18) rfl ?_
                                      refine st_go 3 (pc' := 149) (lo' := [(0, .ref 42), (1, .long x1)]) (st' := [.int (lg_cmp x1 90)]) rfl ?_
                                      by_cases hc_19 : (lg_cmp x1 90) = 0
                                      · have h := Eq.mp (if_pos hc_19) h
                                        refine st_if (t := 192) (b := true) rfl (decide_eq_true hc_19) rfl ?_
                                        refine st_go 2 (pc' := 197) (lo' := [(0, .ref 42), (1, .long x1)]) (st' := [.int 1]) rfl ?_
                                        exact st_retZ rfl rfl (Or.inr rfl) (hQ _ _ h)
                                      · have h := Eq.mp (if_neg hc_19) h
                                        refine st_if (t := 152) (b := false) rfl (decide_eq_false hc_19) rfl ?_
                                        refine st_go 3 (pc' := 157) (lo' := [(0, .ref 42), (1, .long x1)]) (st' := [.int (lg_cmp x1 20035)]) rfl ?_
                                        by_cases hc_20 : (lg_cmp x1 20035) = 0
                                        · have h := Eq.mp (if_pos hc_20) h
                                          refine st_if (t := 192) (b := true) rfl (decide_eq_true hc_20) rfl ?_
                                          refine st_go 2 (pc' := 197) (lo' := [(0, .ref 42), (1, .long x1)]) (st' := [.int 1]) rfl ?_
                                          exact st_retZ rfl rfl (Or.inr rfl) (hQ _ _ h)
                                        · have h := Eq.mp (if_neg hc_20) h
                                          refine st_if (t := 160) (b := false) rfl (decide_eq_false hc_20) rfl ?_
                                          refine st_go 3 (pc' := 165) (lo' := [(0, .ref 42), (1, .long x1)]) (st' := [.int (lg_cmp x1 20559)]) rfl ?_
                                          by_cases hc_21 : (lg_cmp x1 20559) = 0
                                          · have h := Eq.mp (if_pos hc_21) h
                                            refine st_if (t := 192) (b := true) rfl (decide_eq_true hc_21) rfl ?_
                                            refine st_go 2 (pc' := 197) (lo' := [(0, .ref 42), (1, .long x1)]) (st' := [.int 1]) rfl ?_
                                            exact st_retZ rfl rfl (Or.inr rfl) (hQ _ _ h)
                                          · have h := Eq.mp (if_neg hc_21) h
                                            refine st_if (t := 168) (b := false) rfl (decide_eq_false hc_21) rfl ?_
                                            refine st_go 3 (pc' := 173) (lo' := [(0, .ref 42), (1, .long x1)]) (st' := [.int (lg_cmp x1 20549)]) rfl ?_
                                            by_cases hc_22 : (lg_cmp x1 20549) = 0
                                            · have h := Eq.mp (if_pos hc_22) h
                                              refine st_if (t := 192) (b := true) rfl (decide_eq_true hc_22) rfl ?_
                                              refine st_go 2 (pc' := 197) (lo' := [(0, .ref 42), (1, .long x1)]) (st' := [.int 1]) rfl ?_
                                              exact st_retZ rfl rfl (Or.inr rfl) (hQ _ _ h)
                                            · have h := Eq.mp (if_neg hc_22) h
                                              refine st_if (t := 176) (b := false) rfl (decide_eq_false hc_22) rfl ?_
                                              refine st_go 3 (pc' := 181) (lo' := [(0, .ref 42), (1, .long x1)]) (st' := [.int (lg_cmp x1 80)]) rfl ?_
                                              by_cases hc_23 : (lg_cmp x1 80) = 0
                                              · have h := Eq.mp (if_pos hc_23) h
                                                refine st_if (t := 192) (b := true) rfl (decide_eq_true hc_23) rfl ?_
                                                refine st_go 2 (pc' := 197) (lo' := [(0, .ref 42), (1, .long x1)]) (st' := [.int 1]) rfl ?_
                                                exact st_retZ rfl rfl (Or.inr rfl) (hQ _ _ h)
                                              · have h := Eq.mp (if_neg hc_23) h
                                                refine st_if (t := 184) (b := false) rfl (decide_eq_false hc_23) rfl ?_
                                                refine st_go 3 (pc' := 189) (lo' := [(0, .ref 42), (1, .long x1)]) (st' := [.int (lg_cmp x1 77)]) rfl ?_
                                                by_cases hc_24 : (lg_cmp x1 77) = 0
                                                · have h := Eq.mp (if_pos hc_24) h
                                                  refine st_if (t := 192) (b := false) rfl (decide_eq_false (fun z => z hc_24)) rfl ?_
                                                  refine st_go 2 (pc' := 197) (lo' := [(0, .ref 42), (1, .long x1)]) (st' := [.int 1]) rfl ?_
                                                  exact st_retZ rfl rfl (Or.inr rfl) (hQ _ _ h)
                                                · have h := Eq.mp (if_neg hc_24) h
                                                  refine st_if (t := 196) (b := true) rfl (decide_eq_true hc_24) rfl ?_
                                                  refine st_go 1 (pc' := 197) (lo' := [(0, .ref 42), (1, .long x1)]) (st' := [.int 0]) rfl ?_
                                                  exact st_retZ rfl rfl (Or.inl rfl) (hQ _ _ h)
set_option maxRecDepth 100000 in
def MO_isStatement (x1 : Int64) (d : vmD) (Q : Int32 → vmD → Prop) : Prop :=
  if (lg_cmp x1 5198407) = 0 then
  (Q 1 d)
  else
  (if (lg_cmp x1 17474) = 0 then
  (Q 1 d)
  else
  (if (lg_cmp x1 17495) = 0 then
  (Q 1 d)
  else
  (if (lg_cmp x1 17491) = 0 then
  (Q 1 d)
  else
  (if (lg_cmp x1 18758) = 0 then
  (Q 1 d)
  else
  (if (lg_cmp x1 1162629957) = 0 then
  (Q 1 d)
  else
  (if (lg_cmp x1 297665841478) = 0 then
  (Q 1 d)
  else
  (Q 0 d)))))))
set_option maxRecDepth 100000 in
set_option maxHeartbeats 4000000 in
theorem tMO_isStatement {L : Nat} {e : vmD} {Qo : Option Value → vmW → Prop} {Q : Int32 → vmD → Prop} (hQ : ∀ r d, Q r d → Qo (some (.int r)) (wR L d e)) (x1 : Int64) (d : vmD) (h : MO_isStatement x1 d Q) : vmWp 263 0 [(0, .ref 42), (1, .long x1)] [] (wR L d e) Qo := by
  unfold MO_isStatement at h
  refine st_go 3 (pc' := 5) (lo' := [(0, .ref 42), (1, .long x1)]) (st' := [.int (lg_cmp x1 5198407)]) rfl ?_
  by_cases hc_1 : (lg_cmp x1 5198407) = 0
  · have h := Eq.mp (if_pos hc_1) h
    refine st_if (t := 56) (b := true) rfl (decide_eq_true hc_1) rfl ?_
    refine st_go 2 (pc' := 61) (lo' := [(0, .ref 42), (1, .long x1)]) (st' := [.int 1]) rfl ?_
    exact st_retZ rfl rfl (Or.inr rfl) (hQ _ _ h)
  · have h := Eq.mp (if_neg hc_1) h
    refine st_if (t := 8) (b := false) rfl (decide_eq_false hc_1) rfl ?_
    refine st_go 3 (pc' := 13) (lo' := [(0, .ref 42), (1, .long x1)]) (st' := [.int (lg_cmp x1 17474)]) rfl ?_
    by_cases hc_2 : (lg_cmp x1 17474) = 0
    · have h := Eq.mp (if_pos hc_2) h
      refine st_if (t := 56) (b := true) rfl (decide_eq_true hc_2) rfl ?_
      refine st_go 2 (pc' := 61) (lo' := [(0, .ref 42), (1, .long x1)]) (st' := [.int 1]) rfl ?_
      exact st_retZ rfl rfl (Or.inr rfl) (hQ _ _ h)
    · have h := Eq.mp (if_neg hc_2) h
      refine st_if (t := 16) (b := false) rfl (decide_eq_false hc_2) rfl ?_
      refine st_go 3 (pc' := 21) (lo' := [(0, .ref 42), (1, .long x1)]) (st' := [.int (lg_cmp x1 17495)]) rfl ?_
      by_cases hc_3 : (lg_cmp x1 17495) = 0
      · have h := Eq.mp (if_pos hc_3) h
        refine st_if (t := 56) (b := true) rfl (decide_eq_true hc_3) rfl ?_
        refine st_go 2 (pc' := 61) (lo' := [(0, .ref 42), (1, .long x1)]) (st' := [.int 1]) rfl ?_
        exact st_retZ rfl rfl (Or.inr rfl) (hQ _ _ h)
      · have h := Eq.mp (if_neg hc_3) h
        refine st_if (t := 24) (b := false) rfl (decide_eq_false hc_3) rfl ?_
        refine st_go 3 (pc' := 29) (lo' := [(0, .ref 42), (1, .long x1)]) (st' := [.int (lg_cmp x1 17491)]) rfl ?_
        by_cases hc_4 : (lg_cmp x1 17491) = 0
        · have h := Eq.mp (if_pos hc_4) h
          refine st_if (t := 56) (b := true) rfl (decide_eq_true hc_4) rfl ?_
          refine st_go 2 (pc' := 61) (lo' := [(0, .ref 42), (1, .long x1)]) (st' := [.int 1]) rfl ?_
          exact st_retZ rfl rfl (Or.inr rfl) (hQ _ _ h)
        · have h := Eq.mp (if_neg hc_4) h
          refine st_if (t := 32) (b := false) rfl (decide_eq_false hc_4) rfl ?_
          refine st_go 3 (pc' := 37) (lo' := [(0, .ref 42), (1, .long x1)]) (st' := [.int (lg_cmp x1 18758)]) rfl ?_
          by_cases hc_5 : (lg_cmp x1 18758) = 0
          · have h := Eq.mp (if_pos hc_5) h
            refine st_if (t := 56) (b := true) rfl (decide_eq_true hc_5) rfl ?_
            refine st_go 2 (pc' := 61) (lo' := [(0, .ref 42), (1, .long x1)]) (st' := [.int 1]) rfl ?_
            exact st_retZ rfl rfl (Or.inr rfl) (hQ _ _ h)
          · have h := Eq.mp (if_neg hc_5) h
            refine st_if (t := 40) (b := false) rfl (decide_eq_false hc_5) rfl ?_
            refine st_go 3 (pc' := 45) (lo' := [(0, .ref 42), (1, .long x1)]) (st' := [.int (lg_cmp x1 1162629957)]) rfl ?_
            by_cases hc_6 : (lg_cmp x1 1162629957) = 0
            · have h := Eq.mp (if_pos hc_6) h
              refine st_if (t := 56) (b := true) rfl (decide_eq_true hc_6) rfl ?_
              refine st_go 2 (pc' := 61) (lo' := [(0, .ref 42), (1, .long x1)]) (st' := [.int 1]) rfl ?_
              exact st_retZ rfl rfl (Or.inr rfl) (hQ _ _ h)
            · have h := Eq.mp (if_neg hc_6) h
              refine st_if (t := 48) (b := false) rfl (decide_eq_false hc_6) rfl ?_
              refine st_go 3 (pc' := 53) (lo' := [(0, .ref 42), (1, .long x1)]) (st' := [.int (lg_cmp x1 297665841478)]) rfl ?_
              by_cases hc_7 : (lg_cmp x1 297665841478) = 0
              · have h := Eq.mp (if_pos hc_7) h
                refine st_if (t := 56) (b := false) rfl (decide_eq_false (fun z => z hc_7)) rfl ?_
                refine st_go 2 (pc' := 61) (lo' := [(0, .ref 42), (1, .long x1)]) (st' := [.int 1]) rfl ?_
                exact st_retZ rfl rfl (Or.inr rfl) (hQ _ _ h)
              · have h := Eq.mp (if_neg hc_7) h
                refine st_if (t := 60) (b := true) rfl (decide_eq_true hc_7) rfl ?_
                refine st_go 1 (pc' := 61) (lo' := [(0, .ref 42), (1, .long x1)]) (st' := [.int 0]) rfl ?_
                exact st_retZ rfl rfl (Or.inl rfl) (hQ _ _ h)
set_option maxRecDepth 100000 in
def MO_plain (x1 : Int64) (d : vmD) (Q : Int32 → vmD → Prop) : Prop :=
  if (lg_cmp x1 5132112) = 0 then
  (Q 0 d)
  else
  (if (lg_cmp x1 1380729665) = 0 then
  (Q 7 d)
  else
  (if (lg_cmp x1 1381122881) = 0 then
  (Q 15 d)
  else
  (if (lg_cmp x1 5393473) = 0 then
  (Q 23 d)
  else
  (if (lg_cmp x1 5395009) = 0 then
  (Q 31 d)
  else
  (if (lg_cmp x1 4473153) = 0 then
  (Q 39 d)
  else
  (if (lg_cmp x1 4411468) = 0 then
  (Q 47 d)
  else
  (if (lg_cmp x1 5456710) = 0 then
  (Q 55 d)
  else
  (if (lg_cmp x1 4408134) = 0 then
  (Q 63 d)
  else
  (if (lg_cmp x1 1212238932) = 0 then
  (Q 118 d)
  else
  (if (lg_cmp x1 4544600) = 0 then
  (Q 217 d)
  else
  (if (lg_cmp x1 17481) = 0 then
  (Q 243 d)
  else
  (if (lg_cmp x1 17737) = 0 then
  (Q 251 d)
  else
  (if (lg_cmp x1 5129543) = 0 then
  (Q 324 d)
  else
  (if (lg_cmp x1 1380275278) = 0 then
  (Q 325 d)
  else
  (if (lg_cmp x1 1380275273) = 0 then
  (Q 333 d)
  else
  (if (lg_cmp x1 5395012) = 0 then
  (Q 359 d)
  else
  (if (lg_cmp x1 5393476) = 0 then
  (Q 367 d)
  else
  (if (lg_cmp x1 4998217) = 0 then
  (Q 416 d)
  else
  (if (lg_cmp x1 4411465) = 0 then
  (Q 417 d)
  else
  (if (lg_cmp x1 4804169) = 0 then
  (Q 418 d)
  else
  (if (lg_cmp x1 1330992201) = 0 then
  (Q 419 d)
  else
  (if (lg_cmp x1 4998212) = 0 then
  (Q 424 d)
  else
  (if (lg_cmp x1 4411460) = 0 then
  (Q 425 d)
  else
  (if (lg_cmp x1 4804164) = 0 then
  (Q 426 d)
  else
  (if (lg_cmp x1 1330992196) = 0 then
  (Q 427 d)
  else
  (if (lg_cmp x1 1279543634) = 0 then
  (Q 432 d)
  else
  (if (lg_cmp x1 1129335122) = 0 then
  (Q 433 d)
  else
  (if (lg_cmp x1 1229867346) = 0 then
  (Q 434 d)
  else
  (if (lg_cmp x1 1330923858) = 0 then
  (Q 435 d)
  else
  (if (lg_cmp x1 1279542354) = 0 then
  (Q 440 d)
  else
  (if (lg_cmp x1 1129333842) = 0 then
  (Q 441 d)
  else
  (if (lg_cmp x1 1229866066) = 0 then
  (Q 442 d)
  else
  (if (lg_cmp x1 1330922578) = 0 then
  (Q 443 d)
  else
  (Q (-1) d))))))))))))))))))))))))))))))))))
set_option maxRecDepth 100000 in
set_option maxHeartbeats 4000000 in
theorem tMO_plain {L : Nat} {e : vmD} {Qo : Option Value → vmW → Prop} {Q : Int32 → vmD → Prop} (hQ : ∀ r d, Q r d → Qo (some (.int r)) (wR L d e)) (x1 : Int64) (d : vmD) (h : MO_plain x1 d Q) : vmWp 265 0 [(0, .ref 42), (1, .long x1)] [] (wR L d e) Qo := by
  unfold MO_plain at h
  refine st_go 3 (pc' := 5) (lo' := [(0, .ref 42), (1, .long x1)]) (st' := [.int (lg_cmp x1 5132112)]) rfl ?_
  by_cases hc_1 : (lg_cmp x1 5132112) = 0
  · have h := Eq.mp (if_pos hc_1) h
    refine st_if (t := 8) (b := false) rfl (decide_eq_false (fun z => z hc_1)) rfl ?_
    refine st_go 1 (pc' := 9) (lo' := [(0, .ref 42), (1, .long x1)]) (st' := [.int 0]) rfl ?_
    exact st_retI rfl rfl (hQ _ _ h)
  · have h := Eq.mp (if_neg hc_1) h
    refine st_if (t := 10) (b := true) rfl (decide_eq_true hc_1) rfl ?_
    refine st_go 3 (pc' := 15) (lo' := [(0, .ref 42), (1, .long x1)]) (st' := [.int (lg_cmp x1 1380729665)]) rfl ?_
    by_cases hc_2 : (lg_cmp x1 1380729665) = 0
    · have h := Eq.mp (if_pos hc_2) h
      refine st_if (t := 18) (b := false) rfl (decide_eq_false (fun z => z hc_2)) rfl ?_
      refine st_go 1 (pc' := 20) (lo' := [(0, .ref 42), (1, .long x1)]) (st' := [.int 7]) rfl ?_
      exact st_retI rfl rfl (hQ _ _ h)
    · have h := Eq.mp (if_neg hc_2) h
      refine st_if (t := 21) (b := true) rfl (decide_eq_true hc_2) rfl ?_
      refine st_go 3 (pc' := 26) (lo' := [(0, .ref 42), (1, .long x1)]) (st' := [.int (lg_cmp x1 1381122881)]) rfl ?_
      by_cases hc_3 : (lg_cmp x1 1381122881) = 0
      · have h := Eq.mp (if_pos hc_3) h
        refine st_if (t := 29) (b := false) rfl (decide_eq_false (fun z => z hc_3)) rfl ?_
        refine st_go 1 (pc' := 31) (lo' := [(0, .ref 42), (1, .long x1)]) (st' := [.int 15]) rfl ?_
        exact st_retI rfl rfl (hQ _ _ h)
      · have h := Eq.mp (if_neg hc_3) h
        refine st_if (t := 32) (b := true) rfl (decide_eq_true hc_3) rfl ?_
        refine st_go 3 (pc' := 37) (lo' := [(0, .ref 42), (1, .long x1)]) (st' := [.int (lg_cmp x1 5393473)]) rfl ?_
        by_cases hc_4 : (lg_cmp x1 5393473) = 0
        · have h := Eq.mp (if_pos hc_4) h
          refine st_if (t := 40) (b := false) rfl (decide_eq_false (fun z => z hc_4)) rfl ?_
          refine st_go 1 (pc' := 42) (lo' := [(0, .ref 42), (1, .long x1)]) (st' := [.int 23]) rfl ?_
          exact st_retI rfl rfl (hQ _ _ h)
        · have h := Eq.mp (if_neg hc_4) h
          refine st_if (t := 43) (b := true) rfl (decide_eq_true hc_4) rfl ?_
          refine st_go 3 (pc' := 48) (lo' := [(0, .ref 42), (1, .long x1)]) (st' := [.int (lg_cmp x1 5395009)]) rfl ?_
          by_cases hc_5 : (lg_cmp x1 5395009) = 0
          · have h := Eq.mp (if_pos hc_5) h
            refine st_if (t := 51) (b := false) rfl (decide_eq_false (fun z => z hc_5)) rfl ?_
            refine st_go 1 (pc' := 53) (lo' := [(0, .ref 42), (1, .long x1)]) (st' := [.int 31]) rfl ?_
            exact st_retI rfl rfl (hQ _ _ h)
          · have h := Eq.mp (if_neg hc_5) h
            refine st_if (t := 54) (b := true) rfl (decide_eq_true hc_5) rfl ?_
            refine st_go 3 (pc' := 59) (lo' := [(0, .ref 42), (1, .long x1)]) (st' := [.int (lg_cmp x1 4473153)]) rfl ?_
            by_cases hc_6 : (lg_cmp x1 4473153) = 0
            · have h := Eq.mp (if_pos hc_6) h
              refine st_if (t := 62) (b := false) rfl (decide_eq_false (fun z => z hc_6)) rfl ?_
              refine st_go 1 (pc' := 64) (lo' := [(0, .ref 42), (1, .long x1)]) (st' := [.int 39]) rfl ?_
              exact st_retI rfl rfl (hQ _ _ h)
            · have h := Eq.mp (if_neg hc_6) h
              refine st_if (t := 65) (b := true) rfl (decide_eq_true hc_6) rfl ?_
              refine st_go 3 (pc' := 70) (lo' := [(0, .ref 42), (1, .long x1)]) (st' := [.int (lg_cmp x1 4411468)]) rfl ?_
              by_cases hc_7 : (lg_cmp x1 4411468) = 0
              · have h := Eq.mp (if_pos hc_7) h
                refine st_if (t := 73) (b := false) rfl (decide_eq_false (fun z => z hc_7)) rfl ?_
                refine st_go 1 (pc' := 75) (lo' := [(0, .ref 42), (1, .long x1)]) (st' := [.int 47]) rfl ?_
                exact st_retI rfl rfl (hQ _ _ h)
              · have h := Eq.mp (if_neg hc_7) h
                refine st_if (t := 76) (b := true) rfl (decide_eq_true hc_7) rfl ?_
                refine st_go 3 (pc' := 81) (lo' := [(0, .ref 42), (1, .long x1)]) (st' := [.int (lg_cmp x1 5456710)]) rfl ?_
                by_cases hc_8 : (lg_cmp x1 5456710) = 0
                · have h := Eq.mp (if_pos hc_8) h
                  refine st_if (t := 84) (b := false) rfl (decide_eq_false (fun z => z hc_8)) rfl ?_
                  refine st_go 1 (pc' := 86) (lo' := [(0, .ref 42), (1, .long x1)]) (st' := [.int 55]) rfl ?_
                  exact st_retI rfl rfl (hQ _ _ h)
                · have h := Eq.mp (if_neg hc_8) h
                  refine st_if (t := 87) (b := true) rfl (decide_eq_true hc_8) rfl ?_
                  refine st_go 3 (pc' := 92) (lo' := [(0, .ref 42), (1, .long x1)]) (st' := [.int (lg_cmp x1 4408134)]) rfl ?_
                  by_cases hc_9 : (lg_cmp x1 4408134) = 0
                  · have h := Eq.mp (if_pos hc_9) h
                    refine st_if (t := 95) (b := false) rfl (decide_eq_false (fun z => z hc_9)) rfl ?_
                    refine st_go 1 (pc' := 97) (lo' := [(0, .ref 42), (1, .long x1)]) (st' := [.int 63]) rfl ?_
                    exact st_retI rfl rfl (hQ _ _ h)
                  · have h := Eq.mp (if_neg hc_9) h
                    refine st_if (t := 98) (b := true) rfl (decide_eq_true hc_9) rfl ?_
                    refine st_go 3 (pc' := 103) (lo' := [(0, .ref 42), (1, .long x1)]) (st' := [.int (lg_cmp x1 1212238932)]) rfl ?_
                    by_cases hc_10 : (lg_cmp x1 1212238932) = 0
                    · have h := Eq.mp (if_pos hc_10) h
                      refine st_if (t := 106) (b := false) rfl (decide_eq_false (fun z => z hc_10)) rfl ?_
                      refine st_go 1 (pc' := 108) (lo' := [(0, .ref 42), (1, .long x1)]) (st' := [.int 118]) rfl ?_
                      exact st_retI rfl rfl (hQ _ _ h)
                    · have h := Eq.mp (if_neg hc_10) h
                      refine st_if (t := 109) (b := true) rfl (decide_eq_true hc_10) rfl ?_
                      refine st_go 3 (pc' := 114) (lo' := [(0, .ref 42), (1, .long x1)]) (st' := [.int (lg_cmp x1 4544600)]) rfl ?_
                      by_cases hc_11 : (lg_cmp x1 4544600) = 0
                      · have h := Eq.mp (if_pos hc_11) h
                        refine st_if (t := 117) (b := false) rfl (decide_eq_false (fun z => z hc_11)) rfl ?_
                        refine st_go 1 (pc' := 120) (lo' := [(0, .ref 42), (1, .long x1)]) (st' := [.int 217]) rfl ?_
                        exact st_retI rfl rfl (hQ _ _ h)
                      · have h := Eq.mp (if_neg hc_11) h
                        refine st_if (t := 121) (b := true) rfl (decide_eq_true hc_11) rfl ?_
                        refine st_go 3 (pc' := 126) (lo' := [(0, .ref 42), (1, .long x1)]) (st' := [.int (lg_cmp x1 17481)]) rfl ?_
                        by_cases hc_12 : (lg_cmp x1 17481) = 0
                        · have h := Eq.mp (if_pos hc_12) h
                          refine st_if (t := 129) (b := false) rfl (decide_eq_false (fun z => z hc_12)) rfl ?_
                          refine st_go 1 (pc' := 132) (lo' := [(0, .ref 42), (1, .long x1)]) (st' := [.int 243]) rfl ?_
                          exact st_retI rfl rfl (hQ _ _ h)
                        · have h := Eq.mp (if_neg hc_12) h
                          refine st_if (t := 133) (b := true) rfl (decide_eq_true hc_12) rfl ?_
                          refine st_go 3 (pc' := 138) (lo' := [(0, .ref 42), (1, .long x1)]) (st' := [.int (lg_cmp x1 17737)]) rfl ?_
                          by_cases hc_13 : (lg_cmp x1 17737) = 0
                          · have h := Eq.mp (if_pos hc_13) h
                            refine st_if (t := 141) (b := false) rfl (decide_eq_false (fun z => z hc_13)) rfl ?_
                            refine st_go 1 (pc' := 144) (lo' := [(0, .ref 42), (1, .long x1)]) (st' := [.int 251]) rfl ?_
                            exact st_retI rfl rfl (hQ _ _ h)
                          · have h := Eq.mp (if_neg hc_13) h
                            refine st_if (t := 145) (b := true) rfl (decide_eq_true hc_13) rfl ?_
                            refine st_go 3 (pc' := 150) (lo' := [(0, .ref 42), (1, .long x1)]) (st' := [.int (lg_cmp x1 5129543)]) rfl ?_
                            by_cases hc_14 : (lg_cmp x1 5129543) = 0
                            · have h := Eq.mp (if_pos hc_14) h
                              refine st_if (t := 153) (b := false) rfl (decide_eq_false (fun z => z hc_14)) rfl ?_
                              refine st_go 1 (pc' := 156) (lo' := [(0, .ref 42), (1, .long x1)]) (st' := [.int 324]) rfl ?_
                              exact st_retI rfl rfl (hQ _ _ h)
                            · have h := Eq.mp (if_neg hc_14) h
                              refine st_if (t := 157) (b := true) rfl (decide_eq_true hc_14) rfl ?_
                              refine st_go 3 (pc' := 162) (lo' := [(0, .ref 42), (1, .long x1)]) (st' := [.int (lg_cmp x1 1380275278)]) rfl ?_
                              by_cases hc_15 : (lg_cmp x1 1380275278) = 0
                              · have h := Eq.mp (if_pos hc_15) h
                                refine st_if (t := 165) (b := false) rfl (decide_eq_false (fun z => z hc_15)) rfl ?_
                                refine st_go 1 (pc' := 168) (lo' := [(0, .ref 42), (1, .long x1)]) (st' := [.int 325]) rfl ?_
                                exact st_retI rfl rfl (hQ _ _ h)
                              · have h := Eq.mp (if_neg hc_15) h
                                refine st_if (t := 169) (b := true) rfl (decide_eq_true hc_15) rfl ?_
                                refine st_go 3 (pc' := 174) (lo' := [(0, .ref 42), (1, .long x1)]) (st' := [.int (lg_cmp x1 1380275273)]) rfl ?_
                                by_cases hc_16 : (lg_cmp x1 1380275273) = 0
                                · have h := Eq.mp (if_pos hc_16) h
                                  refine st_if (t := 177) (b := false) rfl (decide_eq_false (fun z => z hc_16)) rfl ?_
                                  refine st_go 1 (pc' := 180) (lo' := [(0, .ref 42), (1, .long x1)]) (st' := [.int 333]) rfl ?_
                                  exact st_retI rfl rfl (hQ _ _ h)
                                · have h := Eq.mp (if_neg hc_16) h
                                  refine st_if (t := 181) (b := true) rfl (decide_eq_true hc_16) rfl ?_
                                  refine st_go 3 (pc' := 186) (lo' := [(0, .ref 42), (1, .long x1)]) (st' := [.int (lg_cmp x1 5395012)]) rfl ?_
                                  by_cases hc_17 : (lg_cmp x1 5395012) = 0
                                  · have h := Eq.mp (if_pos hc_17) h
                                    refine st_if (t := 189) (b := false) rfl (decide_eq_false (fun z => z hc_17)) rfl ?_
                                    refine st_go 1 (pc' := 192) (lo' := [(0, .ref 42), (1, .long x1)]) (st' := [.int 359]) rfl ?_
                                    exact st_retI rfl rfl (hQ _ _ h)
                                  · have h := Eq.mp (if_neg hc_17) h
                                    refine st_if (t := 193) (b := true) rfl (decide_eq_true hc_17) rfl ?_
                                    refine st_go 3 (pc' := 198) (lo' := [(0, .ref 42), (1, .long x1)]) (st' := [.int (lg_cmp x1 5393476)]) rfl ?_
                                    by_cases hc_18 : (lg_cmp x1 5393476) = 0
                                    · have h := Eq.mp (if_pos hc_18) h
                                      refine st_if (t := 201) (b := false) rfl (decide_eq_false (fun z => z hc_18)) rfl ?_
                                      refine st_go 1 (pc' := 204) (lo' := [(0, .ref 42), (1, .long x1)]) (st' := [.int 367]) rfl ?_
                                      exact st_retI rfl rfl (hQ _ _ h)
                                    · have h := Eq.mp (if_neg hc_18) h
                                      refine st_if (t := 205) (b := true) rfl (decide_eq_true hc_18) rfl ?_
                                      refine st_go 3 (pc' := 210) (lo' := [(0, .ref 42), (1, .long x1)]) (st' := [.int (lg_cmp x1 4998217)]) rfl ?_
                                      by_cases hc_19 : (lg_cmp x1 4998217) = 0
                                      · have h := Eq.mp (if_pos hc_19) h
                                        refine st_if (t := 213) (b := false) rfl (decide_eq_false (fun z => z hc_19)) rfl ?_
                                        refine st_go 1 (pc' := 216) (lo' := [(0, .ref 42), (1, .long x1)]) (st' := [.int 416]) rfl ?_
                                        exact st_retI rfl rfl (hQ _ _ h)
                                      · have h := Eq.mp (if_neg hc_19) h
                                        refine st_if (t := 217) (b := true) rfl (decide_eq_true hc_19) rfl ?_
                                        refine st_go 3 (pc' := 222) (lo' := [(0, .ref 42), (1, .long x1)]) (st' := [.int (lg_cmp x1 4411465)]) rfl ?_
                                        by_cases hc_20 : (lg_cmp x1 4411465) = 0
                                        · have h := Eq.mp (if_pos hc_20) h
                                          refine st_if (t := 225) (b := false) rfl (decide_eq_false (fun z => z hc_20)) rfl ?_
                                          refine st_go 1 (pc' := 228) (lo' := [(0, .ref 42), (1, .long x1)]) (st' := [.int 417]) rfl ?_
                                          exact st_retI rfl rfl (hQ _ _ h)
                                        · have h := Eq.mp (if_neg hc_20) h
                                          refine st_if (t := 229) (b := true) rfl (decide_eq_true hc_20) rfl ?_
                                          refine st_go 3 (pc' := 234) (lo' := [(0, .ref 42), (1, .long x1)]) (st' := [.int (lg_cmp x1 4804169)]) rfl ?_
                                          by_cases hc_21 : (lg_cmp x1 4804169) = 0
                                          · have h := Eq.mp (if_pos hc_21) h
                                            refine st_if (t := 237) (b := false) rfl (decide_eq_false (fun z => z hc_21)) rfl ?_
                                            refine st_go 1 (pc' := 240) (lo' := [(0, .ref 42), (1, .long x1)]) (st' := [.int 418]) rfl ?_
                                            exact st_retI rfl rfl (hQ _ _ h)
                                          · have h := Eq.mp (if_neg hc_21) h
                                            refine st_if (t := 241) (b := true) rfl (decide_eq_true hc_21) rfl ?_
                                            refine st_go 3 (pc' := 246) (lo' := [(0, .ref 42), (1, .long x1)]) (st' := [.int (lg_cmp x1 1330992201)]) rfl ?_
                                            by_cases hc_22 : (lg_cmp x1 1330992201) = 0
                                            · have h := Eq.mp (if_pos hc_22) h
                                              refine st_if (t := 249) (b := false) rfl (decide_eq_false (fun z => z hc_22)) rfl ?_
                                              refine st_go 1 (pc' := 252) (lo' := [(0, .ref 42), (1, .long x1)]) (st' := [.int 419]) rfl ?_
                                              exact st_retI rfl rfl (hQ _ _ h)
                                            · have h := Eq.mp (if_neg hc_22) h
                                              refine st_if (t := 253) (b := true) rfl (decide_eq_true hc_22) rfl ?_
                                              refine st_go 3 (pc' := 258) (lo' := [(0, .ref 42), (1, .long x1)]) (st' := [.int (lg_cmp x1 4998212)]) rfl ?_
                                              by_cases hc_23 : (lg_cmp x1 4998212) = 0
                                              · have h := Eq.mp (if_pos hc_23) h
                                                refine st_if (t := 261) (b := false) rfl (decide_eq_false (fun z => z hc_23)) rfl ?_
                                                refine st_go 1 (pc' := 264) (lo' := [(0, .ref 42), (1, .long x1)]) (st' := [.int 424]) rfl ?_
                                                exact st_retI rfl rfl (hQ _ _ h)
                                              · have h := Eq.mp (if_neg hc_23) h
                                                refine st_if (t := 265) (b := true) rfl (decide_eq_true hc_23) rfl ?_
                                                refine st_go 3 (pc' := 270) (lo' := [(0, .ref 42), (1, .long x1)]) (st' := [.int (lg_cmp x1 4411460)]) rfl ?_
                                                by_cases hc_24 : (lg_cmp x1 4411460) = 0
                                                · have h := Eq.mp (if_pos hc_24) h
                                                  refine st_if (t := 273) (b := false) rfl (decide_eq_false (fun z => z hc_24)) rfl ?_
                                                  refine st_go 1 (pc' := 276) (lo' := [(0, .ref 42), (1, .long x1)]) (st' := [.int 425]) rfl ?_
                                                  exact st_retI rfl rfl (hQ _ _ h)
                                                · have h := Eq.mp (if_neg hc_24) h
                                                  refine st_if (t := 277) (b := true) rfl (decide_eq_true hc_24) rfl ?_
                                                  refine st_go 3 (pc' := 282) (lo' := [(0, .ref 42), (1, .long x1)]) (st' := [.int (lg_cmp x1 4804164)]) rfl ?_
                                                  by_cases hc_25 : (lg_cmp x1 4804164) = 0
                                                  · have h := Eq.mp (if_pos hc_25) h
                                                    refine st_if (t := 285) (b := false) rfl (decide_eq_false (fun z => z hc_25)) rfl ?_
                                                    refine st_go 1 (pc' := 288) (lo' := [(0, .ref 42), (1, .long x1)]) (st' := [.int 426]) rfl ?_
                                                    exact st_retI rfl rfl (hQ _ _ h)
                                                  · have h := Eq.mp (if_neg hc_25) h
                                                    refine st_if (t := 289) (b := true) rfl (decide_eq_true hc_25) rfl ?_
                                                    refine st_go 3 (pc' := 294) (lo' := [(0, .ref 42), (1, .long x1)]) (st' := [.int (lg_cmp x1 1330992196)]) rfl ?_
                                                    by_cases hc_26 : (lg_cmp x1 1330992196) = 0
                                                    · have h := Eq.mp (if_pos hc_26) h
                                                      refine st_if (t := 297) (b := false) rfl (decide_eq_false (fun z => z hc_26)) rfl ?_
                                                      refine st_go 1 (pc' := 300) (lo' := [(0, .ref 42), (1, .long x1)]) (st' := [.int 427]) rfl ?_
                                                      exact st_retI rfl rfl (hQ _ _ h)
                                                    · have h := Eq.mp (if_neg hc_26) h
                                                      refine st_if (t := 301) (b := true) rfl (decide_eq_true hc_26) rfl ?_
                                                      refine st_go 3 (pc' := 306) (lo' := [(0, .ref 42), (1, .long x1)]) (st' := [.int (lg_cmp x1 1279543634)]) rfl ?_
                                                      by_cases hc_27 : (lg_cmp x1 1279543634) = 0
                                                      · have h := Eq.mp (if_pos hc_27) h
                                                        refine st_if (t := 309) (b := false) rfl (decide_eq_false (fun z => z hc_27)) rfl ?_
                                                        refine st_go 1 (pc' := 312) (lo' := [(0, .ref 42), (1, .long x1)]) (st' := [.int 432]) rfl ?_
                                                        exact st_retI rfl rfl (hQ _ _ h)
                                                      · have h := Eq.mp (if_neg hc_27) h
                                                        refine st_if (t := 313) (b := true) rfl (decide_eq_true hc_27) rfl ?_
                                                        refine st_go 3 (pc' := 318) (lo' := [(0, .ref 42), (1, .long x1)]) (st' := [.int (lg_cmp x1 1129335122)]) rfl ?_
                                                        by_cases hc_28 : (lg_cmp x1 1129335122) = 0
                                                        · have h := Eq.mp (if_pos hc_28) h
                                                          refine st_if (t := 321) (b := false) rfl (decide_eq_false (fun z => z hc_28)) rfl ?_
                                                          refine st_go 1 (pc' := 324) (lo' := [(0, .ref 42), (1, .long x1)]) (st' := [.int 433]) rfl ?_
                                                          exact st_retI rfl rfl (hQ _ _ h)
                                                        · have h := Eq.mp (if_neg hc_28) h
                                                          refine st_if (t := 325) (b := true) rfl (decide_eq_true hc_28) rfl ?_
                                                          refine st_go 3 (pc' := 330) (lo' := [(0, .ref 42), (1, .long x1)]) (st' := [.int (lg_cmp x1 1229867346)]) rfl ?_
                                                          by_cases hc_29 : (lg_cmp x1 1229867346) = 0
                                                          · have h := Eq.mp (if_pos hc_29) h
                                                            refine st_if (t := 333) (b := false) rfl (decide_eq_false (fun z => z hc_29)) rfl ?_
                                                            refine st_go 1 (pc' := 336) (lo' := [(0, .ref 42), (1, .long x1)]) (st' := [.int 434]) rfl ?_
                                                            exact st_retI rfl rfl (hQ _ _ h)
                                                          · have h := Eq.mp (if_neg hc_29) h
                                                            refine st_if (t := 337) (b := true) rfl (decide_eq_true hc_29) rfl ?_
                                                            refine st_go 3 (pc' := 342) (lo' := [(0, .ref 42), (1, .long x1)]) (st' := [.int (lg_cmp x1 1330923858)]) rfl ?_
                                                            by_cases hc_30 : (lg_cmp x1 1330923858) = 0
                                                            · have h := Eq.mp (if_pos hc_30) h
                                                              refine st_if (t := 345) (b := false) rfl (decide_eq_false (fun z => z hc_30)) rfl ?_
                                                              refine st_go 1 (pc' := 348) (lo' := [(0, .ref 42), (1, .long x1)]) (st' := [.int 435]) rfl ?_
                                                              exact st_retI rfl rfl (hQ _ _ h)
                                                            · have h := Eq.mp (if_neg hc_30) h
                                                              refine st_if (t := 349) (b := true) rfl (decide_eq_true hc_30) rfl ?_
                                                              refine st_go 3 (pc' := 354) (lo' := [(0, .ref 42), (1, .long x1)]) (st' := [.int (lg_cmp x1 1279542354)]) rfl ?_
                                                              by_cases hc_31 : (lg_cmp x1 1279542354) = 0
                                                              · have h := Eq.mp (if_pos hc_31) h
                                                                refine st_if (t := 357) (b := false) rfl (decide_eq_false (fun z => z hc_31)) rfl ?_
                                                                refine st_go 1 (pc' := 360) (lo' := [(0, .ref 42), (1, .long x1)]) (st' := [.int 440]) rfl ?_
                                                                exact st_retI rfl rfl (hQ _ _ h)
                                                              · have h := Eq.mp (if_neg hc_31) h
                                                                refine st_if (t := 361) (b := true) rfl (decide_eq_true hc_31) rfl ?_
                                                                refine st_go 3 (pc' := 366) (lo' := [(0, .ref 42), (1, .long x1)]) (st' := [.int (lg_cmp x1 1129333842)]) rfl ?_
                                                                by_cases hc_32 : (lg_cmp x1 1129333842) = 0
                                                                · have h := Eq.mp (if_pos hc_32) h
                                                                  refine st_if (t := 369) (b := false) rfl (decide_eq_false (fun z => z hc_32)) rfl ?_
                                                                  refine st_go 1 (pc' := 372) (lo' := [(0, .ref 42), (1, .long x1)]) (st' := [.int 441]) rfl ?_
                                                                  exact st_retI rfl rfl (hQ _ _ h)
                                                                · have h := Eq.mp (if_neg hc_32) h
                                                                  refine st_if (t := 373) (b := true) rfl (decide_eq_true hc_32) rfl ?_
                                                                  refine st_go 3 (pc' := 378) (lo' := [(0, .ref 42), (1, .long x1)]) (st' := [.int (lg_cmp x1 1229866066)]) rfl ?_
                                                                  by_cases hc_33 : (lg_cmp x1 1229866066) = 0
                                                                  · have h := Eq.mp (if_pos hc_33) h
                                                                    refine st_if (t := 381) (b := false) rfl (decide_eq_false (fun z => z hc_33)) rfl ?_
                                                                    refine st_go 1 (pc' := 384) (lo' := [(0, .ref 42), (1, .long x1)]) (st' := [.int 442]) rfl ?_
                                                                    exact st_retI rfl rfl (hQ _ _ h)
                                                                  · have h := Eq.mp (if_neg hc_33) h
                                                                    refine st_if (t := 385) (b := true) rfl (decide_eq_true hc_33) rfl ?_
                                                                    refine st_go 3 (pc' := 390) (lo' := [(0, .ref 42), (1, .long x1)]) (st' := [.int (lg_cmp x1 1330922578)]) rfl ?_
                                                                    by_cases hc_34 : (lg_cmp x1 1330922578) = 0
                                                                    · have h := Eq.mp (if_pos hc_34) h
                                                                      refine st_if (t := 393) (b := false) rfl (decide_eq_false (fun z => z hc_34)) rfl ?_
                                                                      refine st_go 1 (pc' := 396) (lo' := [(0, .ref 42), (1, .long x1)]) (st' := [.int 443]) rfl ?_
                                                                      exact st_retI rfl rfl (hQ _ _ h)
                                                                    · have h := Eq.mp (if_neg hc_34) h
                                                                      refine st_if (t := 397) (b := true) rfl (decide_eq_true hc_34) rfl ?_
                                                                      refine st_go 1 (pc' := 398) (lo' := [(0, .ref 42), (1, .long x1)]) (st' := [.int (-1)]) rfl ?_
                                                                      exact st_retI rfl rfl (hQ _ _ h)
set_option maxRecDepth 100000 in
def MO_isMany (x1 : Int64) (d : vmD) (Q : Int32 → vmD → Prop) : Prop :=
  if (lg_cmp x1 17752) = 0 then
  (Q 1 d)
  else
  (if (lg_cmp x1 1145720410) = 0 then
  (Q 1 d)
  else
  (if (lg_cmp x1 19026) = 0 then
  (Q 1 d)
  else
  (if (lg_cmp x1 19524) = 0 then
  (Q 1 d)
  else
  (if (lg_cmp x1 4804163) = 0 then
  (Q 1 d)
  else
  (if (lg_cmp x1 4474179) = 0 then
  (Q 1 d)
  else
  (if (lg_cmp x1 4277316) = 0 then
  (Q 1 d)
  else
  (if (lg_cmp x1 4277315) = 0 then
  (Q 1 d)
  else
  (if (lg_cmp x1 5461314) = 0 then
  (Q 1 d)
  else
  (if (lg_cmp x1 5456451) = 0 then
  (Q 1 d)
  else
  (if (lg_cmp x1 4279876) = 0 then
  (Q 1 d)
  else
  (if (lg_cmp x1 5787474) = 0 then
  (Q 1 d)
  else
  (if (lg_cmp x1 20306) = 0 then
  (Q 1 d)
  else
  (if (lg_cmp x1 17232) = 0 then
  (Q 1 d)
  else
  (if (lg_cmp x1 5391700) = 0 then
  (Q 1 d)
  else
  (if (lg_cmp x1 5263184) = 0 then
  (Q 1 d)
  else
  (if (lg_cmp x1 1347769160) = 0 then
  (Q 1 d)
  else
  (if (lg_cmp x1 19024) = 0 then
  (Q 1 d)
  else
  (if (lg_cmp x1 1128352844) = 0 then
  (Q 1 d)
  else
  (if (lg_cmp x1 5395284) = 0 then
  (Q 1 d)
  else
  (if (lg_cmp x1 5199188) = 0 then
  (Q 1 d)
  else
  (if (lg_cmp x1 18766) = 0 then
  (Q 1 d)
  else
  (if (lg_cmp x1 5393475) = 0 then
  (Q 1 d)
  else
  (if (lg_cmp x1 5395011) = 0 then
  (Q 1 d)
  else
  (if (lg_cmp x1 21068) = 0 then
  (Q 1 d)
  else
  (if (lg_cmp x1 21074) = 0 then
  (Q 1 d)
  else
  (if (lg_cmp x1 5459009) = 0 then
  (Q 1 d)
  else
  (if (lg_cmp x1 5460545) = 0 then
  (Q 1 d)
  else
  (if (lg_cmp x1 5460556) = 0 then
  (Q 1 d)
  else
  (if (lg_cmp x1 4344148) = 0 then
  (Q 1 d)
  else
  (if (lg_cmp x1 5391699) = 0 then
  (Q 1 d)
  else
  (if (lg_cmp x1 5457236) = 0 then
  (Q 1 d)
  else
  (if (lg_cmp x1 18765) = 0 then
  (Q 1 d)
  else
  (Q 0 d)))))))))))))))))))))))))))))))))
set_option maxRecDepth 100000 in
set_option maxHeartbeats 4000000 in
theorem tMO_isMany {L : Nat} {e : vmD} {Qo : Option Value → vmW → Prop} {Q : Int32 → vmD → Prop} (hQ : ∀ r d, Q r d → Qo (some (.int r)) (wR L d e)) (x1 : Int64) (d : vmD) (h : MO_isMany x1 d Q) : vmWp 264 0 [(0, .ref 42), (1, .long x1)] [] (wR L d e) Qo := by
  unfold MO_isMany at h
  refine st_go 3 (pc' := 5) (lo' := [(0, .ref 42), (1, .long x1)]) (st' := [.int (lg_cmp x1 17752)]) rfl ?_
  by_cases hc_1 : (lg_cmp x1 17752) = 0
  · have h := Eq.mp (if_pos hc_1) h
    refine st_if (t := 264) (b := true) rfl (decide_eq_true hc_1) rfl ?_
    refine st_go 2 (pc' := 269) (lo' := [(0, .ref 42), (1, .long x1)]) (st' := [.int 1]) rfl ?_
    exact st_retZ rfl rfl (Or.inr rfl) (hQ _ _ h)
  · have h := Eq.mp (if_neg hc_1) h
    refine st_if (t := 8) (b := false) rfl (decide_eq_false hc_1) rfl ?_
    refine st_go 3 (pc' := 13) (lo' := [(0, .ref 42), (1, .long x1)]) (st' := [.int (lg_cmp x1 1145720410)]) rfl ?_
    by_cases hc_2 : (lg_cmp x1 1145720410) = 0
    · have h := Eq.mp (if_pos hc_2) h
      refine st_if (t := 264) (b := true) rfl (decide_eq_true hc_2) rfl ?_
      refine st_go 2 (pc' := 269) (lo' := [(0, .ref 42), (1, .long x1)]) (st' := [.int 1]) rfl ?_
      exact st_retZ rfl rfl (Or.inr rfl) (hQ _ _ h)
    · have h := Eq.mp (if_neg hc_2) h
      refine st_if (t := 16) (b := false) rfl (decide_eq_false hc_2) rfl ?_
      refine st_go 3 (pc' := 21) (lo' := [(0, .ref 42), (1, .long x1)]) (st' := [.int (lg_cmp x1 19026)]) rfl ?_
      by_cases hc_3 : (lg_cmp x1 19026) = 0
      · have h := Eq.mp (if_pos hc_3) h
        refine st_if (t := 264) (b := true) rfl (decide_eq_true hc_3) rfl ?_
        refine st_go 2 (pc' := 269) (lo' := [(0, .ref 42), (1, .long x1)]) (st' := [.int 1]) rfl ?_
        exact st_retZ rfl rfl (Or.inr rfl) (hQ _ _ h)
      · have h := Eq.mp (if_neg hc_3) h
        refine st_if (t := 24) (b := false) rfl (decide_eq_false hc_3) rfl ?_
        refine st_go 3 (pc' := 29) (lo' := [(0, .ref 42), (1, .long x1)]) (st' := [.int (lg_cmp x1 19524)]) rfl ?_
        by_cases hc_4 : (lg_cmp x1 19524) = 0
        · have h := Eq.mp (if_pos hc_4) h
          refine st_if (t := 264) (b := true) rfl (decide_eq_true hc_4) rfl ?_
          refine st_go 2 (pc' := 269) (lo' := [(0, .ref 42), (1, .long x1)]) (st' := [.int 1]) rfl ?_
          exact st_retZ rfl rfl (Or.inr rfl) (hQ _ _ h)
        · have h := Eq.mp (if_neg hc_4) h
          refine st_if (t := 32) (b := false) rfl (decide_eq_false hc_4) rfl ?_
          refine st_go 3 (pc' := 37) (lo' := [(0, .ref 42), (1, .long x1)]) (st' := [.int (lg_cmp x1 4804163)]) rfl ?_
          by_cases hc_5 : (lg_cmp x1 4804163) = 0
          · have h := Eq.mp (if_pos hc_5) h
            refine st_if (t := 264) (b := true) rfl (decide_eq_true hc_5) rfl ?_
            refine st_go 2 (pc' := 269) (lo' := [(0, .ref 42), (1, .long x1)]) (st' := [.int 1]) rfl ?_
            exact st_retZ rfl rfl (Or.inr rfl) (hQ _ _ h)
          · have h := Eq.mp (if_neg hc_5) h
            refine st_if (t := 40) (b := false) rfl (decide_eq_false hc_5) rfl ?_
            refine st_go 3 (pc' := 45) (lo' := [(0, .ref 42), (1, .long x1)]) (st' := [.int (lg_cmp x1 4474179)]) rfl ?_
            by_cases hc_6 : (lg_cmp x1 4474179) = 0
            · have h := Eq.mp (if_pos hc_6) h
              refine st_if (t := 264) (b := true) rfl (decide_eq_true hc_6) rfl ?_
              refine st_go 2 (pc' := 269) (lo' := [(0, .ref 42), (1, .long x1)]) (st' := [.int 1]) rfl ?_
              exact st_retZ rfl rfl (Or.inr rfl) (hQ _ _ h)
            · have h := Eq.mp (if_neg hc_6) h
              refine st_if (t := 48) (b := false) rfl (decide_eq_false hc_6) rfl ?_
              refine st_go 3 (pc' := 53) (lo' := [(0, .ref 42), (1, .long x1)]) (st' := [.int (lg_cmp x1 4277316)]) rfl ?_
              by_cases hc_7 : (lg_cmp x1 4277316) = 0
              · have h := Eq.mp (if_pos hc_7) h
                refine st_if (t := 264) (b := true) rfl (decide_eq_true hc_7) rfl ?_
                refine st_go 2 (pc' := 269) (lo' := [(0, .ref 42), (1, .long x1)]) (st' := [.int 1]) rfl ?_
                exact st_retZ rfl rfl (Or.inr rfl) (hQ _ _ h)
              · have h := Eq.mp (if_neg hc_7) h
                refine st_if (t := 56) (b := false) rfl (decide_eq_false hc_7) rfl ?_
                refine st_go 3 (pc' := 61) (lo' := [(0, .ref 42), (1, .long x1)]) (st' := [.int (lg_cmp x1 4277315)]) rfl ?_
                by_cases hc_8 : (lg_cmp x1 4277315) = 0
                · have h := Eq.mp (if_pos hc_8) h
                  refine st_if (t := 264) (b := true) rfl (decide_eq_true hc_8) rfl ?_
                  refine st_go 2 (pc' := 269) (lo' := [(0, .ref 42), (1, .long x1)]) (st' := [.int 1]) rfl ?_
                  exact st_retZ rfl rfl (Or.inr rfl) (hQ _ _ h)
                · have h := Eq.mp (if_neg hc_8) h
                  refine st_if (t := 64) (b := false) rfl (decide_eq_false hc_8) rfl ?_
                  refine st_go 3 (pc' := 69) (lo' := [(0, .ref 42), (1, .long x1)]) (st' := [.int (lg_cmp x1 5461314)]) rfl ?_
                  by_cases hc_9 : (lg_cmp x1 5461314) = 0
                  · have h := Eq.mp (if_pos hc_9) h
                    refine st_if (t := 264) (b := true) rfl (decide_eq_true hc_9) rfl ?_
                    refine st_go 2 (pc' := 269) (lo' := [(0, .ref 42), (1, .long x1)]) (st' := [.int 1]) rfl ?_
                    exact st_retZ rfl rfl (Or.inr rfl) (hQ _ _ h)
                  · have h := Eq.mp (if_neg hc_9) h
                    refine st_if (t := 72) (b := false) rfl (decide_eq_false hc_9) rfl ?_
                    refine st_go 3 (pc' := 77) (lo' := [(0, .ref 42), (1, .long x1)]) (st' := [.int (lg_cmp x1 5456451)]) rfl ?_
                    by_cases hc_10 : (lg_cmp x1 5456451) = 0
                    · have h := Eq.mp (if_pos hc_10) h
                      refine st_if (t := 264) (b := true) rfl (decide_eq_true hc_10) rfl ?_
                      refine st_go 2 (pc' := 269) (lo' := [(0, .ref 42), (1, .long x1)]) (st' := [.int 1]) rfl ?_
                      exact st_retZ rfl rfl (Or.inr rfl) (hQ _ _ h)
                    · have h := Eq.mp (if_neg hc_10) h
                      refine st_if (t := 80) (b := false) rfl (decide_eq_false hc_10) rfl ?_
                      refine st_go 3 (pc' := 85) (lo' := [(0, .ref 42), (1, .long x1)]) (st' := [.int (lg_cmp x1 4279876)]) rfl ?_
                      by_cases hc_11 : (lg_cmp x1 4279876) = 0
                      · have h := Eq.mp (if_pos hc_11) h
                        refine st_if (t := 264) (b := true) rfl (decide_eq_true hc_11) rfl ?_
                        refine st_go 2 (pc' := 269) (lo' := [(0, .ref 42), (1, .long x1)]) (st' := [.int 1]) rfl ?_
                        exact st_retZ rfl rfl (Or.inr rfl) (hQ _ _ h)
                      · have h := Eq.mp (if_neg hc_11) h
                        refine st_if (t := 88) (b := false) rfl (decide_eq_false hc_11) rfl ?_
                        refine st_go 3 (pc' := 93) (lo' := [(0, .ref 42), (1, .long x1)]) (st' := [.int (lg_cmp x1 5787474)]) rfl ?_
                        by_cases hc_12 : (lg_cmp x1 5787474) = 0
                        · have h := Eq.mp (if_pos hc_12) h
                          refine st_if (t := 264) (b := true) rfl (decide_eq_true hc_12) rfl ?_
                          refine st_go 2 (pc' := 269) (lo' := [(0, .ref 42), (1, .long x1)]) (st' := [.int 1]) rfl ?_
                          exact st_retZ rfl rfl (Or.inr rfl) (hQ _ _ h)
                        · have h := Eq.mp (if_neg hc_12) h
                          refine st_if (t := 96) (b := false) rfl (decide_eq_false hc_12) rfl ?_
                          refine st_go 3 (pc' := 101) (lo' := [(0, .ref 42), (1, .long x1)]) (st' := [.int (lg_cmp x1 20306)]) rfl ?_
                          by_cases hc_13 : (lg_cmp x1 20306) = 0
                          · have h := Eq.mp (if_pos hc_13) h
                            refine st_if (t := 264) (b := true) rfl (decide_eq_true hc_13) rfl ?_
                            refine st_go 2 (pc' := 269) (lo' := [(0, .ref 42), (1, .long x1)]) (st' := [.int 1]) rfl ?_
                            exact st_retZ rfl rfl (Or.inr rfl) (hQ _ _ h)
                          · have h := Eq.mp (if_neg hc_13) h
                            refine st_if (t := 104) (b := false) rfl (decide_eq_false hc_13) rfl ?_
                            refine st_go 3 (pc' := 109) (lo' := [(0, .ref 42), (1, .long x1)]) (st' := [.int (lg_cmp x1 17232)]) rfl ?_
                            by_cases hc_14 : (lg_cmp x1 17232) = 0
                            · have h := Eq.mp (if_pos hc_14) h
                              refine st_if (t := 264) (b := true) rfl (decide_eq_true hc_14) rfl ?_
                              refine st_go 2 (pc' := 269) (lo' := [(0, .ref 42), (1, .long x1)]) (st' := [.int 1]) rfl ?_
                              exact st_retZ rfl rfl (Or.inr rfl) (hQ _ _ h)
                            · have h := Eq.mp (if_neg hc_14) h
                              refine st_if (t := 112) (b := false) rfl (decide_eq_false hc_14) rfl ?_
                              refine st_go 3 (pc' := 117) (lo' := [(0, .ref 42), (1, .long x1)]) (st' := [.int (lg_cmp x1 5391700)]) rfl ?_
                              by_cases hc_15 : (lg_cmp x1 5391700) = 0
                              · have h := Eq.mp (if_pos hc_15) h
                                refine st_if (t := 264) (b := true) rfl (decide_eq_true hc_15) rfl ?_
                                refine st_go 2 (pc' := 269) (lo' := [(0, .ref 42), (1, .long x1)]) (st' := [.int 1]) rfl ?_
                                exact st_retZ rfl rfl (Or.inr rfl) (hQ _ _ h)
                              · have h := Eq.mp (if_neg hc_15) h
                                refine st_if (t := 120) (b := false) rfl (decide_eq_false hc_15) rfl ?_
                                refine st_go 3 (pc' := 125) (lo' := [(0, .ref 42), (1, .long x1)]) (st' := [.int (lg_cmp x1 5263184)]) rfl ?_
                                by_cases hc_16 : (lg_cmp x1 5263184) = 0
                                · have h := Eq.mp (if_pos hc_16) h
                                  refine st_if (t := 264) (b := true) rfl (decide_eq_true hc_16) rfl ?_
                                  refine st_go 2 (pc' := 269) (lo' := [(0, .ref 42), (1, .long x1)]) (st' := [.int 1]) rfl ?_
                                  exact st_retZ rfl rfl (Or.inr rfl) (hQ _ _ h)
                                · have h := Eq.mp (if_neg hc_16) h
                                  refine st_if (t := 128) (b := false) rfl (decide_eq_false hc_16) rfl ?_
                                  refine st_go 3 (pc' := 133) (lo' := [(0, .ref 42), (1, .long x1)]) (st' := [.int (lg_cmp x1 1347769160)]) rfl ?_
                                  by_cases hc_17 : (lg_cmp x1 1347769160) = 0
                                  · have h := Eq.mp (if_pos hc_17) h
                                    refine st_if (t := 264) (b := true) rfl (decide_eq_true hc_17) rfl ?_
                                    refine st_go 2 (pc' := 269) (lo' := [(0, .ref 42), (1, .long x1)]) (st' := [.int 1]) rfl ?_
                                    exact st_retZ rfl rfl (Or.inr rfl) (hQ _ _ h)
                                  · have h := Eq.mp (if_neg hc_17) h
                                    refine st_if (t := 136) (b := false) rfl (decide_eq_false hc_17) rfl ?_
                                    refine st_go 3 (pc' := 141) (lo' := [(0, .ref 42), (1, .long x1)]) (st' := [.int (lg_cmp x1 19024)]) rfl ?_
                                    by_cases hc_18 : (lg_cmp x1 19024) = 0
                                    · have h := Eq.mp (if_pos hc_18) h
                                      refine st_if (t := 264) (b := true) rfl (decide_eq_true hc_18) rfl ?_
                                      refine st_go 2 (pc' := 269) (lo' := [(0, .ref 42), (1, .long x1)]) (st' := [.int 1]) rfl ?_
                                      exact st_retZ rfl rfl (Or.inr rfl) (hQ _ _ h)
                                    · have h := Eq.mp (if_neg hc_18) h
                                      refine st_if (t := 144) (b := false) rfl (decide_eq_false hc_18) rfl ?_
                                      refine st_go 3 (pc' := 149) (lo' := [(0, .ref 42), (1, .long x1)]) (st' := [.int (lg_cmp x1 1128352844)]) rfl ?_
                                      by_cases hc_19 : (lg_cmp x1 1128352844) = 0
                                      · have h := Eq.mp (if_pos hc_19) h
                                        refine st_if (t := 264) (b := true) rfl (decide_eq_true hc_19) rfl ?_
                                        refine st_go 2 (pc' := 269) (lo' := [(0, .ref 42), (1, .long x1)]) (st' := [.int 1]) rfl ?_
                                        exact st_retZ rfl rfl (Or.inr rfl) (hQ _ _ h)
                                      · have h := Eq.mp (if_neg hc_19) h
                                        refine st_if (t := 152) (b := false) rfl (decide_eq_false hc_19) rfl ?_
                                        refine st_go 3 (pc' := 157) (lo' := [(0, .ref 42), (1, .long x1)]) (st' := [.int (lg_cmp x1 5395284)]) rfl ?_
                                        by_cases hc_20 : (lg_cmp x1 5395284) = 0
                                        · have h := Eq.mp (if_pos hc_20) h
                                          refine st_if (t := 264) (b := true) rfl (decide_eq_true hc_20) rfl ?_
                                          refine st_go 2 (pc' := 269) (lo' := [(0, .ref 42), (1, .long x1)]) (st' := [.int 1]) rfl ?_
                                          exact st_retZ rfl rfl (Or.inr rfl) (hQ _ _ h)
                                        · have h := Eq.mp (if_neg hc_20) h
                                          refine st_if (t := 160) (b := false) rfl (decide_eq_false hc_20) rfl ?_
                                          refine st_go 3 (pc' := 165) (lo' := [(0, .ref 42), (1, .long x1)]) (st' := [.int (lg_cmp x1 5199188)]) rfl ?_
                                          by_cases hc_21 : (lg_cmp x1 5199188) = 0
                                          · have h := Eq.mp (if_pos hc_21) h
                                            refine st_if (t := 264) (b := true) rfl (decide_eq_true hc_21) rfl ?_
                                            refine st_go 2 (pc' := 269) (lo' := [(0, .ref 42), (1, .long x1)]) (st' := [.int 1]) rfl ?_
                                            exact st_retZ rfl rfl (Or.inr rfl) (hQ _ _ h)
                                          · have h := Eq.mp (if_neg hc_21) h
                                            refine st_if (t := 168) (b := false) rfl (decide_eq_false hc_21) rfl ?_
                                            refine st_go 3 (pc' := 173) (lo' := [(0, .ref 42), (1, .long x1)]) (st' := [.int (lg_cmp x1 18766)]) rfl ?_
                                            by_cases hc_22 : (lg_cmp x1 18766) = 0
                                            · have h := Eq.mp (if_pos hc_22) h
                                              refine st_if (t := 264) (b := true) rfl (decide_eq_true hc_22) rfl ?_
                                              refine st_go 2 (pc' := 269) (lo' := [(0, .ref 42), (1, .long x1)]) (st' := [.int 1]) rfl ?_
                                              exact st_retZ rfl rfl (Or.inr rfl) (hQ _ _ h)
                                            · have h := Eq.mp (if_neg hc_22) h
                                              refine st_if (t := 176) (b := false) rfl (decide_eq_false hc_22) rfl ?_
                                              refine st_go 3 (pc' := 181) (lo' := [(0, .ref 42), (1, .long x1)]) (st' := [.int (lg_cmp x1 5393475)]) rfl ?_
                                              by_cases hc_23 : (lg_cmp x1 5393475) = 0
                                              · have h := Eq.mp (if_pos hc_23) h
                                                refine st_if (t := 264) (b := true) rfl (decide_eq_true hc_23) rfl ?_
                                                refine st_go 2 (pc' := 269) (lo' := [(0, .ref 42), (1, .long x1)]) (st' := [.int 1]) rfl ?_
                                                exact st_retZ rfl rfl (Or.inr rfl) (hQ _ _ h)
                                              · have h := Eq.mp (if_neg hc_23) h
                                                refine st_if (t := 184) (b := false) rfl (decide_eq_false hc_23) rfl ?_
                                                refine st_go 3 (pc' := 189) (lo' := [(0, .ref 42), (1, .long x1)]) (st' := [.int (lg_cmp x1 5395011)]) rfl ?_
                                                by_cases hc_24 : (lg_cmp x1 5395011) = 0
                                                · have h := Eq.mp (if_pos hc_24) h
                                                  refine st_if (t := 264) (b := true) rfl (decide_eq_true hc_24) rfl ?_
                                                  refine st_go 2 (pc' := 269) (lo' := [(0, .ref 42), (1, .long x1)]) (st' := [.int 1]) rfl ?_
                                                  exact st_retZ rfl rfl (Or.inr rfl) (hQ _ _ h)
                                                · have h := Eq.mp (if_neg hc_24) h
                                                  refine st_if (t := 192) (b := false) rfl (decide_eq_false hc_24) rfl ?_
                                                  refine st_go 3 (pc' := 197) (lo' := [(0, .ref 42), (1, .long x1)]) (st' := [.int (lg_cmp x1 21068)]) rfl ?_
                                                  by_cases hc_25 : (lg_cmp x1 21068) = 0
                                                  · have h := Eq.mp (if_pos hc_25) h
                                                    refine st_if (t := 264) (b := true) rfl (decide_eq_true hc_25) rfl ?_
                                                    refine st_go 2 (pc' := 269) (lo' := [(0, .ref 42), (1, .long x1)]) (st' := [.int 1]) rfl ?_
                                                    exact st_retZ rfl rfl (Or.inr rfl) (hQ _ _ h)
                                                  · have h := Eq.mp (if_neg hc_25) h
                                                    refine st_if (t := 200) (b := false) rfl (decide_eq_false hc_25) rfl ?_
                                                    refine st_go 3 (pc' := 205) (lo' := [(0, .ref 42), (1, .long x1)]) (st' := [.int (lg_cmp x1 21074)]) rfl ?_
                                                    by_cases hc_26 : (lg_cmp x1 21074) = 0
                                                    · have h := Eq.mp (if_pos hc_26) h
                                                      refine st_if (t := 264) (b := true) rfl (decide_eq_true hc_26) rfl ?_
                                                      refine st_go 2 (pc' := 269) (lo' := [(0, .ref 42), (1, .long x1)]) (st' := [.int 1]) rfl ?_
                                                      exact st_retZ rfl rfl (Or.inr rfl) (hQ _ _ h)
                                                    · have h := Eq.mp (if_neg hc_26) h
                                                      refine st_if (t := 208) (b := false) rfl (decide_eq_false hc_26) rfl ?_
                                                      refine st_go 3 (pc' := 213) (lo' := [(0, .ref 42), (1, .long x1)]) (st' := [.int (lg_cmp x1 5459009)]) rfl ?_
                                                      by_cases hc_27 : (lg_cmp x1 5459009) = 0
                                                      · have h := Eq.mp (if_pos hc_27) h
                                                        refine st_if (t := 264) (b := true) rfl (decide_eq_true hc_27) rfl ?_
                                                        refine st_go 2 (pc' := 269) (lo' := [(0, .ref 42), (1, .long x1)]) (st' := [.int 1]) rfl ?_
                                                        exact st_retZ rfl rfl (Or.inr rfl) (hQ _ _ h)
                                                      · have h := Eq.mp (if_neg hc_27) h
                                                        refine st_if (t := 216) (b := false) rfl (decide_eq_false hc_27) rfl ?_
                                                        refine st_go 3 (pc' := 221) (lo' := [(0, .ref 42), (1, .long x1)]) (st' := [.int (lg_cmp x1 5460545)]) rfl ?_
                                                        by_cases hc_28 : (lg_cmp x1 5460545) = 0
                                                        · have h := Eq.mp (if_pos hc_28) h
                                                          refine st_if (t := 264) (b := true) rfl (decide_eq_true hc_28) rfl ?_
                                                          refine st_go 2 (pc' := 269) (lo' := [(0, .ref 42), (1, .long x1)]) (st' := [.int 1]) rfl ?_
                                                          exact st_retZ rfl rfl (Or.inr rfl) (hQ _ _ h)
                                                        · have h := Eq.mp (if_neg hc_28) h
                                                          refine st_if (t := 224) (b := false) rfl (decide_eq_false hc_28) rfl ?_
                                                          refine st_go 3 (pc' := 229) (lo' := [(0, .ref 42), (1, .long x1)]) (st' := [.int (lg_cmp x1 5460556)]) rfl ?_
                                                          by_cases hc_29 : (lg_cmp x1 5460556) = 0
                                                          · have h := Eq.mp (if_pos hc_29) h
                                                            refine st_if (t := 264) (b := true) rfl (decide_eq_true hc_29) rfl ?_
                                                            refine st_go 2 (pc' := 269) (lo' := [(0, .ref 42), (1, .long x1)]) (st' := [.int 1]) rfl ?_
                                                            exact st_retZ rfl rfl (Or.inr rfl) (hQ _ _ h)
                                                          · have h := Eq.mp (if_neg hc_29) h
                                                            refine st_if (t := 232) (b := false) rfl (decide_eq_false hc_29) rfl ?_
                                                            refine st_go 3 (pc' := 237) (lo' := [(0, .ref 42), (1, .long x1)]) (st' := [.int (lg_cmp x1 4344148)]) rfl ?_
                                                            by_cases hc_30 : (lg_cmp x1 4344148) = 0
                                                            · have h := Eq.mp (if_pos hc_30) h
                                                              refine st_if (t := 264) (b := true) rfl (decide_eq_true hc_30) rfl ?_
                                                              refine st_go 2 (pc' := 269) (lo' := [(0, .ref 42), (1, .long x1)]) (st' := [.int 1]) rfl ?_
                                                              exact st_retZ rfl rfl (Or.inr rfl) (hQ _ _ h)
                                                            · have h := Eq.mp (if_neg hc_30) h
                                                              refine st_if (t := 240) (b := false) rfl (decide_eq_false hc_30) rfl ?_
                                                              refine st_go 3 (pc' := 245) (lo' := [(0, .ref 42), (1, .long x1)]) (st' := [.int (lg_cmp x1 5391699)]) rfl ?_
                                                              by_cases hc_31 : (lg_cmp x1 5391699) = 0
                                                              · have h := Eq.mp (if_pos hc_31) h
                                                                refine st_if (t := 264) (b := true) rfl (decide_eq_true hc_31) rfl ?_
                                                                refine st_go 2 (pc' := 269) (lo' := [(0, .ref 42), (1, .long x1)]) (st' := [.int 1]) rfl ?_
                                                                exact st_retZ rfl rfl (Or.inr rfl) (hQ _ _ h)
                                                              · have h := Eq.mp (if_neg hc_31) h
                                                                refine st_if (t := 248) (b := false) rfl (decide_eq_false hc_31) rfl ?_
                                                                refine st_go 3 (pc' := 253) (lo' := [(0, .ref 42), (1, .long x1)]) (st' := [.int (lg_cmp x1 5457236)]) rfl ?_
                                                                by_cases hc_32 : (lg_cmp x1 5457236) = 0
                                                                · have h := Eq.mp (if_pos hc_32) h
                                                                  refine st_if (t := 264) (b := true) rfl (decide_eq_true hc_32) rfl ?_
                                                                  refine st_go 2 (pc' := 269) (lo' := [(0, .ref 42), (1, .long x1)]) (st' := [.int 1]) rfl ?_
                                                                  exact st_retZ rfl rfl (Or.inr rfl) (hQ _ _ h)
                                                                · have h := Eq.mp (if_neg hc_32) h
                                                                  refine st_if (t := 256) (b := false) rfl (decide_eq_false hc_32) rfl ?_
                                                                  refine st_go 3 (pc' := 261) (lo' := [(0, .ref 42), (1, .long x1)]) (st' := [.int (lg_cmp x1 18765)]) rfl ?_
                                                                  by_cases hc_33 : (lg_cmp x1 18765) = 0
                                                                  · have h := Eq.mp (if_pos hc_33) h
                                                                    refine st_if (t := 264) (b := false) rfl (decide_eq_false (fun z => z hc_33)) rfl ?_
                                                                    refine st_go 2 (pc' := 269) (lo' := [(0, .ref 42), (1, .long x1)]) (st' := [.int 1]) rfl ?_
                                                                    exact st_retZ rfl rfl (Or.inr rfl) (hQ _ _ h)
                                                                  · have h := Eq.mp (if_neg hc_33) h
                                                                    refine st_if (t := 268) (b := true) rfl (decide_eq_true hc_33) rfl ?_
                                                                    refine st_go 1 (pc' := 269) (lo' := [(0, .ref 42), (1, .long x1)]) (st' := [.int 0]) rfl ?_
                                                                    exact st_retZ rfl rfl (Or.inl rfl) (hQ _ _ h)
set_option maxRecDepth 100000 in
def MO_isReserved (x1 : Int64) (d : vmD) (Q : Int32 → vmD → Prop) : Prop :=
  MO_isRegister x1 d fun r_2 d_1 =>
  if r_2 = 0 then
  (MO_isStatement x1 d_1 fun r_5 d_4 =>
  if r_5 = 0 then
  (MO_plain x1 d_4 fun r_8 d_7 =>
  if r_8 < 0 then
  (MO_isMany x1 d_7 fun r_11 d_10 =>
  if r_11 = 0 then
  (if (lg_cmp x1 4542805) = 0 then
  (Q 1 d_10)
  else
  (Q 0 d_10))
  else
  (Q 1 d_10))
  else
  (Q 1 d_7))
  else
  (Q 1 d_4))
  else
  (Q 1 d_1)
set_option maxRecDepth 100000 in
set_option maxHeartbeats 4000000 in
theorem tMO_isReserved {L : Nat} {e : vmD} {Qo : Option Value → vmW → Prop} {Q : Int32 → vmD → Prop} (hQ : ∀ r d, Q r d → Qo (some (.int r)) (wR L d e)) (x1 : Int64) (d : vmD) (h : MO_isReserved x1 d Q) : vmWp 262 0 [(0, .ref 42), (1, .long x1)] [] (wR L d e) Qo := by
  unfold MO_isReserved at h
  refine st_go 2 (pc' := 2) (lo' := [(0, .ref 42), (1, .long x1)]) (st' := [.long x1, .ref 42]) rfl ?_
  refine st_calli (k' := 261) (as := [.ref 42, .long x1]) (rest := []) (lo' := [(0, .ref 42), (1, .long x1)]) (wf := fun d => wR L d e) rfl rfl rfl ?_
  refine tMO_isRegister (fun r_2 d_1 h => ⟨r_2, d_1, rfl, rfl, ?_⟩) x1 d h
  by_cases hc_3 : r_2 = 0
  · have h := Eq.mp (if_pos hc_3) h
    refine st_if (t := 8) (b := false) rfl (decide_eq_false (fun z => z hc_3)) rfl ?_
    refine st_go 2 (pc' := 10) (lo' := [(0, .ref 42), (1, .long x1)]) (st' := [.long x1, .ref 42]) rfl ?_
    refine st_calli (k' := 263) (as := [.ref 42, .long x1]) (rest := []) (lo' := [(0, .ref 42), (1, .long x1)]) (wf := fun d => wR L d e) rfl rfl rfl ?_
    refine tMO_isStatement (fun r_5 d_4 h => ⟨r_5, d_4, rfl, rfl, ?_⟩) x1 d_1 h
    by_cases hc_6 : r_5 = 0
    · have h := Eq.mp (if_pos hc_6) h
      refine st_if (t := 16) (b := false) rfl (decide_eq_false (fun z => z hc_6)) rfl ?_
      refine st_go 2 (pc' := 18) (lo' := [(0, .ref 42), (1, .long x1)]) (st' := [.long x1, .ref 42]) rfl ?_
      refine st_calli (k' := 265) (as := [.ref 42, .long x1]) (rest := []) (lo' := [(0, .ref 42), (1, .long x1)]) (wf := fun d => wR L d e) rfl rfl rfl ?_
      refine tMO_plain (fun r_8 d_7 h => ⟨r_8, d_7, rfl, rfl, ?_⟩) x1 d_4 h
      by_cases hc_9 : r_8 < 0
      · have h := Eq.mp (if_pos hc_9) h
        refine st_if (t := 24) (b := false) rfl (decide_eq_false (Int32.not_le.mpr hc_9)) rfl ?_
        refine st_go 2 (pc' := 26) (lo' := [(0, .ref 42), (1, .long x1)]) (st' := [.long x1, .ref 42]) rfl ?_
        refine st_calli (k' := 264) (as := [.ref 42, .long x1]) (rest := []) (lo' := [(0, .ref 42), (1, .long x1)]) (wf := fun d => wR L d e) rfl rfl rfl ?_
        refine tMO_isMany (fun r_11 d_10 h => ⟨r_11, d_10, rfl, rfl, ?_⟩) x1 d_7 h
        by_cases hc_12 : r_11 = 0
        · have h := Eq.mp (if_pos hc_12) h
          refine st_if (t := 32) (b := false) rfl (decide_eq_false (fun z => z hc_12)) rfl ?_
          refine st_go 3 (pc' := 37) (lo' := [(0, .ref 42), (1, .long x1)]) (st' := [.int (lg_cmp x1 4542805)]) rfl ?_
          by_cases hc_13 : (lg_cmp x1 4542805) = 0
          · have h := Eq.mp (if_pos hc_13) h
            refine st_if (t := 40) (b := false) rfl (decide_eq_false (fun z => z hc_13)) rfl ?_
            refine st_go 2 (pc' := 45) (lo' := [(0, .ref 42), (1, .long x1)]) (st' := [.int 1]) rfl ?_
            exact st_retZ rfl rfl (Or.inr rfl) (hQ _ _ h)
          · have h := Eq.mp (if_neg hc_13) h
            refine st_if (t := 44) (b := true) rfl (decide_eq_true hc_13) rfl ?_
            refine st_go 1 (pc' := 45) (lo' := [(0, .ref 42), (1, .long x1)]) (st' := [.int 0]) rfl ?_
            exact st_retZ rfl rfl (Or.inl rfl) (hQ _ _ h)
        · have h := Eq.mp (if_neg hc_12) h
          refine st_if (t := 40) (b := true) rfl (decide_eq_true hc_12) rfl ?_
          refine st_go 2 (pc' := 45) (lo' := [(0, .ref 42), (1, .long x1)]) (st' := [.int 1]) rfl ?_
          exact st_retZ rfl rfl (Or.inr rfl) (hQ _ _ h)
      · have h := Eq.mp (if_neg hc_9) h
        refine st_if (t := 40) (b := true) rfl (decide_eq_true (Int32.not_lt.mp hc_9)) rfl ?_
        refine st_go 2 (pc' := 45) (lo' := [(0, .ref 42), (1, .long x1)]) (st' := [.int 1]) rfl ?_
        exact st_retZ rfl rfl (Or.inr rfl) (hQ _ _ h)
    · have h := Eq.mp (if_neg hc_6) h
      refine st_if (t := 40) (b := true) rfl (decide_eq_true hc_6) rfl ?_
      refine st_go 2 (pc' := 45) (lo' := [(0, .ref 42), (1, .long x1)]) (st' := [.int 1]) rfl ?_
      exact st_retZ rfl rfl (Or.inr rfl) (hQ _ _ h)
  · have h := Eq.mp (if_neg hc_3) h
    refine st_if (t := 40) (b := true) rfl (decide_eq_true hc_3) rfl ?_
    refine st_go 2 (pc' := 45) (lo' := [(0, .ref 42), (1, .long x1)]) (st' := [.int 1]) rfl ?_
    exact st_retZ rfl rfl (Or.inr rfl) (hQ _ _ h)
set_option maxRecDepth 100000 in
def MO_find_86 (b2 : Int32 → Int32 → Int32 → vmD → Prop) (x1 : Int32) (x2 : Int32) (x3 : Int32) (x4 : Int32) (d : vmD) (Q : Int32 → vmD → Prop) : Prop :=
  if x4 = 0 then
  (bnd (x3 + 1) fun x3_8 =>
  b2 x1 x2 x3_8 d)
  else
  (Q x3 d)
set_option maxRecDepth 100000 in
set_option maxHeartbeats 4000000 in
theorem tMO_find_86 {L : Nat} {e : vmD} {Qo : Option Value → vmW → Prop} {b2 : Int32 → Int32 → Int32 → vmD → Prop} {Q : Int32 → vmD → Prop} (hb2 : ∀ x1 x2 x3 d, b2 x1 x2 x3 d → vmWp 259 2 [(0, .ref 42), (1, .int x1), (2, .int x2), (3, .int x3)] [] (wR L d e) Qo) (hQ : ∀ r d, Q r d → Qo (some (.int r)) (wR L d e)) (x1 : Int32) (x2 : Int32) (x3 : Int32) (x4 : Int32) (d : vmD) (h : MO_find_86 b2 x1 x2 x3 x4 d Q) : vmWp 259 86 [(0, .ref 42), (1, .int x1), (2, .int x2), (3, .int x3), (4, .int x4)] [] (wR L d e) Qo := by
  unfold MO_find_86 at h
  refine st_go 1 (pc' := 88) (lo' := [(0, .ref 42), (1, .int x1), (2, .int x2), (3, .int x3), (4, .int x4)]) (st' := [.int x4]) rfl ?_
  by_cases hc_7 : x4 = 0
  · have h := Eq.mp (if_pos hc_7) h
    refine st_if (t := 93) (b := true) rfl (decide_eq_true hc_7) rfl ?_
    refine st_go 1 (pc' := 96) (lo' := [(3, .int (x3 + 1)), (0, .ref 42), (1, .int x1), (2, .int x2), (4, .int x4)]) (st' := []) rfl ?_
    refine st_locI (fun x3_8 hy_x3_8 => ?_)
    have h := h x3_8 hy_x3_8
    refine st_go 1 (pc' := 2) (lo' := [(3, .int x3_8), (0, .ref 42), (1, .int x1), (2, .int x2), (4, .int x4)]) (st' := []) rfl ?_
    refine vmWp.sub (lo' := [(0, .ref 42), (1, .int x1), (2, .int x2), (3, .int x3_8)]) ⟨rfl, rfl, rfl, rfl, trivial⟩ ?_
    exact hb2 x1 x2 x3_8 d h
  · have h := Eq.mp (if_neg hc_7) h
    refine st_if (t := 91) (b := false) rfl (decide_eq_false hc_7) rfl ?_
    refine st_go 1 (pc' := 92) (lo' := [(0, .ref 42), (1, .int x1), (2, .int x2), (3, .int x3), (4, .int x4)]) (st' := [.int x3]) rfl ?_
    exact st_retI rfl rfl (hQ _ _ h)
set_option maxRecDepth 100000 in
def MO_find_78 (b2 : Int32 → Int32 → Int32 → vmD → Prop) (b32 : Int32 → Int32 → Int32 → Int32 → Int32 → vmD → Prop) (x1 : Int32) (x2 : Int32) (x3 : Int32) (x5 : Int32) (s0 : Int32) (d : vmD) (Q : Int32 → vmD → Prop) : Prop :=
  bnd (x5 + 1) fun x5_16 =>
  b32 x1 x2 x3 s0 x5_16 d
set_option maxRecDepth 100000 in
set_option maxHeartbeats 4000000 in
theorem tMO_find_78 {L : Nat} {e : vmD} {Qo : Option Value → vmW → Prop} {b2 : Int32 → Int32 → Int32 → vmD → Prop} {b32 : Int32 → Int32 → Int32 → Int32 → Int32 → vmD → Prop} {Q : Int32 → vmD → Prop} (hb2 : ∀ x1 x2 x3 d, b2 x1 x2 x3 d → vmWp 259 2 [(0, .ref 42), (1, .int x1), (2, .int x2), (3, .int x3)] [] (wR L d e) Qo) (hb32 : ∀ x1 x2 x3 x4 x5 d, b32 x1 x2 x3 x4 x5 d → vmWp 259 32 [(0, .ref 42), (1, .int x1), (2, .int x2), (3, .int x3), (4, .int x4), (5, .int x5)] [] (wR L d e) Qo) (hQ : ∀ r d, Q r d → Qo (some (.int r)) (wR L d e)) (x1 : Int32) (x2 : Int32) (x3 : Int32) (x5 : Int32) (s0 : Int32) (d : vmD) (h : MO_find_78 b2 b32 x1 x2 x3 x5 s0 d Q) : vmWp 259 78 [(0, .ref 42), (1, .int x1), (2, .int x2), (3, .int x3), (5, .int x5)] [.int s0] (wR L d e) Qo := by
  unfold MO_find_78 at h
  refine st_go 2 (pc' := 83) (lo' := [(5, .int (x5 + 1)), (4, .int s0), (0, .ref 42), (1, .int x1), (2, .int x2), (3, .int x3)]) (st' := []) rfl ?_
  refine st_locI (fun x5_16 hy_x5_16 => ?_)
  have h := h x5_16 hy_x5_16
  refine st_go 1 (pc' := 32) (lo' := [(5, .int x5_16), (4, .int s0), (0, .ref 42), (1, .int x1), (2, .int x2), (3, .int x3)]) (st' := []) rfl ?_
  refine vmWp.sub (lo' := [(0, .ref 42), (1, .int x1), (2, .int x2), (3, .int x3), (4, .int s0), (5, .int x5_16)]) ⟨rfl, rfl, rfl, rfl, rfl, rfl, trivial⟩ ?_
  exact hb32 x1 x2 x3 s0 x5_16 d h
set_option maxRecDepth 100000 in
def MO_find_32 (b2 : Int32 → Int32 → Int32 → vmD → Prop) (Q : Int32 → vmD → Prop) : Nat → Int32 → Int32 → Int32 → Int32 → Int32 → vmD → Prop
  | 0, _, _, _, _, _, _ => False
  | n + 1, x1, x2, x3, x4, x5, d => if x5 < (x2 - x1) then
  (if x4 = 0 then
  (MO_find_86 b2 x1 x2 x3 x4 d Q)
  else
  (ixOk (((12 : Int32) * x3) + x5) 2400 ∧
  bnd (gA d 44 (((12 : Int32) * x3) + x5).toNatClampNeg) fun y_10 =>
  ixOk (x1 + x5) 6000 ∧
  bnd (gA d 43 (x1 + x5).toNatClampNeg) fun y_12 =>
  MO_capital y_12 d fun r_14 d_13 =>
  if y_10 = r_14 then
  (MO_find_78 b2 (MO_find_32 b2 Q n) x1 x2 x3 x5 1 d_13 Q)
  else
  (MO_find_78 b2 (MO_find_32 b2 Q n) x1 x2 x3 x5 0 d_13 Q)))
  else
  (MO_find_86 b2 x1 x2 x3 x4 d Q)
set_option maxRecDepth 100000 in
set_option maxHeartbeats 4000000 in
theorem tMO_find_32 {L : Nat} {e : vmD} {Qo : Option Value → vmW → Prop} {b2 : Int32 → Int32 → Int32 → vmD → Prop} {Q : Int32 → vmD → Prop} (hb2 : ∀ x1 x2 x3 d, b2 x1 x2 x3 d → vmWp 259 2 [(0, .ref 42), (1, .int x1), (2, .int x2), (3, .int x3)] [] (wR L d e) Qo) (hQ : ∀ r d, Q r d → Qo (some (.int r)) (wR L d e)) : ∀ (n : Nat) (x1 : Int32) (x2 : Int32) (x3 : Int32) (x4 : Int32) (x5 : Int32) (d : vmD), MO_find_32 b2 Q n x1 x2 x3 x4 x5 d → vmWp 259 32 [(0, .ref 42), (1, .int x1), (2, .int x2), (3, .int x3), (4, .int x4), (5, .int x5)] [] (wR L d e) Qo := by
  intro n
  induction n with
  | zero => intro x1 x2 x3 x4 x5 d h; exact h.elim
  | succ n ih =>
    intro x1 x2 x3 x4 x5 d h
    unfold MO_find_32 at h
    refine st_go 4 (pc' := 37) (lo' := [(0, .ref 42), (1, .int x1), (2, .int x2), (3, .int x3), (4, .int x4), (5, .int x5)]) (st' := [.int (x2 - x1), .int x5]) rfl ?_
    by_cases hc_5 : x5 < (x2 - x1)
    · have h := Eq.mp (if_pos hc_5) h
      refine st_icmp (t := 40) (b := false) rfl (decide_eq_false (Int32.not_le.mpr hc_5)) rfl ?_
      refine st_go 1 (pc' := 42) (lo' := [(0, .ref 42), (1, .int x1), (2, .int x2), (3, .int x3), (4, .int x4), (5, .int x5)]) (st' := [.int x4]) rfl ?_
      by_cases hc_6 : x4 = 0
      · have h := Eq.mp (if_pos hc_6) h
        refine st_if (t := 86) (b := true) rfl (decide_eq_true hc_6) rfl ?_
        refine vmWp.sub (lo' := [(0, .ref 42), (1, .int x1), (2, .int x2), (3, .int x3), (4, .int x4)]) ⟨rfl, rfl, rfl, rfl, rfl, trivial⟩ ?_
        exact tMO_find_86 hb2 hQ x1 x2 x3 x4 d h
      · have h := Eq.mp (if_neg hc_6) h
        refine st_if (t := 45) (b := false) rfl (decide_eq_false hc_6) rfl ?_
        refine st_go 7 (pc' := 56) (lo' := [(0, .ref 42), (1, .int x1), (2, .int x2), (3, .int x3), (4, .int x4), (5, .int x5)]) (st' := [.int (((12 : Int32) * x3) + x5), .ref 44]) rfl ?_
        obtain ⟨hj_9, h⟩ := h
        refine st_ialdR (o := 44) rfl rfl hj_9 rfl (fun y_10 hy_y_10 => ?_)
        have h := h y_10 hy_y_10
        refine st_go 6 (pc' := 66) (lo' := [(0, .ref 42), (1, .int x1), (2, .int x2), (3, .int x3), (4, .int x4), (5, .int x5)]) (st' := [.int (x1 + x5), .ref 43, .ref 42, .int y_10]) rfl ?_
        obtain ⟨hj_11, h⟩ := h
        refine st_ialdR (o := 43) rfl rfl hj_11 rfl (fun y_12 hy_y_12 => ?_)
        have h := h y_12 hy_y_12
        refine st_calli (k' := 248) (as := [.ref 42, .int y_12]) (rest := [.int y_10]) (lo' := [(0, .ref 42), (1, .int y_12)]) (wf := fun d => wR L d e) rfl rfl rfl ?_
        refine tMO_capital (fun r_14 d_13 h => ⟨r_14, d_13, rfl, rfl, ?_⟩) y_12 d h
        by_cases hc_15 : y_10 = r_14
        · have h := Eq.mp (if_pos hc_15) h
          refine st_icmp (t := 73) (b := false) rfl (decide_eq_false (fun z => z hc_15)) rfl ?_
          refine st_go 2 (pc' := 78) (lo' := [(0, .ref 42), (1, .int x1), (2, .int x2), (3, .int x3), (4, .int x4), (5, .int x5)]) (st' := [.int 1]) rfl ?_
          refine vmWp.sub (lo' := [(0, .ref 42), (1, .int x1), (2, .int x2), (3, .int x3), (5, .int x5)]) ⟨rfl, rfl, rfl, rfl, rfl, trivial⟩ ?_
          exact tMO_find_78 hb2 ih hQ x1 x2 x3 x5 1 d_13 h
        · have h := Eq.mp (if_neg hc_15) h
          refine st_icmp (t := 77) (b := true) rfl (decide_eq_true hc_15) rfl ?_
          refine st_go 1 (pc' := 78) (lo' := [(0, .ref 42), (1, .int x1), (2, .int x2), (3, .int x3), (4, .int x4), (5, .int x5)]) (st' := [.int 0]) rfl ?_
          refine vmWp.sub (lo' := [(0, .ref 42), (1, .int x1), (2, .int x2), (3, .int x3), (5, .int x5)]) ⟨rfl, rfl, rfl, rfl, rfl, trivial⟩ ?_
          exact tMO_find_78 hb2 ih hQ x1 x2 x3 x5 0 d_13 h
    · have h := Eq.mp (if_neg hc_5) h
      refine st_icmp (t := 86) (b := true) rfl (decide_eq_true (Int32.not_lt.mp hc_5)) rfl ?_
      refine vmWp.sub (lo' := [(0, .ref 42), (1, .int x1), (2, .int x2), (3, .int x3), (4, .int x4)]) ⟨rfl, rfl, rfl, rfl, rfl, trivial⟩ ?_
      exact tMO_find_86 hb2 hQ x1 x2 x3 x4 d h
set_option maxRecDepth 100000 in
def MO_find_27 (b2 : Int32 → Int32 → Int32 → vmD → Prop) (x1 : Int32) (x2 : Int32) (x3 : Int32) (s0 : Int32) (d : vmD) (Q : Int32 → vmD → Prop) : Prop :=
  ∃ m32, MO_find_32 b2 Q m32 x1 x2 x3 s0 0 d
set_option maxRecDepth 100000 in
set_option maxHeartbeats 4000000 in
theorem tMO_find_27 {L : Nat} {e : vmD} {Qo : Option Value → vmW → Prop} {b2 : Int32 → Int32 → Int32 → vmD → Prop} {Q : Int32 → vmD → Prop} (hb2 : ∀ x1 x2 x3 d, b2 x1 x2 x3 d → vmWp 259 2 [(0, .ref 42), (1, .int x1), (2, .int x2), (3, .int x3)] [] (wR L d e) Qo) (hQ : ∀ r d, Q r d → Qo (some (.int r)) (wR L d e)) (x1 : Int32) (x2 : Int32) (x3 : Int32) (s0 : Int32) (d : vmD) (h : MO_find_27 b2 x1 x2 x3 s0 d Q) : vmWp 259 27 [(0, .ref 42), (1, .int x1), (2, .int x2), (3, .int x3)] [.int s0] (wR L d e) Qo := by
  unfold MO_find_27 at h
  refine st_go 3 (pc' := 32) (lo' := [(5, .int 0), (4, .int s0), (0, .ref 42), (1, .int x1), (2, .int x2), (3, .int x3)]) (st' := []) rfl ?_
  obtain ⟨m32, h⟩ := h
  refine vmWp.sub (lo' := [(0, .ref 42), (1, .int x1), (2, .int x2), (3, .int x3), (4, .int s0), (5, .int 0)]) ⟨rfl, rfl, rfl, rfl, rfl, rfl, trivial⟩ ?_
  exact tMO_find_32 hb2 hQ m32 x1 x2 x3 s0 0 d h
set_option maxRecDepth 100000 in
def MO_find_2 (Q : Int32 → vmD → Prop) : Nat → Int32 → Int32 → Int32 → vmD → Prop
  | 0, _, _, _, _ => False
  | n + 1, x1, x2, x3, d => if x3 < (gF d 42 13) then
  (ixOk x3 200 ∧
  bnd (gA d 45 x3.toNatClampNeg) fun y_3 =>
  if y_3 = (x2 - x1) then
  (MO_find_27 (MO_find_2 Q n) x1 x2 x3 1 d Q)
  else
  (MO_find_27 (MO_find_2 Q n) x1 x2 x3 0 d Q))
  else
  (Q (-1) d)
set_option maxRecDepth 100000 in
set_option maxHeartbeats 4000000 in
theorem tMO_find_2 {L : Nat} {e : vmD} {Qo : Option Value → vmW → Prop} {Q : Int32 → vmD → Prop} (hQ : ∀ r d, Q r d → Qo (some (.int r)) (wR L d e)) : ∀ (n : Nat) (x1 : Int32) (x2 : Int32) (x3 : Int32) (d : vmD), MO_find_2 Q n x1 x2 x3 d → vmWp 259 2 [(0, .ref 42), (1, .int x1), (2, .int x2), (3, .int x3)] [] (wR L d e) Qo := by
  intro n
  induction n with
  | zero => intro x1 x2 x3 d h; exact h.elim
  | succ n ih =>
    intro x1 x2 x3 d h
    unfold MO_find_2 at h
    refine st_go 3 (pc' := 7) (lo' := [(0, .ref 42), (1, .int x1), (2, .int x2), (3, .int x3)]) (st' := [.int (gF d 42 13), .int x3]) rfl ?_
    by_cases hc_1 : x3 < (gF d 42 13)
    · have h := Eq.mp (if_pos hc_1) h
      refine st_icmp (t := 10) (b := false) rfl (decide_eq_false (Int32.not_le.mpr hc_1)) rfl ?_
      refine st_go 3 (pc' := 15) (lo' := [(0, .ref 42), (1, .int x1), (2, .int x2), (3, .int x3)]) (st' := [.int x3, .ref 45]) rfl ?_
      obtain ⟨hj_2, h⟩ := h
      refine st_ialdR (o := 45) rfl rfl hj_2 rfl (fun y_3 hy_y_3 => ?_)
      have h := h y_3 hy_y_3
      refine st_go 3 (pc' := 19) (lo' := [(0, .ref 42), (1, .int x1), (2, .int x2), (3, .int x3)]) (st' := [.int (x2 - x1), .int y_3]) rfl ?_
      by_cases hc_4 : y_3 = (x2 - x1)
      · have h := Eq.mp (if_pos hc_4) h
        refine st_icmp (t := 22) (b := false) rfl (decide_eq_false (fun z => z hc_4)) rfl ?_
        refine st_go 2 (pc' := 27) (lo' := [(0, .ref 42), (1, .int x1), (2, .int x2), (3, .int x3)]) (st' := [.int 1]) rfl ?_
        refine vmWp.sub (lo' := [(0, .ref 42), (1, .int x1), (2, .int x2), (3, .int x3)]) ⟨rfl, rfl, rfl, rfl, trivial⟩ ?_
        exact tMO_find_27 ih hQ x1 x2 x3 1 d h
      · have h := Eq.mp (if_neg hc_4) h
        refine st_icmp (t := 26) (b := true) rfl (decide_eq_true hc_4) rfl ?_
        refine st_go 1 (pc' := 27) (lo' := [(0, .ref 42), (1, .int x1), (2, .int x2), (3, .int x3)]) (st' := [.int 0]) rfl ?_
        refine vmWp.sub (lo' := [(0, .ref 42), (1, .int x1), (2, .int x2), (3, .int x3)]) ⟨rfl, rfl, rfl, rfl, trivial⟩ ?_
        exact tMO_find_27 ih hQ x1 x2 x3 0 d h
    · have h := Eq.mp (if_neg hc_1) h
      refine st_icmp (t := 99) (b := true) rfl (decide_eq_true (Int32.not_lt.mp hc_1)) rfl ?_
      refine st_go 1 (pc' := 100) (lo' := [(0, .ref 42), (1, .int x1), (2, .int x2), (3, .int x3)]) (st' := [.int (-1)]) rfl ?_
      exact st_retI rfl rfl (hQ _ _ h)
set_option maxRecDepth 100000 in
def MO_find (x1 : Int32) (x2 : Int32) (d : vmD) (Q : Int32 → vmD → Prop) : Prop :=
  ∃ m2, MO_find_2 Q m2 x1 x2 0 d
set_option maxRecDepth 100000 in
set_option maxHeartbeats 4000000 in
theorem tMO_find {L : Nat} {e : vmD} {Qo : Option Value → vmW → Prop} {Q : Int32 → vmD → Prop} (hQ : ∀ r d, Q r d → Qo (some (.int r)) (wR L d e)) (x1 : Int32) (x2 : Int32) (d : vmD) (h : MO_find x1 x2 d Q) : vmWp 259 0 [(0, .ref 42), (1, .int x1), (2, .int x2)] [] (wR L d e) Qo := by
  unfold MO_find at h
  refine st_go 2 (pc' := 2) (lo' := [(3, .int 0), (0, .ref 42), (1, .int x1), (2, .int x2)]) (st' := []) rfl ?_
  obtain ⟨m2, h⟩ := h
  refine vmWp.sub (lo' := [(0, .ref 42), (1, .int x1), (2, .int x2), (3, .int 0)]) ⟨rfl, rfl, rfl, rfl, trivial⟩ ?_
  exact tMO_find_2 hQ m2 x1 x2 0 d h
set_option maxRecDepth 100000 in
def MO_apply_83 (s0 : Int32) (s1 : Int32) (d : vmD) (Q : Int32 → vmD → Prop) : Prop :=
  ixOk s1 400 ∧
  bnd (sA d 49 s1.toNatClampNeg s0) fun d_10 =>
  Q 1 d_10
set_option maxRecDepth 100000 in
set_option maxHeartbeats 4000000 in
theorem tMO_apply_83 {L : Nat} {e : vmD} {Qo : Option Value → vmW → Prop} {Q : Int32 → vmD → Prop} (hQ : ∀ r d, Q r d → Qo (some (.int r)) (wR L d e)) (s0 : Int32) (s1 : Int32) (d : vmD) (h : MO_apply_83 s0 s1 d Q) : vmWp 268 83 [] [.int s0, .int s1, .ref 49] (wR L d e) Qo := by
  unfold MO_apply_83 at h
  obtain ⟨hj_9, h⟩ := h
  refine st_iastR (o := 49) rfl rfl hj_9 rfl (fun d_10 hy_d_10 => ?_)
  have h := h d_10 hy_d_10
  refine st_go 1 (pc' := 85) (lo' := []) (st' := [.int 1]) rfl ?_
  exact st_retZ rfl rfl (Or.inr rfl) (hQ _ _ h)
set_option maxRecDepth 100000 in
def MO_apply_30 (x2 : Int32) (d : vmD) (Q : Int32 → vmD → Prop) : Prop :=
  bnd (sF d 42 19 ((gF d 42 19) - 1)) fun d_5 =>
  if x2 = 2 then
  (ixOk ((gF d_5 42 18) - 1) 400 ∧
  bnd (gA d_5 49 ((gF d_5 42 18) - 1).toNatClampNeg) fun y_8 =>
  MO_apply_83 (-y_8) ((gF d_5 42 18) - 1) d_5 Q)
  else
  (ixOk ((gF d_5 42 18) - 1) 400 ∧
  bnd (gA d_5 49 ((gF d_5 42 18) - 1).toNatClampNeg) fun y_12 =>
  MO_apply_83 (y_12 ^^^ (-1)) ((gF d_5 42 18) - 1) d_5 Q)
set_option maxRecDepth 100000 in
set_option maxHeartbeats 4000000 in
theorem tMO_apply_30 {L : Nat} {e : vmD} {Qo : Option Value → vmW → Prop} {Q : Int32 → vmD → Prop} (hQ : ∀ r d, Q r d → Qo (some (.int r)) (wR L d e)) (x2 : Int32) (d : vmD) (h : MO_apply_30 x2 d Q) : vmWp 268 30 [(0, .ref 42), (2, .int x2)] [] (wR L d e) Qo := by
  unfold MO_apply_30 at h
  refine st_go 5 (pc' := 37) (lo' := [(0, .ref 42), (2, .int x2)]) (st' := [.int ((gF d 42 19) - 1), .ref 42]) rfl ?_
  refine st_putIR (o := 42) (f := 19) rfl rfl rfl rfl rfl (fun d_5 hy_d_5 => ?_)
  have h := h d_5 hy_d_5
  refine st_go 8 (pc' := 52) (lo' := [(0, .ref 42), (2, .int x2)]) (st' := [.int 2, .int x2, .int ((gF d_5 42 18) - 1), .ref 49]) rfl ?_
  by_cases hc_6 : x2 = 2
  · have h := Eq.mp (if_pos hc_6) h
    refine st_icmp (t := 55) (b := false) rfl (decide_eq_false (fun z => z hc_6)) rfl ?_
    refine st_go 6 (pc' := 65) (lo' := [(0, .ref 42), (2, .int x2)]) (st' := [.int ((gF d_5 42 18) - 1), .ref 49, .int ((gF d_5 42 18) - 1), .ref 49]) rfl ?_
    obtain ⟨hj_7, h⟩ := h
    refine st_ialdR (o := 49) rfl rfl hj_7 rfl (fun y_8 hy_y_8 => ?_)
    have h := h y_8 hy_y_8
    refine st_go 2 (pc' := 83) (lo' := [(0, .ref 42), (2, .int x2)]) (st' := [.int (-y_8), .int ((gF d_5 42 18) - 1), .ref 49]) rfl ?_
    refine vmWp.sub (lo' := []) trivial ?_
    exact tMO_apply_83 hQ (-y_8) ((gF d_5 42 18) - 1) d_5 h
  · have h := Eq.mp (if_neg hc_6) h
    refine st_icmp (t := 70) (b := true) rfl (decide_eq_true hc_6) rfl ?_
    refine st_go 6 (pc' := 80) (lo' := [(0, .ref 42), (2, .int x2)]) (st' := [.int ((gF d_5 42 18) - 1), .ref 49, .int ((gF d_5 42 18) - 1), .ref 49]) rfl ?_
    obtain ⟨hj_11, h⟩ := h
    refine st_ialdR (o := 49) rfl rfl hj_11 rfl (fun y_12 hy_y_12 => ?_)
    have h := h y_12 hy_y_12
    refine st_go 2 (pc' := 83) (lo' := [(0, .ref 42), (2, .int x2)]) (st' := [.int (y_12 ^^^ (-1)), .int ((gF d_5 42 18) - 1), .ref 49]) rfl ?_
    refine vmWp.sub (lo' := []) trivial ?_
    exact tMO_apply_83 hQ (y_12 ^^^ (-1)) ((gF d_5 42 18) - 1) d_5 h
set_option maxRecDepth 100000 in
def MO_apply_278 (s0 : Int32) (s1 : Int32) (d : vmD) (Q : Int32 → vmD → Prop) : Prop :=
  ixOk s1 400 ∧
  bnd (sA d 49 s1.toNatClampNeg s0) fun d_24 =>
  Q 1 d_24
set_option maxRecDepth 100000 in
set_option maxHeartbeats 4000000 in
theorem tMO_apply_278 {L : Nat} {e : vmD} {Qo : Option Value → vmW → Prop} {Q : Int32 → vmD → Prop} (hQ : ∀ r d, Q r d → Qo (some (.int r)) (wR L d e)) (s0 : Int32) (s1 : Int32) (d : vmD) (h : MO_apply_278 s0 s1 d Q) : vmWp 268 278 [] [.int s0, .int s1, .ref 49] (wR L d e) Qo := by
  unfold MO_apply_278 at h
  obtain ⟨hj_23, h⟩ := h
  refine st_iastR (o := 49) rfl rfl hj_23 rfl (fun d_24 hy_d_24 => ?_)
  have h := h d_24 hy_d_24
  refine st_go 1 (pc' := 280) (lo' := []) (st' := [.int 1]) rfl ?_
  exact st_retZ rfl rfl (Or.inr rfl) (hQ _ _ h)
set_option maxRecDepth 100000 in
def MO_apply_152 (x2 : Int32) (x3 : Int32) (x4 : Int32) (d : vmD) (Q : Int32 → vmD → Prop) : Prop :=
  if x2 = 124 then
  (MO_apply_278 (x3 ||| x4) ((gF d 42 18) - 1) d Q)
  else
  (if x2 = 94 then
  (MO_apply_278 (x3 ^^^ x4) ((gF d 42 18) - 1) d Q)
  else
  (if x2 = 38 then
  (MO_apply_278 (x3 &&& x4) ((gF d 42 18) - 1) d Q)
  else
  (if x2 = 300 then
  (MO_apply_278 (x3 <<< ((x4 &&& 31) &&& 31)) ((gF d 42 18) - 1) d Q)
  else
  (if x2 = 301 then
  (MO_apply_278 (x3 >>> ((x4 &&& 31) &&& 31)) ((gF d 42 18) - 1) d Q)
  else
  (if x2 = 43 then
  (MO_apply_278 (x3 + x4) ((gF d 42 18) - 1) d Q)
  else
  (if x2 = 45 then
  (MO_apply_278 (x3 - x4) ((gF d 42 18) - 1) d Q)
  else
  (if x2 = 42 then
  (MO_apply_278 (x3 * x4) ((gF d 42 18) - 1) d Q)
  else
  (¬ x4 = 0 ∧
  MO_apply_278 (x3 / x4) ((gF d 42 18) - 1) d Q))))))))
set_option maxRecDepth 100000 in
set_option maxHeartbeats 4000000 in
theorem tMO_apply_152 {L : Nat} {e : vmD} {Qo : Option Value → vmW → Prop} {Q : Int32 → vmD → Prop} (hQ : ∀ r d, Q r d → Qo (some (.int r)) (wR L d e)) (x2 : Int32) (x3 : Int32) (x4 : Int32) (d : vmD) (h : MO_apply_152 x2 x3 x4 d Q) : vmWp 268 152 [(0, .ref 42), (2, .int x2), (3, .int x3), (4, .int x4)] [] (wR L d e) Qo := by
  unfold MO_apply_152 at h
  refine st_go 8 (pc' := 165) (lo' := [(0, .ref 42), (2, .int x2), (3, .int x3), (4, .int x4)]) (st' := [.int 124, .int x2, .int ((gF d 42 18) - 1), .ref 49]) rfl ?_
  by_cases hc_22 : x2 = 124
  · have h := Eq.mp (if_pos hc_22) h
    refine st_icmp (t := 168) (b := false) rfl (decide_eq_false (fun z => z hc_22)) rfl ?_
    refine st_go 4 (pc' := 278) (lo' := [(0, .ref 42), (2, .int x2), (3, .int x3), (4, .int x4)]) (st' := [.int (x3 ||| x4), .int ((gF d 42 18) - 1), .ref 49]) rfl ?_
    refine vmWp.sub (lo' := []) trivial ?_
    exact tMO_apply_278 hQ (x3 ||| x4) ((gF d 42 18) - 1) d h
  · have h := Eq.mp (if_neg hc_22) h
    refine st_icmp (t := 175) (b := true) rfl (decide_eq_true hc_22) rfl ?_
    refine st_go 2 (pc' := 178) (lo' := [(0, .ref 42), (2, .int x2), (3, .int x3), (4, .int x4)]) (st' := [.int 94, .int x2, .int ((gF d 42 18) - 1), .ref 49]) rfl ?_
    by_cases hc_25 : x2 = 94
    · have h := Eq.mp (if_pos hc_25) h
      refine st_icmp (t := 181) (b := false) rfl (decide_eq_false (fun z => z hc_25)) rfl ?_
      refine st_go 4 (pc' := 278) (lo' := [(0, .ref 42), (2, .int x2), (3, .int x3), (4, .int x4)]) (st' := [.int (x3 ^^^ x4), .int ((gF d 42 18) - 1), .ref 49]) rfl ?_
      refine vmWp.sub (lo' := []) trivial ?_
      exact tMO_apply_278 hQ (x3 ^^^ x4) ((gF d 42 18) - 1) d h
    · have h := Eq.mp (if_neg hc_25) h
      refine st_icmp (t := 188) (b := true) rfl (decide_eq_true hc_25) rfl ?_
      refine st_go 2 (pc' := 191) (lo' := [(0, .ref 42), (2, .int x2), (3, .int x3), (4, .int x4)]) (st' := [.int 38, .int x2, .int ((gF d 42 18) - 1), .ref 49]) rfl ?_
      by_cases hc_26 : x2 = 38
      · have h := Eq.mp (if_pos hc_26) h
        refine st_icmp (t := 194) (b := false) rfl (decide_eq_false (fun z => z hc_26)) rfl ?_
        refine st_go 4 (pc' := 278) (lo' := [(0, .ref 42), (2, .int x2), (3, .int x3), (4, .int x4)]) (st' := [.int (x3 &&& x4), .int ((gF d 42 18) - 1), .ref 49]) rfl ?_
        refine vmWp.sub (lo' := []) trivial ?_
        exact tMO_apply_278 hQ (x3 &&& x4) ((gF d 42 18) - 1) d h
      · have h := Eq.mp (if_neg hc_26) h
        refine st_icmp (t := 201) (b := true) rfl (decide_eq_true hc_26) rfl ?_
        refine st_go 2 (pc' := 205) (lo' := [(0, .ref 42), (2, .int x2), (3, .int x3), (4, .int x4)]) (st' := [.int 300, .int x2, .int ((gF d 42 18) - 1), .ref 49]) rfl ?_
        by_cases hc_27 : x2 = 300
        · have h := Eq.mp (if_pos hc_27) h
          refine st_icmp (t := 208) (b := false) rfl (decide_eq_false (fun z => z hc_27)) rfl ?_
          refine st_go 6 (pc' := 278) (lo' := [(0, .ref 42), (2, .int x2), (3, .int x3), (4, .int x4)]) (st' := [.int (x3 <<< ((x4 &&& 31) &&& 31)), .int ((gF d 42 18) - 1), .ref 49]) rfl ?_
          refine vmWp.sub (lo' := []) trivial ?_
          exact tMO_apply_278 hQ (x3 <<< ((x4 &&& 31) &&& 31)) ((gF d 42 18) - 1) d h
        · have h := Eq.mp (if_neg hc_27) h
          refine st_icmp (t := 218) (b := true) rfl (decide_eq_true hc_27) rfl ?_
          refine st_go 2 (pc' := 222) (lo' := [(0, .ref 42), (2, .int x2), (3, .int x3), (4, .int x4)]) (st' := [.int 301, .int x2, .int ((gF d 42 18) - 1), .ref 49]) rfl ?_
          by_cases hc_28 : x2 = 301
          · have h := Eq.mp (if_pos hc_28) h
            refine st_icmp (t := 225) (b := false) rfl (decide_eq_false (fun z => z hc_28)) rfl ?_
            refine st_go 6 (pc' := 278) (lo' := [(0, .ref 42), (2, .int x2), (3, .int x3), (4, .int x4)]) (st' := [.int (x3 >>> ((x4 &&& 31) &&& 31)), .int ((gF d 42 18) - 1), .ref 49]) rfl ?_
            refine vmWp.sub (lo' := []) trivial ?_
            exact tMO_apply_278 hQ (x3 >>> ((x4 &&& 31) &&& 31)) ((gF d 42 18) - 1) d h
          · have h := Eq.mp (if_neg hc_28) h
            refine st_icmp (t := 235) (b := true) rfl (decide_eq_true hc_28) rfl ?_
            refine st_go 2 (pc' := 238) (lo' := [(0, .ref 42), (2, .int x2), (3, .int x3), (4, .int x4)]) (st' := [.int 43, .int x2, .int ((gF d 42 18) - 1), .ref 49]) rfl ?_
            by_cases hc_29 : x2 = 43
            · have h := Eq.mp (if_pos hc_29) h
              refine st_icmp (t := 241) (b := false) rfl (decide_eq_false (fun z => z hc_29)) rfl ?_
              refine st_go 4 (pc' := 278) (lo' := [(0, .ref 42), (2, .int x2), (3, .int x3), (4, .int x4)]) (st' := [.int (x3 + x4), .int ((gF d 42 18) - 1), .ref 49]) rfl ?_
              refine vmWp.sub (lo' := []) trivial ?_
              exact tMO_apply_278 hQ (x3 + x4) ((gF d 42 18) - 1) d h
            · have h := Eq.mp (if_neg hc_29) h
              refine st_icmp (t := 248) (b := true) rfl (decide_eq_true hc_29) rfl ?_
              refine st_go 2 (pc' := 251) (lo' := [(0, .ref 42), (2, .int x2), (3, .int x3), (4, .int x4)]) (st' := [.int 45, .int x2, .int ((gF d 42 18) - 1), .ref 49]) rfl ?_
              by_cases hc_30 : x2 = 45
              · have h := Eq.mp (if_pos hc_30) h
                refine st_icmp (t := 254) (b := false) rfl (decide_eq_false (fun z => z hc_30)) rfl ?_
                refine st_go 4 (pc' := 278) (lo' := [(0, .ref 42), (2, .int x2), (3, .int x3), (4, .int x4)]) (st' := [.int (x3 - x4), .int ((gF d 42 18) - 1), .ref 49]) rfl ?_
                refine vmWp.sub (lo' := []) trivial ?_
                exact tMO_apply_278 hQ (x3 - x4) ((gF d 42 18) - 1) d h
              · have h := Eq.mp (if_neg hc_30) h
                refine st_icmp (t := 261) (b := true) rfl (decide_eq_true hc_30) rfl ?_
                refine st_go 2 (pc' := 264) (lo' := [(0, .ref 42), (2, .int x2), (3, .int x3), (4, .int x4)]) (st' := [.int 42, .int x2, .int ((gF d 42 18) - 1), .ref 49]) rfl ?_
                by_cases hc_31 : x2 = 42
                · have h := Eq.mp (if_pos hc_31) h
                  refine st_icmp (t := 267) (b := false) rfl (decide_eq_false (fun z => z hc_31)) rfl ?_
                  refine st_go 4 (pc' := 278) (lo' := [(0, .ref 42), (2, .int x2), (3, .int x3), (4, .int x4)]) (st' := [.int (x3 * x4), .int ((gF d 42 18) - 1), .ref 49]) rfl ?_
                  refine vmWp.sub (lo' := []) trivial ?_
                  exact tMO_apply_278 hQ (x3 * x4) ((gF d 42 18) - 1) d h
                · have h := Eq.mp (if_neg hc_31) h
                  refine st_icmp (t := 274) (b := true) rfl (decide_eq_true hc_31) rfl ?_
                  refine st_go 2 (pc' := 277) (lo' := [(0, .ref 42), (2, .int x2), (3, .int x3), (4, .int x4)]) (st' := [.int x4, .int x3, .int ((gF d 42 18) - 1), .ref 49]) rfl ?_
                  obtain ⟨hz_32, h⟩ := h
                  refine st_idiv rfl hz_32 ?_
                  refine vmWp.sub (lo' := []) trivial ?_
                  exact tMO_apply_278 hQ (x3 / x4) ((gF d 42 18) - 1) d h
set_option maxRecDepth 100000 in
def MO_apply (x1 : Int32) (d : vmD) (Q : Int32 → vmD → Prop) : Prop :=
  bnd (sF d 42 16 ((gF d 42 16) - 1)) fun d_1 =>
  ixOk (gF d_1 42 16) 400 ∧
  bnd (gA d_1 47 (gF d_1 42 16).toNatClampNeg) fun y_3 =>
  if y_3 = 2 then
  (MO_apply_30 y_3 d_1 Q)
  else
  (if y_3 = 3 then
  (MO_apply_30 y_3 d_1 Q)
  else
  (bnd (sF d_1 42 18 ((gF d_1 42 18) - 1)) fun d_14 =>
  ixOk ((gF d_14 42 18) - 1) 400 ∧
  bnd (gA d_14 49 ((gF d_14 42 18) - 1).toNatClampNeg) fun y_16 =>
  ixOk (gF d_14 42 18) 400 ∧
  bnd (gA d_14 49 (gF d_14 42 18).toNatClampNeg) fun y_18 =>
  if y_3 = 47 then
  (if y_18 = 0 then
  (if x1 = 0 then
  (MO_apply_152 y_3 y_16 1 d_14 Q)
  else
  (ixOk (gF d_14 42 16) 400 ∧
  bnd (gA d_14 48 (gF d_14 42 16).toNatClampNeg) fun y_34 =>
  MO_wrong 5 y_34 d_14 fun r_36 d_35 =>
  (r_36 = 0 ∨ r_36 = 1) ∧ Q r_36 d_35))
  else
  (MO_apply_152 y_3 y_16 y_18 d_14 Q))
  else
  (MO_apply_152 y_3 y_16 y_18 d_14 Q)))
set_option maxRecDepth 100000 in
set_option maxHeartbeats 4000000 in
theorem tMO_apply {L : Nat} {e : vmD} {Qo : Option Value → vmW → Prop} {Q : Int32 → vmD → Prop} (hQ : ∀ r d, Q r d → Qo (some (.int r)) (wR L d e)) (x1 : Int32) (d : vmD) (h : MO_apply x1 d Q) : vmWp 268 0 [(0, .ref 42), (1, .int x1)] [] (wR L d e) Qo := by
  unfold MO_apply at h
  refine st_go 5 (pc' := 7) (lo' := [(0, .ref 42), (1, .int x1)]) (st' := [.int ((gF d 42 16) - 1), .ref 42]) rfl ?_
  refine st_putIR (o := 42) (f := 16) rfl rfl rfl rfl rfl (fun d_1 hy_d_1 => ?_)
  have h := h d_1 hy_d_1
  refine st_go 4 (pc' := 18) (lo' := [(0, .ref 42), (1, .int x1)]) (st' := [.int (gF d_1 42 16), .ref 47]) rfl ?_
  obtain ⟨hj_2, h⟩ := h
  refine st_ialdR (o := 47) rfl rfl hj_2 rfl (fun y_3 hy_y_3 => ?_)
  have h := h y_3 hy_y_3
  refine st_go 3 (pc' := 22) (lo' := [(2, .int y_3), (0, .ref 42), (1, .int x1)]) (st' := [.int 2, .int y_3]) rfl ?_
  by_cases hc_4 : y_3 = 2
  · have h := Eq.mp (if_pos hc_4) h
    refine st_icmp (t := 30) (b := true) rfl (decide_eq_true hc_4) rfl ?_
    refine vmWp.sub (lo' := [(0, .ref 42), (2, .int y_3)]) ⟨rfl, rfl, trivial⟩ ?_
    exact tMO_apply_30 hQ y_3 d_1 h
  · have h := Eq.mp (if_neg hc_4) h
    refine st_icmp (t := 25) (b := false) rfl (decide_eq_false hc_4) rfl ?_
    refine st_go 2 (pc' := 27) (lo' := [(2, .int y_3), (0, .ref 42), (1, .int x1)]) (st' := [.int 3, .int y_3]) rfl ?_
    by_cases hc_13 : y_3 = 3
    · have h := Eq.mp (if_pos hc_13) h
      refine st_icmp (t := 30) (b := false) rfl (decide_eq_false (fun z => z hc_13)) rfl ?_
      refine vmWp.sub (lo' := [(0, .ref 42), (2, .int y_3)]) ⟨rfl, rfl, trivial⟩ ?_
      exact tMO_apply_30 hQ y_3 d_1 h
    · have h := Eq.mp (if_neg hc_13) h
      refine st_icmp (t := 86) (b := true) rfl (decide_eq_true hc_13) rfl ?_
      refine st_go 5 (pc' := 93) (lo' := [(2, .int y_3), (0, .ref 42), (1, .int x1)]) (st' := [.int ((gF d_1 42 18) - 1), .ref 42]) rfl ?_
      refine st_putIR (o := 42) (f := 18) rfl rfl rfl rfl rfl (fun d_14 hy_d_14 => ?_)
      have h := h d_14 hy_d_14
      refine st_go 6 (pc' := 106) (lo' := [(2, .int y_3), (0, .ref 42), (1, .int x1)]) (st' := [.int ((gF d_14 42 18) - 1), .ref 49]) rfl ?_
      obtain ⟨hj_15, h⟩ := h
      refine st_ialdR (o := 49) rfl rfl hj_15 rfl (fun y_16 hy_y_16 => ?_)
      have h := h y_16 hy_y_16
      refine st_go 5 (pc' := 116) (lo' := [(3, .int y_16), (2, .int y_3), (0, .ref 42), (1, .int x1)]) (st' := [.int (gF d_14 42 18), .ref 49]) rfl ?_
      obtain ⟨hj_17, h⟩ := h
      refine st_ialdR (o := 49) rfl rfl hj_17 rfl (fun y_18 hy_y_18 => ?_)
      have h := h y_18 hy_y_18
      refine st_go 3 (pc' := 122) (lo' := [(4, .int y_18), (3, .int y_16), (2, .int y_3), (0, .ref 42), (1, .int x1)]) (st' := [.int 47, .int y_3]) rfl ?_
      by_cases hc_19 : y_3 = 47
      · have h := Eq.mp (if_pos hc_19) h
        refine st_icmp (t := 125) (b := false) rfl (decide_eq_false (fun z => z hc_19)) rfl ?_
        refine st_go 1 (pc' := 127) (lo' := [(4, .int y_18), (3, .int y_16), (2, .int y_3), (0, .ref 42), (1, .int x1)]) (st' := [.int y_18]) rfl ?_
        by_cases hc_20 : y_18 = 0
        · have h := Eq.mp (if_pos hc_20) h
          refine st_if (t := 130) (b := false) rfl (decide_eq_false (fun z => z hc_20)) rfl ?_
          refine st_go 1 (pc' := 131) (lo' := [(4, .int y_18), (3, .int y_16), (2, .int y_3), (0, .ref 42), (1, .int x1)]) (st' := [.int x1]) rfl ?_
          by_cases hc_21 : x1 = 0
          · have h := Eq.mp (if_pos hc_21) h
            refine st_if (t := 149) (b := true) rfl (decide_eq_true hc_21) rfl ?_
            refine st_go 2 (pc' := 152) (lo' := [(4, .int 1), (3, .int y_16), (2, .int y_3), (0, .ref 42), (1, .int x1)]) (st' := []) rfl ?_
            refine vmWp.sub (lo' := [(0, .ref 42), (2, .int y_3), (3, .int y_16), (4, .int 1)]) ⟨rfl, rfl, rfl, rfl, trivial⟩ ?_
            exact tMO_apply_152 hQ y_3 y_16 1 d_14 h
          · have h := Eq.mp (if_neg hc_21) h
            refine st_if (t := 134) (b := false) rfl (decide_eq_false hc_21) rfl ?_
            refine st_go 6 (pc' := 144) (lo' := [(4, .int y_18), (3, .int y_16), (2, .int y_3), (0, .ref 42), (1, .int x1)]) (st' := [.int (gF d_14 42 16), .ref 48, .int 5, .ref 42]) rfl ?_
            obtain ⟨hj_33, h⟩ := h
            refine st_ialdR (o := 48) rfl rfl hj_33 rfl (fun y_34 hy_y_34 => ?_)
            have h := h y_34 hy_y_34
            refine st_calli (k' := 245) (as := [.ref 42, .int 5, .int y_34]) (rest := []) (lo' := [(0, .ref 42), (1, .int 5), (2, .int y_34)]) (wf := fun d => wR L d e) rfl rfl rfl ?_
            refine tMO_wrong (fun r_36 d_35 h => ⟨r_36, d_35, rfl, rfl, ?_⟩) 5 y_34 d_14 h
            exact st_retZ rfl rfl h.1 (hQ _ _ h.2)
        · have h := Eq.mp (if_neg hc_20) h
          refine st_if (t := 152) (b := true) rfl (decide_eq_true hc_20) rfl ?_
          refine vmWp.sub (lo' := [(0, .ref 42), (2, .int y_3), (3, .int y_16), (4, .int y_18)]) ⟨rfl, rfl, rfl, rfl, trivial⟩ ?_
          exact tMO_apply_152 hQ y_3 y_16 y_18 d_14 h
      · have h := Eq.mp (if_neg hc_19) h
        refine st_icmp (t := 152) (b := true) rfl (decide_eq_true hc_19) rfl ?_
        refine vmWp.sub (lo' := [(0, .ref 42), (2, .int y_3), (3, .int y_16), (4, .int y_18)]) ⟨rfl, rfl, rfl, rfl, trivial⟩ ?_
        exact tMO_apply_152 hQ y_3 y_16 y_18 d_14 h
set_option maxRecDepth 100000 in
def MO_unaries_37 (b0 : Int32 → vmD → Prop) (x1 : Int32) (d : vmD) (Q : Int32 → vmD → Prop) : Prop :=
  MO_apply x1 d fun r_6 d_5 =>
  b0 x1 d_5
set_option maxRecDepth 100000 in
set_option maxHeartbeats 4000000 in
theorem tMO_unaries_37 {L : Nat} {e : vmD} {Qo : Option Value → vmW → Prop} {b0 : Int32 → vmD → Prop} {Q : Int32 → vmD → Prop} (hb0 : ∀ x1 d, b0 x1 d → vmWp 271 0 [(0, .ref 42), (1, .int x1)] [] (wR L d e) Qo) (hQ : ∀ r d, Q r d → Qo (some (.int r)) (wR L d e)) (x1 : Int32) (d : vmD) (h : MO_unaries_37 b0 x1 d Q) : vmWp 271 37 [(0, .ref 42), (1, .int x1)] [] (wR L d e) Qo := by
  unfold MO_unaries_37 at h
  refine st_go 2 (pc' := 39) (lo' := [(0, .ref 42), (1, .int x1)]) (st' := [.int x1, .ref 42]) rfl ?_
  refine st_calli (k' := 268) (as := [.ref 42, .int x1]) (rest := []) (lo' := [(0, .ref 42), (1, .int x1)]) (wf := fun d => wR L d e) rfl rfl rfl ?_
  refine tMO_apply (fun r_6 d_5 h => ⟨r_6, d_5, rfl, rfl, ?_⟩) x1 d h
  refine st_go 2 (pc' := 0) (lo' := [(0, .ref 42), (1, .int x1)]) (st' := []) rfl ?_
  refine vmWp.sub (lo' := [(0, .ref 42), (1, .int x1)]) ⟨rfl, rfl, trivial⟩ ?_
  exact hb0 x1 d_5 h
set_option maxRecDepth 100000 in
def MO_unaries_0 (Q : Int32 → vmD → Prop) : Nat → Int32 → vmD → Prop
  | 0, _, _ => False
  | n + 1, x1, d => if (0 : Int32) < (gF d 42 16) then
  (ixOk ((gF d 42 16) - 1) 400 ∧
  bnd (gA d 47 ((gF d 42 16) - 1).toNatClampNeg) fun y_3 =>
  if y_3 = 2 then
  (MO_unaries_37 (MO_unaries_0 Q n) x1 d Q)
  else
  (ixOk ((gF d 42 16) - 1) 400 ∧
  bnd (gA d 47 ((gF d 42 16) - 1).toNatClampNeg) fun y_8 =>
  if y_8 = 3 then
  (MO_unaries_37 (MO_unaries_0 Q n) x1 d Q)
  else
  (Q 1 d)))
  else
  (Q 1 d)
set_option maxRecDepth 100000 in
set_option maxHeartbeats 4000000 in
theorem tMO_unaries_0 {L : Nat} {e : vmD} {Qo : Option Value → vmW → Prop} {Q : Int32 → vmD → Prop} (hQ : ∀ r d, Q r d → Qo (some (.int r)) (wR L d e)) : ∀ (n : Nat) (x1 : Int32) (d : vmD), MO_unaries_0 Q n x1 d → vmWp 271 0 [(0, .ref 42), (1, .int x1)] [] (wR L d e) Qo := by
  intro n
  induction n with
  | zero => intro x1 d h; exact h.elim
  | succ n ih =>
    intro x1 d h
    unfold MO_unaries_0 at h
    refine st_go 2 (pc' := 4) (lo' := [(0, .ref 42), (1, .int x1)]) (st' := [.int (gF d 42 16)]) rfl ?_
    by_cases hc_1 : (0 : Int32) < (gF d 42 16)
    · have h := Eq.mp (if_pos hc_1) h
      refine st_if (t := 7) (b := false) rfl (decide_eq_false (Int32.not_le.mpr hc_1)) rfl ?_
      refine st_go 6 (pc' := 17) (lo' := [(0, .ref 42), (1, .int x1)]) (st' := [.int ((gF d 42 16) - 1), .ref 47]) rfl ?_
      obtain ⟨hj_2, h⟩ := h
      refine st_ialdR (o := 47) rfl rfl hj_2 rfl (fun y_3 hy_y_3 => ?_)
      have h := h y_3 hy_y_3
      refine st_go 1 (pc' := 19) (lo' := [(0, .ref 42), (1, .int x1)]) (st' := [.int 2, .int y_3]) rfl ?_
      by_cases hc_4 : y_3 = 2
      · have h := Eq.mp (if_pos hc_4) h
        refine st_icmp (t := 37) (b := true) rfl (decide_eq_true hc_4) rfl ?_
        refine vmWp.sub (lo' := [(0, .ref 42), (1, .int x1)]) ⟨rfl, rfl, trivial⟩ ?_
        exact tMO_unaries_37 ih hQ x1 d h
      · have h := Eq.mp (if_neg hc_4) h
        refine st_icmp (t := 22) (b := false) rfl (decide_eq_false hc_4) rfl ?_
        refine st_go 6 (pc' := 32) (lo' := [(0, .ref 42), (1, .int x1)]) (st' := [.int ((gF d 42 16) - 1), .ref 47]) rfl ?_
        obtain ⟨hj_7, h⟩ := h
        refine st_ialdR (o := 47) rfl rfl hj_7 rfl (fun y_8 hy_y_8 => ?_)
        have h := h y_8 hy_y_8
        refine st_go 1 (pc' := 34) (lo' := [(0, .ref 42), (1, .int x1)]) (st' := [.int 3, .int y_8]) rfl ?_
        by_cases hc_9 : y_8 = 3
        · have h := Eq.mp (if_pos hc_9) h
          refine st_icmp (t := 37) (b := false) rfl (decide_eq_false (fun z => z hc_9)) rfl ?_
          refine vmWp.sub (lo' := [(0, .ref 42), (1, .int x1)]) ⟨rfl, rfl, trivial⟩ ?_
          exact tMO_unaries_37 ih hQ x1 d h
        · have h := Eq.mp (if_neg hc_9) h
          refine st_icmp (t := 46) (b := true) rfl (decide_eq_true hc_9) rfl ?_
          refine st_go 1 (pc' := 47) (lo' := [(0, .ref 42), (1, .int x1)]) (st' := [.int 1]) rfl ?_
          exact st_retZ rfl rfl (Or.inr rfl) (hQ _ _ h)
    · have h := Eq.mp (if_neg hc_1) h
      refine st_if (t := 46) (b := true) rfl (decide_eq_true (Int32.not_lt.mp hc_1)) rfl ?_
      refine st_go 1 (pc' := 47) (lo' := [(0, .ref 42), (1, .int x1)]) (st' := [.int 1]) rfl ?_
      exact st_retZ rfl rfl (Or.inr rfl) (hQ _ _ h)
set_option maxRecDepth 100000 in
def MO_unaries (x1 : Int32) (d : vmD) (Q : Int32 → vmD → Prop) : Prop :=
  ∃ m0, MO_unaries_0 Q m0 x1 d
set_option maxRecDepth 100000 in
set_option maxHeartbeats 4000000 in
theorem tMO_unaries {L : Nat} {e : vmD} {Qo : Option Value → vmW → Prop} {Q : Int32 → vmD → Prop} (hQ : ∀ r d, Q r d → Qo (some (.int r)) (wR L d e)) (x1 : Int32) (d : vmD) (h : MO_unaries x1 d Q) : vmWp 271 0 [(0, .ref 42), (1, .int x1)] [] (wR L d e) Qo := by
  unfold MO_unaries at h
  obtain ⟨m0, h⟩ := h
  refine vmWp.sub (lo' := [(0, .ref 42), (1, .int x1)]) ⟨rfl, rfl, trivial⟩ ?_
  exact tMO_unaries_0 hQ m0 x1 d h
set_option maxRecDepth 100000 in
def MO_operand_108 (x1 : Int32) (x2 : Int32) (d : vmD) (Q : Int32 → vmD → Prop) : Prop :=
  ixOk (gF d 42 18) 400 ∧
  bnd (sA d 49 (gF d 42 18).toNatClampNeg x2) fun d_4 =>
  bnd (sF d_4 42 18 ((gF d_4 42 18) + 1)) fun d_5 =>
  MO_next d_5 fun d_6 =>
  MO_unaries x1 d_6 fun r_8 d_7 =>
  (r_8 = 0 ∨ r_8 = 1) ∧ Q r_8 d_7
set_option maxRecDepth 100000 in
set_option maxHeartbeats 4000000 in
theorem tMO_operand_108 {L : Nat} {e : vmD} {Qo : Option Value → vmW → Prop} {Q : Int32 → vmD → Prop} (hQ : ∀ r d, Q r d → Qo (some (.int r)) (wR L d e)) (x1 : Int32) (x2 : Int32) (d : vmD) (h : MO_operand_108 x1 x2 d Q) : vmWp 270 108 [(0, .ref 42), (1, .int x1), (2, .int x2)] [] (wR L d e) Qo := by
  unfold MO_operand_108 at h
  refine st_go 5 (pc' := 117) (lo' := [(0, .ref 42), (1, .int x1), (2, .int x2)]) (st' := [.int x2, .int (gF d 42 18), .ref 49]) rfl ?_
  obtain ⟨hj_3, h⟩ := h
  refine st_iastR (o := 49) rfl rfl hj_3 rfl (fun d_4 hy_d_4 => ?_)
  have h := h d_4 hy_d_4
  refine st_go 5 (pc' := 125) (lo' := [(0, .ref 42), (1, .int x1), (2, .int x2)]) (st' := [.int ((gF d_4 42 18) + 1), .ref 42]) rfl ?_
  refine st_putIR (o := 42) (f := 18) rfl rfl rfl rfl rfl (fun d_5 hy_d_5 => ?_)
  have h := h d_5 hy_d_5
  refine st_go 1 (pc' := 129) (lo' := [(0, .ref 42), (1, .int x1), (2, .int x2)]) (st' := [.ref 42]) rfl ?_
  refine st_callv (k' := 252) (as := [.ref 42]) (rest := []) (lo' := [(0, .ref 42)]) (wf := fun d => wR L d e) rfl rfl rfl ?_
  refine tMO_next (fun d_6 h => ⟨d_6, rfl, rfl, ?_⟩) d_5 h
  refine st_go 2 (pc' := 134) (lo' := [(0, .ref 42), (1, .int x1), (2, .int x2)]) (st' := [.int x1, .ref 42]) rfl ?_
  refine st_calli (k' := 271) (as := [.ref 42, .int x1]) (rest := []) (lo' := [(0, .ref 42), (1, .int x1)]) (wf := fun d => wR L d e) rfl rfl rfl ?_
  refine tMO_unaries (fun r_8 d_7 h => ⟨r_8, d_7, rfl, rfl, ?_⟩) x1 d_6 h
  exact st_retZ rfl rfl h.1 (hQ _ _ h.2)
set_option maxRecDepth 100000 in
def MO_operand_99 (x1 : Int32) (s0 : Int32) (d : vmD) (Q : Int32 → vmD → Prop) : Prop :=
  MO_operand_108 x1 s0 d Q
set_option maxRecDepth 100000 in
set_option maxHeartbeats 4000000 in
theorem tMO_operand_99 {L : Nat} {e : vmD} {Qo : Option Value → vmW → Prop} {Q : Int32 → vmD → Prop} (hQ : ∀ r d, Q r d → Qo (some (.int r)) (wR L d e)) (x1 : Int32) (s0 : Int32) (d : vmD) (h : MO_operand_99 x1 s0 d Q) : vmWp 270 99 [(0, .ref 42), (1, .int x1)] [.int s0] (wR L d e) Qo := by
  unfold MO_operand_99 at h
  refine st_go 2 (pc' := 108) (lo' := [(2, .int s0), (0, .ref 42), (1, .int x1)]) (st' := []) rfl ?_
  refine vmWp.sub (lo' := [(0, .ref 42), (1, .int x1), (2, .int s0)]) ⟨rfl, rfl, rfl, trivial⟩ ?_
  exact tMO_operand_108 hQ x1 s0 d h
set_option maxRecDepth 100000 in
def MO_operand_85 (x1 : Int32) (x3 : Int32) (d : vmD) (Q : Int32 → vmD → Prop) : Prop :=
  if x3 < 0 then
  (MO_operand_99 x1 0 d Q)
  else
  (ixOk x3 200 ∧
  bnd (gA d 46 x3.toNatClampNeg) fun y_22 =>
  MO_operand_99 x1 y_22 d Q)
set_option maxRecDepth 100000 in
set_option maxHeartbeats 4000000 in
theorem tMO_operand_85 {L : Nat} {e : vmD} {Qo : Option Value → vmW → Prop} {Q : Int32 → vmD → Prop} (hQ : ∀ r d, Q r d → Qo (some (.int r)) (wR L d e)) (x1 : Int32) (x3 : Int32) (d : vmD) (h : MO_operand_85 x1 x3 d Q) : vmWp 270 85 [(0, .ref 42), (1, .int x1), (3, .int x3)] [] (wR L d e) Qo := by
  unfold MO_operand_85 at h
  refine st_go 1 (pc' := 86) (lo' := [(0, .ref 42), (1, .int x1), (3, .int x3)]) (st' := [.int x3]) rfl ?_
  by_cases hc_20 : x3 < 0
  · have h := Eq.mp (if_pos hc_20) h
    refine st_if (t := 89) (b := false) rfl (decide_eq_false (Int32.not_le.mpr hc_20)) rfl ?_
    refine st_go 2 (pc' := 99) (lo' := [(0, .ref 42), (1, .int x1), (3, .int x3)]) (st' := [.int 0]) rfl ?_
    refine vmWp.sub (lo' := [(0, .ref 42), (1, .int x1)]) ⟨rfl, rfl, trivial⟩ ?_
    exact tMO_operand_99 hQ x1 0 d h
  · have h := Eq.mp (if_neg hc_20) h
    refine st_if (t := 93) (b := true) rfl (decide_eq_true (Int32.not_lt.mp hc_20)) rfl ?_
    refine st_go 3 (pc' := 98) (lo' := [(0, .ref 42), (1, .int x1), (3, .int x3)]) (st' := [.int x3, .ref 46]) rfl ?_
    obtain ⟨hj_21, h⟩ := h
    refine st_ialdR (o := 46) rfl rfl hj_21 rfl (fun y_22 hy_y_22 => ?_)
    have h := h y_22 hy_y_22
    refine vmWp.sub (lo' := [(0, .ref 42), (1, .int x1)]) ⟨rfl, rfl, trivial⟩ ?_
    exact tMO_operand_99 hQ x1 y_22 d h
set_option maxRecDepth 100000 in
def MO_operand_103 (d : vmD) (Q : Int32 → vmD → Prop) : Prop :=
  MO_refuse d fun r_26 d_25 =>
  (r_26 = 0 ∨ r_26 = 1) ∧ Q r_26 d_25
set_option maxRecDepth 100000 in
set_option maxHeartbeats 4000000 in
theorem tMO_operand_103 {L : Nat} {e : vmD} {Qo : Option Value → vmW → Prop} {Q : Int32 → vmD → Prop} (hQ : ∀ r d, Q r d → Qo (some (.int r)) (wR L d e)) (d : vmD) (h : MO_operand_103 d Q) : vmWp 270 103 [(0, .ref 42)] [] (wR L d e) Qo := by
  unfold MO_operand_103 at h
  refine st_go 1 (pc' := 104) (lo' := [(0, .ref 42)]) (st' := [.ref 42]) rfl ?_
  refine st_calli (k' := 246) (as := [.ref 42]) (rest := []) (lo' := [(0, .ref 42)]) (wf := fun d => wR L d e) rfl rfl rfl ?_
  refine tMO_refuse (fun r_26 d_25 h => ⟨r_26, d_25, rfl, rfl, ?_⟩) d h
  exact st_retZ rfl rfl h.1 (hQ _ _ h.2)
set_option maxRecDepth 100000 in
def MO_operand (x1 : Int32) (d : vmD) (Q : Int32 → vmD → Prop) : Prop :=
  if (gF d 42 3) = 3 then
  (bnd (gF d 42 6) fun x2_2 =>
  MO_operand_108 x1 x2_2 d Q)
  else
  (MO_isSign 64 d fun r_10 d_9 =>
  if r_10 = 0 then
  (if (gF d_9 42 3) = 2 then
  (MO_isReserved (gG d_9 42 7) d_9 fun r_14 d_13 =>
  if r_14 = 0 then
  (MO_find (gF d_13 42 4) (gF d_13 42 5) d_13 fun r_17 d_16 =>
  if r_17 < 0 then
  (if x1 = 0 then
  (MO_operand_85 x1 r_17 d_16 Q)
  else
  (MO_wrong 4 (gF d_16 42 4) d_16 fun r_24 d_23 =>
  (r_24 = 0 ∨ r_24 = 1) ∧ Q r_24 d_23))
  else
  (MO_operand_85 x1 r_17 d_16 Q))
  else
  (MO_operand_103 d_13 Q))
  else
  (MO_operand_103 d_9 Q))
  else
  (bnd (gF d_9 42 21) fun x2_27 =>
  MO_operand_108 x1 x2_27 d_9 Q))
set_option maxRecDepth 100000 in
set_option maxHeartbeats 4000000 in
theorem tMO_operand {L : Nat} {e : vmD} {Qo : Option Value → vmW → Prop} {Q : Int32 → vmD → Prop} (hQ : ∀ r d, Q r d → Qo (some (.int r)) (wR L d e)) (x1 : Int32) (d : vmD) (h : MO_operand x1 d Q) : vmWp 270 0 [(0, .ref 42), (1, .int x1)] [] (wR L d e) Qo := by
  unfold MO_operand at h
  refine st_go 5 (pc' := 7) (lo' := [(2, .int 0), (0, .ref 42), (1, .int x1)]) (st' := [.int 3, .int (gF d 42 3)]) rfl ?_
  by_cases hc_1 : (gF d 42 3) = 3
  · have h := Eq.mp (if_pos hc_1) h
    refine st_icmp (t := 10) (b := false) rfl (decide_eq_false (fun z => z hc_1)) rfl ?_
    refine st_go 3 (pc' := 15) (lo' := [(2, .int (gF d 42 6)), (0, .ref 42), (1, .int x1)]) (st' := []) rfl ?_
    refine st_locI (fun x2_2 hy_x2_2 => ?_)
    have h := h x2_2 hy_x2_2
    refine st_go 1 (pc' := 108) (lo' := [(2, .int x2_2), (0, .ref 42), (1, .int x1)]) (st' := []) rfl ?_
    refine vmWp.sub (lo' := [(0, .ref 42), (1, .int x1), (2, .int x2_2)]) ⟨rfl, rfl, rfl, trivial⟩ ?_
    exact tMO_operand_108 hQ x1 x2_2 d h
  · have h := Eq.mp (if_neg hc_1) h
    refine st_icmp (t := 18) (b := true) rfl (decide_eq_true hc_1) rfl ?_
    refine st_go 2 (pc' := 21) (lo' := [(2, .int 0), (0, .ref 42), (1, .int x1)]) (st' := [.int 64, .ref 42]) rfl ?_
    refine st_calli (k' := 257) (as := [.ref 42, .int 64]) (rest := []) (lo' := [(0, .ref 42), (1, .int 64)]) (wf := fun d => wR L d e) rfl rfl rfl ?_
    refine tMO_isSign (fun r_10 d_9 h => ⟨r_10, d_9, rfl, rfl, ?_⟩) 64 d h
    by_cases hc_11 : r_10 = 0
    · have h := Eq.mp (if_pos hc_11) h
      refine st_if (t := 35) (b := true) rfl (decide_eq_true hc_11) rfl ?_
      refine st_go 3 (pc' := 40) (lo' := [(2, .int 0), (0, .ref 42), (1, .int x1)]) (st' := [.int 2, .int (gF d_9 42 3)]) rfl ?_
      by_cases hc_12 : (gF d_9 42 3) = 2
      · have h := Eq.mp (if_pos hc_12) h
        refine st_icmp (t := 43) (b := false) rfl (decide_eq_false (fun z => z hc_12)) rfl ?_
        refine st_go 3 (pc' := 48) (lo' := [(2, .int 0), (0, .ref 42), (1, .int x1)]) (st' := [.long (gG d_9 42 7), .ref 42]) rfl ?_
        refine st_calli (k' := 262) (as := [.ref 42, .long (gG d_9 42 7)]) (rest := []) (lo' := [(0, .ref 42), (1, .long (gG d_9 42 7))]) (wf := fun d => wR L d e) rfl rfl rfl ?_
        refine tMO_isReserved (fun r_14 d_13 h => ⟨r_14, d_13, rfl, rfl, ?_⟩) (gG d_9 42 7) d_9 h
        by_cases hc_15 : r_14 = 0
        · have h := Eq.mp (if_pos hc_15) h
          refine st_if (t := 54) (b := false) rfl (decide_eq_false (fun z => z hc_15)) rfl ?_
          refine st_go 5 (pc' := 63) (lo' := [(2, .int 0), (0, .ref 42), (1, .int x1)]) (st' := [.int (gF d_13 42 5), .int (gF d_13 42 4), .ref 42]) rfl ?_
          refine st_calli (k' := 259) (as := [.ref 42, .int (gF d_13 42 4), .int (gF d_13 42 5)]) (rest := []) (lo' := [(0, .ref 42), (1, .int (gF d_13 42 4)), (2, .int (gF d_13 42 5))]) (wf := fun d => wR L d e) rfl rfl rfl ?_
          refine tMO_find (fun r_17 d_16 h => ⟨r_17, d_16, rfl, rfl, ?_⟩) (gF d_13 42 4) (gF d_13 42 5) d_13 h
          refine st_go 2 (pc' := 68) (lo' := [(3, .int r_17), (2, .int 0), (0, .ref 42), (1, .int x1)]) (st' := [.int r_17]) rfl ?_
          by_cases hc_18 : r_17 < 0
          · have h := Eq.mp (if_pos hc_18) h
            refine st_if (t := 71) (b := false) rfl (decide_eq_false (Int32.not_le.mpr hc_18)) rfl ?_
            refine st_go 1 (pc' := 72) (lo' := [(3, .int r_17), (2, .int 0), (0, .ref 42), (1, .int x1)]) (st' := [.int x1]) rfl ?_
            by_cases hc_19 : x1 = 0
            · have h := Eq.mp (if_pos hc_19) h
              refine st_if (t := 85) (b := true) rfl (decide_eq_true hc_19) rfl ?_
              refine vmWp.sub (lo' := [(0, .ref 42), (1, .int x1), (3, .int r_17)]) ⟨rfl, rfl, rfl, trivial⟩ ?_
              exact tMO_operand_85 hQ x1 r_17 d_16 h
            · have h := Eq.mp (if_neg hc_19) h
              refine st_if (t := 75) (b := false) rfl (decide_eq_false hc_19) rfl ?_
              refine st_go 4 (pc' := 81) (lo' := [(3, .int r_17), (2, .int 0), (0, .ref 42), (1, .int x1)]) (st' := [.int (gF d_16 42 4), .int 4, .ref 42]) rfl ?_
              refine st_calli (k' := 245) (as := [.ref 42, .int 4, .int (gF d_16 42 4)]) (rest := []) (lo' := [(0, .ref 42), (1, .int 4), (2, .int (gF d_16 42 4))]) (wf := fun d => wR L d e) rfl rfl rfl ?_
              refine tMO_wrong (fun r_24 d_23 h => ⟨r_24, d_23, rfl, rfl, ?_⟩) 4 (gF d_16 42 4) d_16 h
              exact st_retZ rfl rfl h.1 (hQ _ _ h.2)
          · have h := Eq.mp (if_neg hc_18) h
            refine st_if (t := 85) (b := true) rfl (decide_eq_true (Int32.not_lt.mp hc_18)) rfl ?_
            refine vmWp.sub (lo' := [(0, .ref 42), (1, .int x1), (3, .int r_17)]) ⟨rfl, rfl, rfl, trivial⟩ ?_
            exact tMO_operand_85 hQ x1 r_17 d_16 h
        · have h := Eq.mp (if_neg hc_15) h
          refine st_if (t := 103) (b := true) rfl (decide_eq_true hc_15) rfl ?_
          refine vmWp.sub (lo' := [(0, .ref 42)]) ⟨rfl, trivial⟩ ?_
          exact tMO_operand_103 hQ d_13 h
      · have h := Eq.mp (if_neg hc_12) h
        refine st_icmp (t := 103) (b := true) rfl (decide_eq_true hc_12) rfl ?_
        refine vmWp.sub (lo' := [(0, .ref 42)]) ⟨rfl, trivial⟩ ?_
        exact tMO_operand_103 hQ d_9 h
    · have h := Eq.mp (if_neg hc_11) h
      refine st_if (t := 27) (b := false) rfl (decide_eq_false hc_11) rfl ?_
      refine st_go 3 (pc' := 32) (lo' := [(2, .int (gF d_9 42 21)), (0, .ref 42), (1, .int x1)]) (st' := []) rfl ?_
      refine st_locI (fun x2_27 hy_x2_27 => ?_)
      have h := h x2_27 hy_x2_27
      refine st_go 1 (pc' := 108) (lo' := [(2, .int x2_27), (0, .ref 42), (1, .int x1)]) (st' := []) rfl ?_
      refine vmWp.sub (lo' := [(0, .ref 42), (1, .int x1), (2, .int x2_27)]) ⟨rfl, rfl, rfl, trivial⟩ ?_
      exact tMO_operand_108 hQ x1 x2_27 d_9 h
set_option maxRecDepth 100000 in
def MO_rank (x1 : Int32) (d : vmD) (Q : Int32 → vmD → Prop) : Prop :=
  if x1 = 38 then
  (Q 3 d)
  else
  if x1 = 42 then
  (Q 6 d)
  else
  if x1 = 43 then
  (Q 5 d)
  else
  if x1 = 45 then
  (Q 5 d)
  else
  if x1 = 47 then
  (Q 6 d)
  else
  if x1 = 94 then
  (Q 2 d)
  else
  if x1 = 124 then
  (Q 1 d)
  else
  if x1 = 300 then
  (Q 4 d)
  else
  if x1 = 301 then
  (Q 4 d)
  else
  (Q 0 d)
set_option maxRecDepth 100000 in
set_option maxHeartbeats 4000000 in
theorem tMO_rank {L : Nat} {e : vmD} {Qo : Option Value → vmW → Prop} {Q : Int32 → vmD → Prop} (hQ : ∀ r d, Q r d → Qo (some (.int r)) (wR L d e)) (x1 : Int32) (d : vmD) (h : MO_rank x1 d Q) : vmWp 266 0 [(0, .ref 42), (1, .int x1)] [] (wR L d e) Qo := by
  unfold MO_rank at h
  refine st_go 1 (pc' := 1) (lo' := [(0, .ref 42), (1, .int x1)]) (st' := [.int x1]) rfl ?_
  by_cases hc_1 : x1 = 38
  · have h := Eq.mp (if_pos hc_1) h
    refine st_look (t := 88) rfl (by rw [hc_1]; rfl) ?_
    refine st_go 1 (pc' := 89) (lo' := [(0, .ref 42), (1, .int x1)]) (st' := [.int 3]) rfl ?_
    exact st_retI rfl rfl (hQ _ _ h)
  · have h := Eq.mp (if_neg hc_1) h
    by_cases hc_2 : x1 = 42
    · have h := Eq.mp (if_pos hc_2) h
      refine st_look (t := 94) rfl (by rw [hc_2]; rfl) ?_
      refine st_go 1 (pc' := 96) (lo' := [(0, .ref 42), (1, .int x1)]) (st' := [.int 6]) rfl ?_
      exact st_retI rfl rfl (hQ _ _ h)
    · have h := Eq.mp (if_neg hc_2) h
      by_cases hc_3 : x1 = 43
      · have h := Eq.mp (if_pos hc_3) h
        refine st_look (t := 92) rfl (by rw [hc_3]; rfl) ?_
        refine st_go 1 (pc' := 93) (lo' := [(0, .ref 42), (1, .int x1)]) (st' := [.int 5]) rfl ?_
        exact st_retI rfl rfl (hQ _ _ h)
      · have h := Eq.mp (if_neg hc_3) h
        by_cases hc_4 : x1 = 45
        · have h := Eq.mp (if_pos hc_4) h
          refine st_look (t := 92) rfl (by rw [hc_4]; rfl) ?_
          refine st_go 1 (pc' := 93) (lo' := [(0, .ref 42), (1, .int x1)]) (st' := [.int 5]) rfl ?_
          exact st_retI rfl rfl (hQ _ _ h)
        · have h := Eq.mp (if_neg hc_4) h
          by_cases hc_5 : x1 = 47
          · have h := Eq.mp (if_pos hc_5) h
            refine st_look (t := 94) rfl (by rw [hc_5]; rfl) ?_
            refine st_go 1 (pc' := 96) (lo' := [(0, .ref 42), (1, .int x1)]) (st' := [.int 6]) rfl ?_
            exact st_retI rfl rfl (hQ _ _ h)
          · have h := Eq.mp (if_neg hc_5) h
            by_cases hc_6 : x1 = 94
            · have h := Eq.mp (if_pos hc_6) h
              refine st_look (t := 86) rfl (by rw [hc_6]; rfl) ?_
              refine st_go 1 (pc' := 87) (lo' := [(0, .ref 42), (1, .int x1)]) (st' := [.int 2]) rfl ?_
              exact st_retI rfl rfl (hQ _ _ h)
            · have h := Eq.mp (if_neg hc_6) h
              by_cases hc_7 : x1 = 124
              · have h := Eq.mp (if_pos hc_7) h
                refine st_look (t := 84) rfl (by rw [hc_7]; rfl) ?_
                refine st_go 1 (pc' := 85) (lo' := [(0, .ref 42), (1, .int x1)]) (st' := [.int 1]) rfl ?_
                exact st_retI rfl rfl (hQ _ _ h)
              · have h := Eq.mp (if_neg hc_7) h
                by_cases hc_8 : x1 = 300
                · have h := Eq.mp (if_pos hc_8) h
                  refine st_look (t := 90) rfl (by rw [hc_8]; rfl) ?_
                  refine st_go 1 (pc' := 91) (lo' := [(0, .ref 42), (1, .int x1)]) (st' := [.int 4]) rfl ?_
                  exact st_retI rfl rfl (hQ _ _ h)
                · have h := Eq.mp (if_neg hc_8) h
                  by_cases hc_9 : x1 = 301
                  · have h := Eq.mp (if_pos hc_9) h
                    refine st_look (t := 90) rfl (by rw [hc_9]; rfl) ?_
                    refine st_go 1 (pc' := 91) (lo' := [(0, .ref 42), (1, .int x1)]) (st' := [.int 4]) rfl ?_
                    exact st_retI rfl rfl (hQ _ _ h)
                  · have h := Eq.mp (if_neg hc_9) h
                    refine st_look (t := 97) rfl (look_def (by
                      intro q hq hx
                      simp only [List.mem_cons, List.not_mem_nil, or_false] at hq
                      rcases hq with rfl | rfl | rfl | rfl | rfl | rfl | rfl | rfl | rfl <;> first | rfl | exact absurd (Int32.toInt_inj.mp hx.symm) hc_1 | exact absurd (Int32.toInt_inj.mp hx.symm) hc_2 | exact absurd (Int32.toInt_inj.mp hx.symm) hc_3 | exact absurd (Int32.toInt_inj.mp hx.symm) hc_4 | exact absurd (Int32.toInt_inj.mp hx.symm) hc_5 | exact absurd (Int32.toInt_inj.mp hx.symm) hc_6 | exact absurd (Int32.toInt_inj.mp hx.symm) hc_7 | exact absurd (Int32.toInt_inj.mp hx.symm) hc_8 | exact absurd (Int32.toInt_inj.mp hx.symm) hc_9) rfl) ?_
                    refine st_go 1 (pc' := 98) (lo' := [(0, .ref 42), (1, .int x1)]) (st' := [.int 0]) rfl ?_
                    exact st_retI rfl rfl (hQ _ _ h)
set_option maxRecDepth 100000 in
def MO_push (x1 : Int32) (d : vmD) (Q : vmD → Prop) : Prop :=
  ixOk (gF d 42 16) 400 ∧
  bnd (sA d 47 (gF d 42 16).toNatClampNeg x1) fun d_2 =>
  ixOk (gF d_2 42 16) 400 ∧
  bnd (sA d_2 48 (gF d_2 42 16).toNatClampNeg (gF d_2 42 4)) fun d_4 =>
  bnd (sF d_4 42 16 ((gF d_4 42 16) + 1)) fun d_5 =>
  Q d_5
set_option maxRecDepth 100000 in
set_option maxHeartbeats 4000000 in
theorem tMO_push {L : Nat} {e : vmD} {Qo : Option Value → vmW → Prop} {Q : vmD → Prop} (hQ : ∀ d, Q d → Qo none (wR L d e)) (x1 : Int32) (d : vmD) (h : MO_push x1 d Q) : vmWp 267 0 [(0, .ref 42), (1, .int x1)] [] (wR L d e) Qo := by
  unfold MO_push at h
  refine st_go 5 (pc' := 9) (lo' := [(0, .ref 42), (1, .int x1)]) (st' := [.int x1, .int (gF d 42 16), .ref 47]) rfl ?_
  obtain ⟨hj_1, h⟩ := h
  refine st_iastR (o := 47) rfl rfl hj_1 rfl (fun d_2 hy_d_2 => ?_)
  have h := h d_2 hy_d_2
  refine st_go 6 (pc' := 22) (lo' := [(0, .ref 42), (1, .int x1)]) (st' := [.int (gF d_2 42 4), .int (gF d_2 42 16), .ref 48]) rfl ?_
  obtain ⟨hj_3, h⟩ := h
  refine st_iastR (o := 48) rfl rfl hj_3 rfl (fun d_4 hy_d_4 => ?_)
  have h := h d_4 hy_d_4
  refine st_go 5 (pc' := 30) (lo' := [(0, .ref 42), (1, .int x1)]) (st' := [.int ((gF d_4 42 16) + 1), .ref 42]) rfl ?_
  refine st_putIR (o := 42) (f := 16) rfl rfl rfl rfl rfl (fun d_5 hy_d_5 => ?_)
  have h := h d_5 hy_d_5
  exact st_retV rfl rfl (hQ _ h)
set_option maxRecDepth 100000 in
def MO_behind_179 (x2 : Int32) (d : vmD) (Q : Int32 → vmD → Prop) : Prop :=
  if x2 = 0 then
  (Q 0 d)
  else
  (MO_push (gF d 42 6) d fun d_12 =>
  MO_next d_12 fun d_13 =>
  Q 1 d_13)
set_option maxRecDepth 100000 in
set_option maxHeartbeats 4000000 in
theorem tMO_behind_179 {L : Nat} {e : vmD} {Qo : Option Value → vmW → Prop} {Q : Int32 → vmD → Prop} (hQ : ∀ r d, Q r d → Qo (some (.int r)) (wR L d e)) (x2 : Int32) (d : vmD) (h : MO_behind_179 x2 d Q) : vmWp 272 179 [(0, .ref 42), (2, .int x2)] [] (wR L d e) Qo := by
  unfold MO_behind_179 at h
  refine st_go 1 (pc' := 180) (lo' := [(0, .ref 42), (2, .int x2)]) (st' := [.int x2]) rfl ?_
  by_cases hc_11 : x2 = 0
  · have h := Eq.mp (if_pos hc_11) h
    refine st_if (t := 183) (b := false) rfl (decide_eq_false (fun z => z hc_11)) rfl ?_
    refine st_go 1 (pc' := 184) (lo' := [(0, .ref 42), (2, .int x2)]) (st' := [.int 0]) rfl ?_
    exact st_retZ rfl rfl (Or.inl rfl) (hQ _ _ h)
  · have h := Eq.mp (if_neg hc_11) h
    refine st_if (t := 185) (b := true) rfl (decide_eq_true hc_11) rfl ?_
    refine st_go 3 (pc' := 190) (lo' := [(0, .ref 42), (2, .int x2)]) (st' := [.int (gF d 42 6), .ref 42]) rfl ?_
    refine st_callv (k' := 267) (as := [.ref 42, .int (gF d 42 6)]) (rest := []) (lo' := [(0, .ref 42), (1, .int (gF d 42 6))]) (wf := fun d => wR L d e) rfl rfl rfl ?_
    refine tMO_push (fun d_12 h => ⟨d_12, rfl, rfl, ?_⟩) (gF d 42 6) d h
    refine st_go 1 (pc' := 194) (lo' := [(0, .ref 42), (2, .int x2)]) (st' := [.ref 42]) rfl ?_
    refine st_callv (k' := 252) (as := [.ref 42]) (rest := []) (lo' := [(0, .ref 42)]) (wf := fun d => wR L d e) rfl rfl rfl ?_
    refine tMO_next (fun d_13 h => ⟨d_13, rfl, rfl, ?_⟩) d_12 h
    refine st_go 1 (pc' := 198) (lo' := [(0, .ref 42), (2, .int x2)]) (st' := [.int 1]) rfl ?_
    exact st_retZ rfl rfl (Or.inr rfl) (hQ _ _ h)
set_option maxRecDepth 100000 in
def MO_behind_128 (Q : Int32 → vmD → Prop) : Nat → Int32 → Int32 → vmD → Prop
  | 0, _, _, _ => False
  | n + 1, x1, x2, d => if (0 : Int32) < (gF d 42 16) then
  (ixOk ((gF d 42 16) - 1) 400 ∧
  bnd (gA d 47 ((gF d 42 16) - 1).toNatClampNeg) fun y_9 =>
  if y_9 = 1 then
  (MO_behind_179 x2 d Q)
  else
  (ixOk ((gF d 42 16) - 1) 400 ∧
  bnd (gA d 47 ((gF d 42 16) - 1).toNatClampNeg) fun y_15 =>
  MO_rank y_15 d fun r_17 d_16 =>
  if r_17 < x2 then
  (MO_behind_179 x2 d_16 Q)
  else
  (MO_apply x1 d_16 fun r_20 d_19 =>
  if r_20 = 0 then
  (Q 0 d_19)
  else
  ((MO_behind_128 Q n) x1 x2 d_19))))
  else
  (MO_behind_179 x2 d Q)
set_option maxRecDepth 100000 in
set_option maxHeartbeats 4000000 in
theorem tMO_behind_128 {L : Nat} {e : vmD} {Qo : Option Value → vmW → Prop} {Q : Int32 → vmD → Prop} (hQ : ∀ r d, Q r d → Qo (some (.int r)) (wR L d e)) : ∀ (n : Nat) (x1 : Int32) (x2 : Int32) (d : vmD), MO_behind_128 Q n x1 x2 d → vmWp 272 128 [(0, .ref 42), (1, .int x1), (2, .int x2)] [] (wR L d e) Qo := by
  intro n
  induction n with
  | zero => intro x1 x2 d h; exact h.elim
  | succ n ih =>
    intro x1 x2 d h
    unfold MO_behind_128 at h
    refine st_go 2 (pc' := 132) (lo' := [(0, .ref 42), (1, .int x1), (2, .int x2)]) (st' := [.int (gF d 42 16)]) rfl ?_
    by_cases hc_7 : (0 : Int32) < (gF d 42 16)
    · have h := Eq.mp (if_pos hc_7) h
      refine st_if (t := 135) (b := false) rfl (decide_eq_false (Int32.not_le.mpr hc_7)) rfl ?_
      refine st_go 6 (pc' := 145) (lo' := [(0, .ref 42), (1, .int x1), (2, .int x2)]) (st' := [.int ((gF d 42 16) - 1), .ref 47]) rfl ?_
      obtain ⟨hj_8, h⟩ := h
      refine st_ialdR (o := 47) rfl rfl hj_8 rfl (fun y_9 hy_y_9 => ?_)
      have h := h y_9 hy_y_9
      refine st_go 1 (pc' := 147) (lo' := [(0, .ref 42), (1, .int x1), (2, .int x2)]) (st' := [.int 1, .int y_9]) rfl ?_
      by_cases hc_10 : y_9 = 1
      · have h := Eq.mp (if_pos hc_10) h
        refine st_icmp (t := 179) (b := true) rfl (decide_eq_true hc_10) rfl ?_
        refine vmWp.sub (lo' := [(0, .ref 42), (2, .int x2)]) ⟨rfl, rfl, trivial⟩ ?_
        exact tMO_behind_179 hQ x2 d h
      · have h := Eq.mp (if_neg hc_10) h
        refine st_icmp (t := 150) (b := false) rfl (decide_eq_false hc_10) rfl ?_
        refine st_go 7 (pc' := 161) (lo' := [(0, .ref 42), (1, .int x1), (2, .int x2)]) (st' := [.int ((gF d 42 16) - 1), .ref 47, .ref 42]) rfl ?_
        obtain ⟨hj_14, h⟩ := h
        refine st_ialdR (o := 47) rfl rfl hj_14 rfl (fun y_15 hy_y_15 => ?_)
        have h := h y_15 hy_y_15
        refine st_calli (k' := 266) (as := [.ref 42, .int y_15]) (rest := []) (lo' := [(0, .ref 42), (1, .int y_15)]) (wf := fun d => wR L d e) rfl rfl rfl ?_
        refine tMO_rank (fun r_17 d_16 h => ⟨r_17, d_16, rfl, rfl, ?_⟩) y_15 d h
        refine st_go 1 (pc' := 166) (lo' := [(0, .ref 42), (1, .int x1), (2, .int x2)]) (st' := [.int x2, .int r_17]) rfl ?_
        by_cases hc_18 : r_17 < x2
        · have h := Eq.mp (if_pos hc_18) h
          refine st_icmp (t := 179) (b := true) rfl (decide_eq_true hc_18) rfl ?_
          refine vmWp.sub (lo' := [(0, .ref 42), (2, .int x2)]) ⟨rfl, rfl, trivial⟩ ?_
          exact tMO_behind_179 hQ x2 d_16 h
        · have h := Eq.mp (if_neg hc_18) h
          refine st_icmp (t := 169) (b := false) rfl (decide_eq_false hc_18) rfl ?_
          refine st_go 2 (pc' := 171) (lo' := [(0, .ref 42), (1, .int x1), (2, .int x2)]) (st' := [.int x1, .ref 42]) rfl ?_
          refine st_calli (k' := 268) (as := [.ref 42, .int x1]) (rest := []) (lo' := [(0, .ref 42), (1, .int x1)]) (wf := fun d => wR L d e) rfl rfl rfl ?_
          refine tMO_apply (fun r_20 d_19 h => ⟨r_20, d_19, rfl, rfl, ?_⟩) x1 d_16 h
          by_cases hc_21 : r_20 = 0
          · have h := Eq.mp (if_pos hc_21) h
            refine st_if (t := 177) (b := false) rfl (decide_eq_false (fun z => z hc_21)) rfl ?_
            refine st_go 1 (pc' := 178) (lo' := [(0, .ref 42), (1, .int x1), (2, .int x2)]) (st' := [.int 0]) rfl ?_
            exact st_retZ rfl rfl (Or.inl rfl) (hQ _ _ h)
          · have h := Eq.mp (if_neg hc_21) h
            refine st_if (t := 128) (b := true) rfl (decide_eq_true hc_21) rfl ?_
            refine vmWp.sub (lo' := [(0, .ref 42), (1, .int x1), (2, .int x2)]) ⟨rfl, rfl, rfl, trivial⟩ ?_
            exact ih x1 x2 d_19 h
    · have h := Eq.mp (if_neg hc_7) h
      refine st_if (t := 179) (b := true) rfl (decide_eq_true (Int32.not_lt.mp hc_7)) rfl ?_
      refine vmWp.sub (lo' := [(0, .ref 42), (2, .int x2)]) ⟨rfl, rfl, trivial⟩ ?_
      exact tMO_behind_179 hQ x2 d h
set_option maxRecDepth 100000 in
def MO_behind_127 (x1 : Int32) (s0 : Int32) (d : vmD) (Q : Int32 → vmD → Prop) : Prop :=
  ∃ m128, MO_behind_128 Q m128 x1 s0 d
set_option maxRecDepth 100000 in
set_option maxHeartbeats 4000000 in
theorem tMO_behind_127 {L : Nat} {e : vmD} {Qo : Option Value → vmW → Prop} {Q : Int32 → vmD → Prop} (hQ : ∀ r d, Q r d → Qo (some (.int r)) (wR L d e)) (x1 : Int32) (s0 : Int32) (d : vmD) (h : MO_behind_127 x1 s0 d Q) : vmWp 272 127 [(0, .ref 42), (1, .int x1)] [.int s0] (wR L d e) Qo := by
  unfold MO_behind_127 at h
  refine st_go 1 (pc' := 128) (lo' := [(2, .int s0), (0, .ref 42), (1, .int x1)]) (st' := []) rfl ?_
  obtain ⟨m128, h⟩ := h
  refine vmWp.sub (lo' := [(0, .ref 42), (1, .int x1), (2, .int s0)]) ⟨rfl, rfl, rfl, trivial⟩ ?_
  exact tMO_behind_128 hQ m128 x1 s0 d h
set_option maxRecDepth 100000 in
def MO_behind_68 (b0 : Int32 → vmD → Prop) (x1 : Int32) (x2 : Int32) (d : vmD) (Q : Int32 → vmD → Prop) : Prop :=
  if x2 < 0 then
  (Q 0 d)
  else
  (bnd (sF d 42 16 ((gF d 42 16) - 1)) fun d_29 =>
  bnd (sF d_29 42 19 ((gF d_29 42 19) - 1)) fun d_30 =>
  MO_next d_30 fun d_31 =>
  MO_unaries x1 d_31 fun r_33 d_32 =>
  b0 x1 d_32)
set_option maxRecDepth 100000 in
set_option maxHeartbeats 4000000 in
theorem tMO_behind_68 {L : Nat} {e : vmD} {Qo : Option Value → vmW → Prop} {b0 : Int32 → vmD → Prop} {Q : Int32 → vmD → Prop} (hb0 : ∀ x1 d, b0 x1 d → vmWp 272 0 [(0, .ref 42), (1, .int x1)] [] (wR L d e) Qo) (hQ : ∀ r d, Q r d → Qo (some (.int r)) (wR L d e)) (x1 : Int32) (x2 : Int32) (d : vmD) (h : MO_behind_68 b0 x1 x2 d Q) : vmWp 272 68 [(0, .ref 42), (1, .int x1), (2, .int x2)] [] (wR L d e) Qo := by
  unfold MO_behind_68 at h
  refine st_go 1 (pc' := 69) (lo' := [(0, .ref 42), (1, .int x1), (2, .int x2)]) (st' := [.int x2]) rfl ?_
  by_cases hc_28 : x2 < 0
  · have h := Eq.mp (if_pos hc_28) h
    refine st_if (t := 72) (b := false) rfl (decide_eq_false (Int32.not_le.mpr hc_28)) rfl ?_
    refine st_go 1 (pc' := 73) (lo' := [(0, .ref 42), (1, .int x1), (2, .int x2)]) (st' := [.int 0]) rfl ?_
    exact st_retZ rfl rfl (Or.inl rfl) (hQ _ _ h)
  · have h := Eq.mp (if_neg hc_28) h
    refine st_if (t := 74) (b := true) rfl (decide_eq_true (Int32.not_lt.mp hc_28)) rfl ?_
    refine st_go 5 (pc' := 81) (lo' := [(0, .ref 42), (1, .int x1), (2, .int x2)]) (st' := [.int ((gF d 42 16) - 1), .ref 42]) rfl ?_
    refine st_putIR (o := 42) (f := 16) rfl rfl rfl rfl rfl (fun d_29 hy_d_29 => ?_)
    have h := h d_29 hy_d_29
    refine st_go 5 (pc' := 91) (lo' := [(0, .ref 42), (1, .int x1), (2, .int x2)]) (st' := [.int ((gF d_29 42 19) - 1), .ref 42]) rfl ?_
    refine st_putIR (o := 42) (f := 19) rfl rfl rfl rfl rfl (fun d_30 hy_d_30 => ?_)
    have h := h d_30 hy_d_30
    refine st_go 1 (pc' := 95) (lo' := [(0, .ref 42), (1, .int x1), (2, .int x2)]) (st' := [.ref 42]) rfl ?_
    refine st_callv (k' := 252) (as := [.ref 42]) (rest := []) (lo' := [(0, .ref 42)]) (wf := fun d => wR L d e) rfl rfl rfl ?_
    refine tMO_next (fun d_31 h => ⟨d_31, rfl, rfl, ?_⟩) d_30 h
    refine st_go 2 (pc' := 100) (lo' := [(0, .ref 42), (1, .int x1), (2, .int x2)]) (st' := [.int x1, .ref 42]) rfl ?_
    refine st_calli (k' := 271) (as := [.ref 42, .int x1]) (rest := []) (lo' := [(0, .ref 42), (1, .int x1)]) (wf := fun d => wR L d e) rfl rfl rfl ?_
    refine tMO_unaries (fun r_33 d_32 h => ⟨r_33, d_32, rfl, rfl, ?_⟩) x1 d_31 h
    refine st_go 2 (pc' := 0) (lo' := [(0, .ref 42), (1, .int x1), (2, .int x2)]) (st' := []) rfl ?_
    refine vmWp.sub (lo' := [(0, .ref 42), (1, .int x1)]) ⟨rfl, rfl, trivial⟩ ?_
    exact hb0 x1 d_32 h
set_option maxRecDepth 100000 in
def MO_behind_36 (b0 : Int32 → vmD → Prop) (Q : Int32 → vmD → Prop) : Nat → Int32 → Int32 → vmD → Prop
  | 0, _, _, _ => False
  | n + 1, x1, x2, d => if (0 : Int32) < (gF d 42 16) then
  (ixOk ((gF d 42 16) - 1) 400 ∧
  bnd (gA d 47 ((gF d 42 16) - 1).toNatClampNeg) fun y_26 =>
  if y_26 = 1 then
  (MO_behind_68 b0 x1 x2 d Q)
  else
  (MO_apply x1 d fun r_35 d_34 =>
  if r_35 = 0 then
  (Q 0 d_34)
  else
  ((MO_behind_36 b0 Q n) x1 x2 d_34)))
  else
  (MO_behind_68 b0 x1 x2 d Q)
set_option maxRecDepth 100000 in
set_option maxHeartbeats 4000000 in
theorem tMO_behind_36 {L : Nat} {e : vmD} {Qo : Option Value → vmW → Prop} {b0 : Int32 → vmD → Prop} {Q : Int32 → vmD → Prop} (hb0 : ∀ x1 d, b0 x1 d → vmWp 272 0 [(0, .ref 42), (1, .int x1)] [] (wR L d e) Qo) (hQ : ∀ r d, Q r d → Qo (some (.int r)) (wR L d e)) : ∀ (n : Nat) (x1 : Int32) (x2 : Int32) (d : vmD), MO_behind_36 b0 Q n x1 x2 d → vmWp 272 36 [(0, .ref 42), (1, .int x1), (2, .int x2)] [] (wR L d e) Qo := by
  intro n
  induction n with
  | zero => intro x1 x2 d h; exact h.elim
  | succ n ih =>
    intro x1 x2 d h
    unfold MO_behind_36 at h
    refine st_go 2 (pc' := 40) (lo' := [(0, .ref 42), (1, .int x1), (2, .int x2)]) (st' := [.int (gF d 42 16)]) rfl ?_
    by_cases hc_24 : (0 : Int32) < (gF d 42 16)
    · have h := Eq.mp (if_pos hc_24) h
      refine st_if (t := 43) (b := false) rfl (decide_eq_false (Int32.not_le.mpr hc_24)) rfl ?_
      refine st_go 6 (pc' := 53) (lo' := [(0, .ref 42), (1, .int x1), (2, .int x2)]) (st' := [.int ((gF d 42 16) - 1), .ref 47]) rfl ?_
      obtain ⟨hj_25, h⟩ := h
      refine st_ialdR (o := 47) rfl rfl hj_25 rfl (fun y_26 hy_y_26 => ?_)
      have h := h y_26 hy_y_26
      refine st_go 1 (pc' := 55) (lo' := [(0, .ref 42), (1, .int x1), (2, .int x2)]) (st' := [.int 1, .int y_26]) rfl ?_
      by_cases hc_27 : y_26 = 1
      · have h := Eq.mp (if_pos hc_27) h
        refine st_icmp (t := 68) (b := true) rfl (decide_eq_true hc_27) rfl ?_
        refine vmWp.sub (lo' := [(0, .ref 42), (1, .int x1), (2, .int x2)]) ⟨rfl, rfl, rfl, trivial⟩ ?_
        exact tMO_behind_68 hb0 hQ x1 x2 d h
      · have h := Eq.mp (if_neg hc_27) h
        refine st_icmp (t := 58) (b := false) rfl (decide_eq_false hc_27) rfl ?_
        refine st_go 2 (pc' := 60) (lo' := [(0, .ref 42), (1, .int x1), (2, .int x2)]) (st' := [.int x1, .ref 42]) rfl ?_
        refine st_calli (k' := 268) (as := [.ref 42, .int x1]) (rest := []) (lo' := [(0, .ref 42), (1, .int x1)]) (wf := fun d => wR L d e) rfl rfl rfl ?_
        refine tMO_apply (fun r_35 d_34 h => ⟨r_35, d_34, rfl, rfl, ?_⟩) x1 d h
        by_cases hc_36 : r_35 = 0
        · have h := Eq.mp (if_pos hc_36) h
          refine st_if (t := 66) (b := false) rfl (decide_eq_false (fun z => z hc_36)) rfl ?_
          refine st_go 1 (pc' := 67) (lo' := [(0, .ref 42), (1, .int x1), (2, .int x2)]) (st' := [.int 0]) rfl ?_
          exact st_retZ rfl rfl (Or.inl rfl) (hQ _ _ h)
        · have h := Eq.mp (if_neg hc_36) h
          refine st_if (t := 36) (b := true) rfl (decide_eq_true hc_36) rfl ?_
          refine vmWp.sub (lo' := [(0, .ref 42), (1, .int x1), (2, .int x2)]) ⟨rfl, rfl, rfl, trivial⟩ ?_
          exact ih x1 x2 d_34 h
    · have h := Eq.mp (if_neg hc_24) h
      refine st_if (t := 68) (b := true) rfl (decide_eq_true (Int32.not_lt.mp hc_24)) rfl ?_
      refine vmWp.sub (lo' := [(0, .ref 42), (1, .int x1), (2, .int x2)]) ⟨rfl, rfl, rfl, trivial⟩ ?_
      exact tMO_behind_68 hb0 hQ x1 x2 d h
set_option maxRecDepth 100000 in
def MO_behind_16 (b0 : Int32 → vmD → Prop) (Q : Int32 → vmD → Prop) : Nat → Int32 → Int32 → vmD → Prop
  | 0, _, _, _ => False
  | n + 1, x1, x2, d => if x2 < 0 then
  (∃ m36, MO_behind_36 b0 Q m36 x1 x2 d)
  else
  (ixOk x2 400 ∧
  bnd (gA d 47 x2.toNatClampNeg) fun y_38 =>
  if y_38 = 1 then
  (∃ m36, MO_behind_36 b0 Q m36 x1 x2 d)
  else
  (bnd (x2 + (-1)) fun x2_40 =>
  (MO_behind_16 b0 Q n) x1 x2_40 d))
set_option maxRecDepth 100000 in
set_option maxHeartbeats 4000000 in
theorem tMO_behind_16 {L : Nat} {e : vmD} {Qo : Option Value → vmW → Prop} {b0 : Int32 → vmD → Prop} {Q : Int32 → vmD → Prop} (hb0 : ∀ x1 d, b0 x1 d → vmWp 272 0 [(0, .ref 42), (1, .int x1)] [] (wR L d e) Qo) (hQ : ∀ r d, Q r d → Qo (some (.int r)) (wR L d e)) : ∀ (n : Nat) (x1 : Int32) (x2 : Int32) (d : vmD), MO_behind_16 b0 Q n x1 x2 d → vmWp 272 16 [(0, .ref 42), (1, .int x1), (2, .int x2)] [] (wR L d e) Qo := by
  intro n
  induction n with
  | zero => intro x1 x2 d h; exact h.elim
  | succ n ih =>
    intro x1 x2 d h
    unfold MO_behind_16 at h
    refine st_go 1 (pc' := 17) (lo' := [(0, .ref 42), (1, .int x1), (2, .int x2)]) (st' := [.int x2]) rfl ?_
    by_cases hc_23 : x2 < 0
    · have h := Eq.mp (if_pos hc_23) h
      refine st_if (t := 36) (b := true) rfl (decide_eq_true hc_23) rfl ?_
      obtain ⟨m36, h⟩ := h
      refine vmWp.sub (lo' := [(0, .ref 42), (1, .int x1), (2, .int x2)]) ⟨rfl, rfl, rfl, trivial⟩ ?_
      exact tMO_behind_36 hb0 hQ m36 x1 x2 d h
    · have h := Eq.mp (if_neg hc_23) h
      refine st_if (t := 20) (b := false) rfl (decide_eq_false hc_23) rfl ?_
      refine st_go 3 (pc' := 25) (lo' := [(0, .ref 42), (1, .int x1), (2, .int x2)]) (st' := [.int x2, .ref 47]) rfl ?_
      obtain ⟨hj_37, h⟩ := h
      refine st_ialdR (o := 47) rfl rfl hj_37 rfl (fun y_38 hy_y_38 => ?_)
      have h := h y_38 hy_y_38
      refine st_go 1 (pc' := 27) (lo' := [(0, .ref 42), (1, .int x1), (2, .int x2)]) (st' := [.int 1, .int y_38]) rfl ?_
      by_cases hc_39 : y_38 = 1
      · have h := Eq.mp (if_pos hc_39) h
        refine st_icmp (t := 36) (b := true) rfl (decide_eq_true hc_39) rfl ?_
        obtain ⟨m36, h⟩ := h
        refine vmWp.sub (lo' := [(0, .ref 42), (1, .int x1), (2, .int x2)]) ⟨rfl, rfl, rfl, trivial⟩ ?_
        exact tMO_behind_36 hb0 hQ m36 x1 x2 d h
      · have h := Eq.mp (if_neg hc_39) h
        refine st_icmp (t := 30) (b := false) rfl (decide_eq_false hc_39) rfl ?_
        refine st_go 1 (pc' := 33) (lo' := [(2, .int (x2 + (-1))), (0, .ref 42), (1, .int x1)]) (st' := []) rfl ?_
        refine st_locI (fun x2_40 hy_x2_40 => ?_)
        have h := h x2_40 hy_x2_40
        refine st_go 1 (pc' := 16) (lo' := [(2, .int x2_40), (0, .ref 42), (1, .int x1)]) (st' := []) rfl ?_
        refine vmWp.sub (lo' := [(0, .ref 42), (1, .int x1), (2, .int x2_40)]) ⟨rfl, rfl, rfl, trivial⟩ ?_
        exact ih x1 x2_40 d h
set_option maxRecDepth 100000 in
def MO_behind_0 (Q : Int32 → vmD → Prop) : Nat → Int32 → vmD → Prop
  | 0, _, _ => False
  | n + 1, x1, d => MO_isSign 41 d fun r_2 d_1 =>
  if r_2 = 0 then
  (if (gF d_1 42 3) = 5 then
  (MO_rank (gF d_1 42 6) d_1 fun r_6 d_5 =>
  MO_behind_127 x1 r_6 d_5 Q)
  else
  (MO_behind_127 x1 0 d_1 Q))
  else
  (bnd ((gF d_1 42 16) - 1) fun x2_22 =>
  ∃ m16, MO_behind_16 (MO_behind_0 Q n) Q m16 x1 x2_22 d_1)
set_option maxRecDepth 100000 in
set_option maxHeartbeats 4000000 in
theorem tMO_behind_0 {L : Nat} {e : vmD} {Qo : Option Value → vmW → Prop} {Q : Int32 → vmD → Prop} (hQ : ∀ r d, Q r d → Qo (some (.int r)) (wR L d e)) : ∀ (n : Nat) (x1 : Int32) (d : vmD), MO_behind_0 Q n x1 d → vmWp 272 0 [(0, .ref 42), (1, .int x1)] [] (wR L d e) Qo := by
  intro n
  induction n with
  | zero => intro x1 d h; exact h.elim
  | succ n ih =>
    intro x1 d h
    unfold MO_behind_0 at h
    refine st_go 2 (pc' := 3) (lo' := [(0, .ref 42), (1, .int x1)]) (st' := [.int 41, .ref 42]) rfl ?_
    refine st_calli (k' := 257) (as := [.ref 42, .int 41]) (rest := []) (lo' := [(0, .ref 42), (1, .int 41)]) (wf := fun d => wR L d e) rfl rfl rfl ?_
    refine tMO_isSign (fun r_2 d_1 h => ⟨r_2, d_1, rfl, rfl, ?_⟩) 41 d h
    by_cases hc_3 : r_2 = 0
    · have h := Eq.mp (if_pos hc_3) h
      refine st_if (t := 107) (b := true) rfl (decide_eq_true hc_3) rfl ?_
      refine st_go 3 (pc' := 112) (lo' := [(0, .ref 42), (1, .int x1)]) (st' := [.int 5, .int (gF d_1 42 3)]) rfl ?_
      by_cases hc_4 : (gF d_1 42 3) = 5
      · have h := Eq.mp (if_pos hc_4) h
        refine st_icmp (t := 115) (b := false) rfl (decide_eq_false (fun z => z hc_4)) rfl ?_
        refine st_go 3 (pc' := 120) (lo' := [(0, .ref 42), (1, .int x1)]) (st' := [.int (gF d_1 42 6), .ref 42]) rfl ?_
        refine st_calli (k' := 266) (as := [.ref 42, .int (gF d_1 42 6)]) (rest := []) (lo' := [(0, .ref 42), (1, .int (gF d_1 42 6))]) (wf := fun d => wR L d e) rfl rfl rfl ?_
        refine tMO_rank (fun r_6 d_5 h => ⟨r_6, d_5, rfl, rfl, ?_⟩) (gF d_1 42 6) d_1 h
        refine st_go 1 (pc' := 127) (lo' := [(0, .ref 42), (1, .int x1)]) (st' := [.int r_6]) rfl ?_
        refine vmWp.sub (lo' := [(0, .ref 42), (1, .int x1)]) ⟨rfl, rfl, trivial⟩ ?_
        exact tMO_behind_127 hQ x1 r_6 d_5 h
      · have h := Eq.mp (if_neg hc_4) h
        refine st_icmp (t := 126) (b := true) rfl (decide_eq_true hc_4) rfl ?_
        refine st_go 1 (pc' := 127) (lo' := [(0, .ref 42), (1, .int x1)]) (st' := [.int 0]) rfl ?_
        refine vmWp.sub (lo' := [(0, .ref 42), (1, .int x1)]) ⟨rfl, rfl, trivial⟩ ?_
        exact tMO_behind_127 hQ x1 0 d_1 h
    · have h := Eq.mp (if_neg hc_3) h
      refine st_if (t := 9) (b := false) rfl (decide_eq_false hc_3) rfl ?_
      refine st_go 5 (pc' := 16) (lo' := [(2, .int ((gF d_1 42 16) - 1)), (0, .ref 42), (1, .int x1)]) (st' := []) rfl ?_
      refine st_locI (fun x2_22 hy_x2_22 => ?_)
      have h := h x2_22 hy_x2_22
      obtain ⟨m16, h⟩ := h
      refine vmWp.sub (lo' := [(0, .ref 42), (1, .int x1), (2, .int x2_22)]) ⟨rfl, rfl, rfl, trivial⟩ ?_
      exact tMO_behind_16 ih hQ m16 x1 x2_22 d_1 h
set_option maxRecDepth 100000 in
def MO_behind (x1 : Int32) (d : vmD) (Q : Int32 → vmD → Prop) : Prop :=
  ∃ m0, MO_behind_0 Q m0 x1 d
set_option maxRecDepth 100000 in
set_option maxHeartbeats 4000000 in
theorem tMO_behind {L : Nat} {e : vmD} {Qo : Option Value → vmW → Prop} {Q : Int32 → vmD → Prop} (hQ : ∀ r d, Q r d → Qo (some (.int r)) (wR L d e)) (x1 : Int32) (d : vmD) (h : MO_behind x1 d Q) : vmWp 272 0 [(0, .ref 42), (1, .int x1)] [] (wR L d e) Qo := by
  unfold MO_behind at h
  obtain ⟨m0, h⟩ := h
  refine vmWp.sub (lo' := [(0, .ref 42), (1, .int x1)]) ⟨rfl, rfl, trivial⟩ ?_
  exact tMO_behind_0 hQ m0 x1 d h
set_option maxRecDepth 100000 in
def MO_expression_139 (Q : Int32 → vmD → Prop) : Nat → Int32 → vmD → Prop
  | 0, _, _ => False
  | n + 1, x1, d => if (0 : Int32) < (gF d 42 16) then
  (ixOk ((gF d 42 16) - 1) 400 ∧
  bnd (gA d 47 ((gF d 42 16) - 1).toNatClampNeg) fun y_22 =>
  if y_22 = 1 then
  (MO_refuse d fun r_25 d_24 =>
  (r_25 = 0 ∨ r_25 = 1) ∧ Q r_25 d_24)
  else
  (MO_apply x1 d fun r_27 d_26 =>
  if r_27 = 0 then
  (Q 0 d_26)
  else
  ((MO_expression_139 Q n) x1 d_26)))
  else
  (bnd (gA d 49 0) fun y_29 =>
  bnd (sF d 42 22 y_29) fun d_30 =>
  Q 1 d_30)
set_option maxRecDepth 100000 in
set_option maxHeartbeats 4000000 in
theorem tMO_expression_139 {L : Nat} {e : vmD} {Qo : Option Value → vmW → Prop} {Q : Int32 → vmD → Prop} (hQ : ∀ r d, Q r d → Qo (some (.int r)) (wR L d e)) : ∀ (n : Nat) (x1 : Int32) (d : vmD), MO_expression_139 Q n x1 d → vmWp 269 139 [(0, .ref 42), (1, .int x1)] [] (wR L d e) Qo := by
  intro n
  induction n with
  | zero => intro x1 d h; exact h.elim
  | succ n ih =>
    intro x1 d h
    unfold MO_expression_139 at h
    refine st_go 2 (pc' := 143) (lo' := [(0, .ref 42), (1, .int x1)]) (st' := [.int (gF d 42 16)]) rfl ?_
    by_cases hc_20 : (0 : Int32) < (gF d 42 16)
    · have h := Eq.mp (if_pos hc_20) h
      refine st_if (t := 146) (b := false) rfl (decide_eq_false (Int32.not_le.mpr hc_20)) rfl ?_
      refine st_go 6 (pc' := 156) (lo' := [(0, .ref 42), (1, .int x1)]) (st' := [.int ((gF d 42 16) - 1), .ref 47]) rfl ?_
      obtain ⟨hj_21, h⟩ := h
      refine st_ialdR (o := 47) rfl rfl hj_21 rfl (fun y_22 hy_y_22 => ?_)
      have h := h y_22 hy_y_22
      refine st_go 1 (pc' := 158) (lo' := [(0, .ref 42), (1, .int x1)]) (st' := [.int 1, .int y_22]) rfl ?_
      by_cases hc_23 : y_22 = 1
      · have h := Eq.mp (if_pos hc_23) h
        refine st_icmp (t := 161) (b := false) rfl (decide_eq_false (fun z => z hc_23)) rfl ?_
        refine st_go 1 (pc' := 162) (lo' := [(0, .ref 42), (1, .int x1)]) (st' := [.ref 42]) rfl ?_
        refine st_calli (k' := 246) (as := [.ref 42]) (rest := []) (lo' := [(0, .ref 42)]) (wf := fun d => wR L d e) rfl rfl rfl ?_
        refine tMO_refuse (fun r_25 d_24 h => ⟨r_25, d_24, rfl, rfl, ?_⟩) d h
        exact st_retZ rfl rfl h.1 (hQ _ _ h.2)
      · have h := Eq.mp (if_neg hc_23) h
        refine st_icmp (t := 166) (b := true) rfl (decide_eq_true hc_23) rfl ?_
        refine st_go 2 (pc' := 168) (lo' := [(0, .ref 42), (1, .int x1)]) (st' := [.int x1, .ref 42]) rfl ?_
        refine st_calli (k' := 268) (as := [.ref 42, .int x1]) (rest := []) (lo' := [(0, .ref 42), (1, .int x1)]) (wf := fun d => wR L d e) rfl rfl rfl ?_
        refine tMO_apply (fun r_27 d_26 h => ⟨r_27, d_26, rfl, rfl, ?_⟩) x1 d h
        by_cases hc_28 : r_27 = 0
        · have h := Eq.mp (if_pos hc_28) h
          refine st_if (t := 174) (b := false) rfl (decide_eq_false (fun z => z hc_28)) rfl ?_
          refine st_go 1 (pc' := 175) (lo' := [(0, .ref 42), (1, .int x1)]) (st' := [.int 0]) rfl ?_
          exact st_retZ rfl rfl (Or.inl rfl) (hQ _ _ h)
        · have h := Eq.mp (if_neg hc_28) h
          refine st_if (t := 139) (b := true) rfl (decide_eq_true hc_28) rfl ?_
          refine vmWp.sub (lo' := [(0, .ref 42), (1, .int x1)]) ⟨rfl, rfl, trivial⟩ ?_
          exact ih x1 d_26 h
    · have h := Eq.mp (if_neg hc_20) h
      refine st_if (t := 176) (b := true) rfl (decide_eq_true (Int32.not_lt.mp hc_20)) rfl ?_
      refine st_go 4 (pc' := 182) (lo' := [(0, .ref 42), (1, .int x1)]) (st' := [.int 0, .ref 49, .ref 42]) rfl ?_
      refine st_ialdR (o := 49) rfl rfl (show ixOk 0 400 by decide) rfl (fun y_29 hy_y_29 => ?_)
      have h := h y_29 hy_y_29
      refine st_putIR (o := 42) (f := 22) rfl rfl rfl rfl rfl (fun d_30 hy_d_30 => ?_)
      have h := h d_30 hy_d_30
      refine st_go 1 (pc' := 187) (lo' := [(0, .ref 42), (1, .int x1)]) (st' := [.int 1]) rfl ?_
      exact st_retZ rfl rfl (Or.inr rfl) (hQ _ _ h)
set_option maxRecDepth 100000 in
def MO_expression_84 (b15 : Int32 → vmD → Prop) (x1 : Int32) (s0 : Int32) (d : vmD) (Q : Int32 → vmD → Prop) : Prop :=
  MO_push s0 d fun d_35 =>
  bnd (sF d_35 42 19 ((gF d_35 42 19) + 1)) fun d_36 =>
  MO_next d_36 fun d_37 =>
  b15 x1 d_37
set_option maxRecDepth 100000 in
set_option maxHeartbeats 4000000 in
theorem tMO_expression_84 {L : Nat} {e : vmD} {Qo : Option Value → vmW → Prop} {b15 : Int32 → vmD → Prop} {Q : Int32 → vmD → Prop} (hb15 : ∀ x1 d, b15 x1 d → vmWp 269 15 [(0, .ref 42), (1, .int x1)] [] (wR L d e) Qo) (hQ : ∀ r d, Q r d → Qo (some (.int r)) (wR L d e)) (x1 : Int32) (s0 : Int32) (d : vmD) (h : MO_expression_84 b15 x1 s0 d Q) : vmWp 269 84 [(0, .ref 42), (1, .int x1)] [.int s0, .ref 42] (wR L d e) Qo := by
  unfold MO_expression_84 at h
  refine st_callv (k' := 267) (as := [.ref 42, .int s0]) (rest := []) (lo' := [(0, .ref 42), (1, .int s0)]) (wf := fun d => wR L d e) rfl rfl rfl ?_
  refine tMO_push (fun d_35 h => ⟨d_35, rfl, rfl, ?_⟩) s0 d h
  refine st_go 5 (pc' := 94) (lo' := [(0, .ref 42), (1, .int x1)]) (st' := [.int ((gF d_35 42 19) + 1), .ref 42]) rfl ?_
  refine st_putIR (o := 42) (f := 19) rfl rfl rfl rfl rfl (fun d_36 hy_d_36 => ?_)
  have h := h d_36 hy_d_36
  refine st_go 1 (pc' := 98) (lo' := [(0, .ref 42), (1, .int x1)]) (st' := [.ref 42]) rfl ?_
  refine st_callv (k' := 252) (as := [.ref 42]) (rest := []) (lo' := [(0, .ref 42)]) (wf := fun d => wR L d e) rfl rfl rfl ?_
  refine tMO_next (fun d_37 h => ⟨d_37, rfl, rfl, ?_⟩) d_36 h
  refine st_go 1 (pc' := 15) (lo' := [(0, .ref 42), (1, .int x1)]) (st' := []) rfl ?_
  refine vmWp.sub (lo' := [(0, .ref 42), (1, .int x1)]) ⟨rfl, rfl, trivial⟩ ?_
  exact hb15 x1 d_37 h
set_option maxRecDepth 100000 in
def MO_expression_42 (b15 : Int32 → vmD → Prop) (x1 : Int32) (d : vmD) (Q : Int32 → vmD → Prop) : Prop :=
  if (gF d 42 19) = 40 then
  (MO_refuse d fun r_33 d_32 =>
  (r_33 = 0 ∨ r_33 = 1) ∧ Q r_33 d_32)
  else
  (if (gF d 42 6) = 40 then
  (MO_expression_84 b15 x1 1 d Q)
  else
  (if (gF d 42 6) = 45 then
  (MO_expression_84 b15 x1 2 d Q)
  else
  (MO_expression_84 b15 x1 3 d Q)))
set_option maxRecDepth 100000 in
set_option maxHeartbeats 4000000 in
theorem tMO_expression_42 {L : Nat} {e : vmD} {Qo : Option Value → vmW → Prop} {b15 : Int32 → vmD → Prop} {Q : Int32 → vmD → Prop} (hb15 : ∀ x1 d, b15 x1 d → vmWp 269 15 [(0, .ref 42), (1, .int x1)] [] (wR L d e) Qo) (hQ : ∀ r d, Q r d → Qo (some (.int r)) (wR L d e)) (x1 : Int32) (d : vmD) (h : MO_expression_42 b15 x1 d Q) : vmWp 269 42 [(0, .ref 42), (1, .int x1)] [] (wR L d e) Qo := by
  unfold MO_expression_42 at h
  refine st_go 3 (pc' := 48) (lo' := [(0, .ref 42), (1, .int x1)]) (st' := [.int 40, .int (gF d 42 19)]) rfl ?_
  by_cases hc_31 : (gF d 42 19) = 40
  · have h := Eq.mp (if_pos hc_31) h
    refine st_icmp (t := 51) (b := false) rfl (decide_eq_false (fun z => z hc_31)) rfl ?_
    refine st_go 1 (pc' := 52) (lo' := [(0, .ref 42), (1, .int x1)]) (st' := [.ref 42]) rfl ?_
    refine st_calli (k' := 246) (as := [.ref 42]) (rest := []) (lo' := [(0, .ref 42)]) (wf := fun d => wR L d e) rfl rfl rfl ?_
    refine tMO_refuse (fun r_33 d_32 h => ⟨r_33, d_32, rfl, rfl, ?_⟩) d h
    exact st_retZ rfl rfl h.1 (hQ _ _ h.2)
  · have h := Eq.mp (if_neg hc_31) h
    refine st_icmp (t := 56) (b := true) rfl (decide_eq_true hc_31) rfl ?_
    refine st_go 4 (pc' := 63) (lo' := [(0, .ref 42), (1, .int x1)]) (st' := [.int 40, .int (gF d 42 6), .ref 42]) rfl ?_
    by_cases hc_34 : (gF d 42 6) = 40
    · have h := Eq.mp (if_pos hc_34) h
      refine st_icmp (t := 66) (b := false) rfl (decide_eq_false (fun z => z hc_34)) rfl ?_
      refine st_go 2 (pc' := 84) (lo' := [(0, .ref 42), (1, .int x1)]) (st' := [.int 1, .ref 42]) rfl ?_
      refine vmWp.sub (lo' := [(0, .ref 42), (1, .int x1)]) ⟨rfl, rfl, trivial⟩ ?_
      exact tMO_expression_84 hb15 hQ x1 1 d h
    · have h := Eq.mp (if_neg hc_34) h
      refine st_icmp (t := 70) (b := true) rfl (decide_eq_true hc_34) rfl ?_
      refine st_go 3 (pc' := 76) (lo' := [(0, .ref 42), (1, .int x1)]) (st' := [.int 45, .int (gF d 42 6), .ref 42]) rfl ?_
      by_cases hc_38 : (gF d 42 6) = 45
      · have h := Eq.mp (if_pos hc_38) h
        refine st_icmp (t := 79) (b := false) rfl (decide_eq_false (fun z => z hc_38)) rfl ?_
        refine st_go 2 (pc' := 84) (lo' := [(0, .ref 42), (1, .int x1)]) (st' := [.int 2, .ref 42]) rfl ?_
        refine vmWp.sub (lo' := [(0, .ref 42), (1, .int x1)]) ⟨rfl, rfl, trivial⟩ ?_
        exact tMO_expression_84 hb15 hQ x1 2 d h
      · have h := Eq.mp (if_neg hc_38) h
        refine st_icmp (t := 83) (b := true) rfl (decide_eq_true hc_38) rfl ?_
        refine st_go 1 (pc' := 84) (lo' := [(0, .ref 42), (1, .int x1)]) (st' := [.int 3, .ref 42]) rfl ?_
        refine vmWp.sub (lo' := [(0, .ref 42), (1, .int x1)]) ⟨rfl, rfl, trivial⟩ ?_
        exact tMO_expression_84 hb15 hQ x1 3 d h
set_option maxRecDepth 100000 in
def MO_expression_15 (Q : Int32 → vmD → Prop) : Nat → Int32 → vmD → Prop
  | 0, _, _ => False
  | n + 1, x1, d => MO_isSign 40 d fun r_5 d_4 =>
  if r_5 = 0 then
  (MO_isSign 45 d_4 fun r_8 d_7 =>
  if r_8 = 0 then
  (MO_isSign 126 d_7 fun r_11 d_10 =>
  if r_11 = 0 then
  (MO_operand x1 d_10 fun r_14 d_13 =>
  if r_14 = 0 then
  (Q 0 d_13)
  else
  (MO_behind x1 d_13 fun r_17 d_16 =>
  if (0 : Int32) < (gF d_16 42 8) then
  (Q 0 d_16)
  else
  (if r_17 = 0 then
  (∃ m139, MO_expression_139 Q m139 x1 d_16)
  else
  ((MO_expression_15 Q n) x1 d_16))))
  else
  (MO_expression_42 (MO_expression_15 Q n) x1 d_10 Q))
  else
  (MO_expression_42 (MO_expression_15 Q n) x1 d_7 Q))
  else
  (MO_expression_42 (MO_expression_15 Q n) x1 d_4 Q)
set_option maxRecDepth 100000 in
set_option maxHeartbeats 4000000 in
theorem tMO_expression_15 {L : Nat} {e : vmD} {Qo : Option Value → vmW → Prop} {Q : Int32 → vmD → Prop} (hQ : ∀ r d, Q r d → Qo (some (.int r)) (wR L d e)) : ∀ (n : Nat) (x1 : Int32) (d : vmD), MO_expression_15 Q n x1 d → vmWp 269 15 [(0, .ref 42), (1, .int x1)] [] (wR L d e) Qo := by
  intro n
  induction n with
  | zero => intro x1 d h; exact h.elim
  | succ n ih =>
    intro x1 d h
    unfold MO_expression_15 at h
    refine st_go 2 (pc' := 18) (lo' := [(0, .ref 42), (1, .int x1)]) (st' := [.int 40, .ref 42]) rfl ?_
    refine st_calli (k' := 257) (as := [.ref 42, .int 40]) (rest := []) (lo' := [(0, .ref 42), (1, .int 40)]) (wf := fun d => wR L d e) rfl rfl rfl ?_
    refine tMO_isSign (fun r_5 d_4 h => ⟨r_5, d_4, rfl, rfl, ?_⟩) 40 d h
    by_cases hc_6 : r_5 = 0
    · have h := Eq.mp (if_pos hc_6) h
      refine st_if (t := 24) (b := false) rfl (decide_eq_false (fun z => z hc_6)) rfl ?_
      refine st_go 2 (pc' := 27) (lo' := [(0, .ref 42), (1, .int x1)]) (st' := [.int 45, .ref 42]) rfl ?_
      refine st_calli (k' := 257) (as := [.ref 42, .int 45]) (rest := []) (lo' := [(0, .ref 42), (1, .int 45)]) (wf := fun d => wR L d e) rfl rfl rfl ?_
      refine tMO_isSign (fun r_8 d_7 h => ⟨r_8, d_7, rfl, rfl, ?_⟩) 45 d_4 h
      by_cases hc_9 : r_8 = 0
      · have h := Eq.mp (if_pos hc_9) h
        refine st_if (t := 33) (b := false) rfl (decide_eq_false (fun z => z hc_9)) rfl ?_
        refine st_go 2 (pc' := 36) (lo' := [(0, .ref 42), (1, .int x1)]) (st' := [.int 126, .ref 42]) rfl ?_
        refine st_calli (k' := 257) (as := [.ref 42, .int 126]) (rest := []) (lo' := [(0, .ref 42), (1, .int 126)]) (wf := fun d => wR L d e) rfl rfl rfl ?_
        refine tMO_isSign (fun r_11 d_10 h => ⟨r_11, d_10, rfl, rfl, ?_⟩) 126 d_7 h
        by_cases hc_12 : r_11 = 0
        · have h := Eq.mp (if_pos hc_12) h
          refine st_if (t := 104) (b := true) rfl (decide_eq_true hc_12) rfl ?_
          refine st_go 2 (pc' := 106) (lo' := [(0, .ref 42), (1, .int x1)]) (st' := [.int x1, .ref 42]) rfl ?_
          refine st_calli (k' := 270) (as := [.ref 42, .int x1]) (rest := []) (lo' := [(0, .ref 42), (1, .int x1)]) (wf := fun d => wR L d e) rfl rfl rfl ?_
          refine tMO_operand (fun r_14 d_13 h => ⟨r_14, d_13, rfl, rfl, ?_⟩) x1 d_10 h
          by_cases hc_15 : r_14 = 0
          · have h := Eq.mp (if_pos hc_15) h
            refine st_if (t := 112) (b := false) rfl (decide_eq_false (fun z => z hc_15)) rfl ?_
            refine st_go 1 (pc' := 113) (lo' := [(0, .ref 42), (1, .int x1)]) (st' := [.int 0]) rfl ?_
            exact st_retZ rfl rfl (Or.inl rfl) (hQ _ _ h)
          · have h := Eq.mp (if_neg hc_15) h
            refine st_if (t := 114) (b := true) rfl (decide_eq_true hc_15) rfl ?_
            refine st_go 2 (pc' := 116) (lo' := [(0, .ref 42), (1, .int x1)]) (st' := [.int x1, .ref 42]) rfl ?_
            refine st_calli (k' := 272) (as := [.ref 42, .int x1]) (rest := []) (lo' := [(0, .ref 42), (1, .int x1)]) (wf := fun d => wR L d e) rfl rfl rfl ?_
            refine tMO_behind (fun r_17 d_16 h => ⟨r_17, d_16, rfl, rfl, ?_⟩) x1 d_13 h
            refine st_go 3 (pc' := 124) (lo' := [(2, .int r_17), (0, .ref 42), (1, .int x1)]) (st' := [.int (gF d_16 42 8)]) rfl ?_
            by_cases hc_18 : (0 : Int32) < (gF d_16 42 8)
            · have h := Eq.mp (if_pos hc_18) h
              refine st_if (t := 127) (b := false) rfl (decide_eq_false (Int32.not_le.mpr hc_18)) rfl ?_
              refine st_go 1 (pc' := 128) (lo' := [(2, .int r_17), (0, .ref 42), (1, .int x1)]) (st' := [.int 0]) rfl ?_
              exact st_retZ rfl rfl (Or.inl rfl) (hQ _ _ h)
            · have h := Eq.mp (if_neg hc_18) h
              refine st_if (t := 129) (b := true) rfl (decide_eq_true (Int32.not_lt.mp hc_18)) rfl ?_
              refine st_go 1 (pc' := 130) (lo' := [(2, .int r_17), (0, .ref 42), (1, .int x1)]) (st' := [.int r_17]) rfl ?_
              by_cases hc_19 : r_17 = 0
              · have h := Eq.mp (if_pos hc_19) h
                refine st_if (t := 133) (b := false) rfl (decide_eq_false (fun z => z hc_19)) rfl ?_
                refine st_go 1 (pc' := 139) (lo' := [(2, .int r_17), (0, .ref 42), (1, .int x1)]) (st' := []) rfl ?_
                obtain ⟨m139, h⟩ := h
                refine vmWp.sub (lo' := [(0, .ref 42), (1, .int x1)]) ⟨rfl, rfl, trivial⟩ ?_
                exact tMO_expression_139 hQ m139 x1 d_16 h
              · have h := Eq.mp (if_neg hc_19) h
                refine st_if (t := 136) (b := true) rfl (decide_eq_true hc_19) rfl ?_
                refine st_go 1 (pc' := 15) (lo' := [(2, .int r_17), (0, .ref 42), (1, .int x1)]) (st' := []) rfl ?_
                refine vmWp.sub (lo' := [(0, .ref 42), (1, .int x1)]) ⟨rfl, rfl, trivial⟩ ?_
                exact ih x1 d_16 h
        · have h := Eq.mp (if_neg hc_12) h
          refine st_if (t := 42) (b := false) rfl (decide_eq_false hc_12) rfl ?_
          refine vmWp.sub (lo' := [(0, .ref 42), (1, .int x1)]) ⟨rfl, rfl, trivial⟩ ?_
          exact tMO_expression_42 ih hQ x1 d_10 h
      · have h := Eq.mp (if_neg hc_9) h
        refine st_if (t := 42) (b := true) rfl (decide_eq_true hc_9) rfl ?_
        refine vmWp.sub (lo' := [(0, .ref 42), (1, .int x1)]) ⟨rfl, rfl, trivial⟩ ?_
        exact tMO_expression_42 ih hQ x1 d_7 h
    · have h := Eq.mp (if_neg hc_6) h
      refine st_if (t := 42) (b := true) rfl (decide_eq_true hc_6) rfl ?_
      refine vmWp.sub (lo' := [(0, .ref 42), (1, .int x1)]) ⟨rfl, rfl, trivial⟩ ?_
      exact tMO_expression_42 ih hQ x1 d_4 h
set_option maxRecDepth 100000 in
def MO_expression (x1 : Int32) (d : vmD) (Q : Int32 → vmD → Prop) : Prop :=
  bnd (sF d 42 16 0) fun d_1 =>
  bnd (sF d_1 42 18 0) fun d_2 =>
  bnd (sF d_2 42 19 0) fun d_3 =>
  ∃ m15, MO_expression_15 Q m15 x1 d_3
set_option maxRecDepth 100000 in
set_option maxHeartbeats 4000000 in
theorem tMO_expression {L : Nat} {e : vmD} {Qo : Option Value → vmW → Prop} {Q : Int32 → vmD → Prop} (hQ : ∀ r d, Q r d → Qo (some (.int r)) (wR L d e)) (x1 : Int32) (d : vmD) (h : MO_expression x1 d Q) : vmWp 269 0 [(0, .ref 42), (1, .int x1)] [] (wR L d e) Qo := by
  unfold MO_expression at h
  refine st_go 2 (pc' := 2) (lo' := [(0, .ref 42), (1, .int x1)]) (st' := [.int 0, .ref 42]) rfl ?_
  refine st_putIR (o := 42) (f := 16) rfl rfl rfl rfl rfl (fun d_1 hy_d_1 => ?_)
  have h := h d_1 hy_d_1
  refine st_go 2 (pc' := 7) (lo' := [(0, .ref 42), (1, .int x1)]) (st' := [.int 0, .ref 42]) rfl ?_
  refine st_putIR (o := 42) (f := 18) rfl rfl rfl rfl rfl (fun d_2 hy_d_2 => ?_)
  have h := h d_2 hy_d_2
  refine st_go 2 (pc' := 12) (lo' := [(0, .ref 42), (1, .int x1)]) (st' := [.int 0, .ref 42]) rfl ?_
  refine st_putIR (o := 42) (f := 19) rfl rfl rfl rfl rfl (fun d_3 hy_d_3 => ?_)
  have h := h d_3 hy_d_3
  obtain ⟨m15, h⟩ := h
  refine vmWp.sub (lo' := [(0, .ref 42), (1, .int x1)]) ⟨rfl, rfl, trivial⟩ ?_
  exact tMO_expression_15 hQ m15 x1 d_3 h
set_option maxRecDepth 100000 in
def MO_addName_3 (Q : vmD → Prop) : Nat → Int32 → Int32 → Int32 → Int32 → vmD → Prop
  | 0, _, _, _, _, _ => False
  | n + 1, x1, x2, x3, x4, d => if x4 < x2 then
  (ixOk x4 6000 ∧
  bnd (gA d 43 x4.toNatClampNeg) fun y_3 =>
  MO_capital y_3 d fun r_5 d_4 =>
  ixOk ((((12 : Int32) * (gF d 42 13)) + x4) - x1) 2400 ∧
  bnd (sA d_4 44 ((((12 : Int32) * (gF d 42 13)) + x4) - x1).toNatClampNeg r_5) fun d_7 =>
  bnd (x4 + 1) fun x4_8 =>
  (MO_addName_3 Q n) x1 x2 x3 x4_8 d_7)
  else
  (ixOk (gF d 42 13) 200 ∧
  bnd (sA d 45 (gF d 42 13).toNatClampNeg (x2 - x1)) fun d_10 =>
  ixOk (gF d_10 42 13) 200 ∧
  bnd (sA d_10 46 (gF d_10 42 13).toNatClampNeg x3) fun d_12 =>
  bnd (sF d_12 42 13 ((gF d_12 42 13) + 1)) fun d_13 =>
  Q d_13)
set_option maxRecDepth 100000 in
set_option maxHeartbeats 4000000 in
theorem tMO_addName_3 {L : Nat} {e : vmD} {Qo : Option Value → vmW → Prop} {Q : vmD → Prop} (hQ : ∀ d, Q d → Qo none (wR L d e)) : ∀ (n : Nat) (x1 : Int32) (x2 : Int32) (x3 : Int32) (x4 : Int32) (d : vmD), MO_addName_3 Q n x1 x2 x3 x4 d → vmWp 260 3 [(0, .ref 42), (1, .int x1), (2, .int x2), (3, .int x3), (4, .int x4)] [] (wR L d e) Qo := by
  intro n
  induction n with
  | zero => intro x1 x2 x3 x4 d h; exact h.elim
  | succ n ih =>
    intro x1 x2 x3 x4 d h
    unfold MO_addName_3 at h
    refine st_go 2 (pc' := 6) (lo' := [(0, .ref 42), (1, .int x1), (2, .int x2), (3, .int x3), (4, .int x4)]) (st' := [.int x2, .int x4]) rfl ?_
    by_cases hc_1 : x4 < x2
    · have h := Eq.mp (if_pos hc_1) h
      refine st_icmp (t := 9) (b := false) rfl (decide_eq_false (Int32.not_le.mpr hc_1)) rfl ?_
      refine st_go 14 (pc' := 32) (lo' := [(0, .ref 42), (1, .int x1), (2, .int x2), (3, .int x3), (4, .int x4)]) (st' := [.int x4, .ref 43, .ref 42, .int ((((12 : Int32) * (gF d 42 13)) + x4) - x1), .ref 44]) rfl ?_
      obtain ⟨hj_2, h⟩ := h
      refine st_ialdR (o := 43) rfl rfl hj_2 rfl (fun y_3 hy_y_3 => ?_)
      have h := h y_3 hy_y_3
      refine st_calli (k' := 248) (as := [.ref 42, .int y_3]) (rest := [.int ((((12 : Int32) * (gF d 42 13)) + x4) - x1), .ref 44]) (lo' := [(0, .ref 42), (1, .int y_3)]) (wf := fun d => wR L d e) rfl rfl rfl ?_
      refine tMO_capital (fun r_5 d_4 h => ⟨r_5, d_4, rfl, rfl, ?_⟩) y_3 d h
      obtain ⟨hj_6, h⟩ := h
      refine st_iastR (o := 44) rfl rfl hj_6 rfl (fun d_7 hy_d_7 => ?_)
      have h := h d_7 hy_d_7
      refine st_go 1 (pc' := 40) (lo' := [(4, .int (x4 + 1)), (0, .ref 42), (1, .int x1), (2, .int x2), (3, .int x3)]) (st' := []) rfl ?_
      refine st_locI (fun x4_8 hy_x4_8 => ?_)
      have h := h x4_8 hy_x4_8
      refine st_go 1 (pc' := 3) (lo' := [(4, .int x4_8), (0, .ref 42), (1, .int x1), (2, .int x2), (3, .int x3)]) (st' := []) rfl ?_
      refine vmWp.sub (lo' := [(0, .ref 42), (1, .int x1), (2, .int x2), (3, .int x3), (4, .int x4_8)]) ⟨rfl, rfl, rfl, rfl, rfl, trivial⟩ ?_
      exact ih x1 x2 x3 x4_8 d_7 h
    · have h := Eq.mp (if_neg hc_1) h
      refine st_icmp (t := 43) (b := true) rfl (decide_eq_true (Int32.not_lt.mp hc_1)) rfl ?_
      refine st_go 7 (pc' := 54) (lo' := [(0, .ref 42), (1, .int x1), (2, .int x2), (3, .int x3), (4, .int x4)]) (st' := [.int (x2 - x1), .int (gF d 42 13), .ref 45]) rfl ?_
      obtain ⟨hj_9, h⟩ := h
      refine st_iastR (o := 45) rfl rfl hj_9 rfl (fun d_10 hy_d_10 => ?_)
      have h := h d_10 hy_d_10
      refine st_go 5 (pc' := 64) (lo' := [(0, .ref 42), (1, .int x1), (2, .int x2), (3, .int x3), (4, .int x4)]) (st' := [.int x3, .int (gF d_10 42 13), .ref 46]) rfl ?_
      obtain ⟨hj_11, h⟩ := h
      refine st_iastR (o := 46) rfl rfl hj_11 rfl (fun d_12 hy_d_12 => ?_)
      have h := h d_12 hy_d_12
      refine st_go 5 (pc' := 72) (lo' := [(0, .ref 42), (1, .int x1), (2, .int x2), (3, .int x3), (4, .int x4)]) (st' := [.int ((gF d_12 42 13) + 1), .ref 42]) rfl ?_
      refine st_putIR (o := 42) (f := 13) rfl rfl rfl rfl rfl (fun d_13 hy_d_13 => ?_)
      have h := h d_13 hy_d_13
      exact st_retV rfl rfl (hQ _ h)
set_option maxRecDepth 100000 in
def MO_addName (x1 : Int32) (x2 : Int32) (x3 : Int32) (d : vmD) (Q : vmD → Prop) : Prop :=
  ∃ m3, MO_addName_3 Q m3 x1 x2 x3 x1 d
set_option maxRecDepth 100000 in
set_option maxHeartbeats 4000000 in
theorem tMO_addName {L : Nat} {e : vmD} {Qo : Option Value → vmW → Prop} {Q : vmD → Prop} (hQ : ∀ d, Q d → Qo none (wR L d e)) (x1 : Int32) (x2 : Int32) (x3 : Int32) (d : vmD) (h : MO_addName x1 x2 x3 d Q) : vmWp 260 0 [(0, .ref 42), (1, .int x1), (2, .int x2), (3, .int x3)] [] (wR L d e) Qo := by
  unfold MO_addName at h
  refine st_go 2 (pc' := 3) (lo' := [(4, .int x1), (0, .ref 42), (1, .int x1), (2, .int x2), (3, .int x3)]) (st' := []) rfl ?_
  obtain ⟨m3, h⟩ := h
  refine vmWp.sub (lo' := [(0, .ref 42), (1, .int x1), (2, .int x2), (3, .int x3), (4, .int x1)]) ⟨rfl, rfl, rfl, rfl, rfl, trivial⟩ ?_
  exact tMO_addName_3 hQ m3 x1 x2 x3 x1 d h
set_option maxRecDepth 100000 in
def MO_equal_34 (x1 : Int32) (d : vmD) (Q : Int32 → vmD → Prop) : Prop :=
  MO_wrong 3 x1 d fun r_10 d_9 =>
  (r_10 = 0 ∨ r_10 = 1) ∧ Q r_10 d_9
set_option maxRecDepth 100000 in
set_option maxHeartbeats 4000000 in
theorem tMO_equal_34 {L : Nat} {e : vmD} {Qo : Option Value → vmW → Prop} {Q : Int32 → vmD → Prop} (hQ : ∀ r d, Q r d → Qo (some (.int r)) (wR L d e)) (x1 : Int32) (d : vmD) (h : MO_equal_34 x1 d Q) : vmWp 305 34 [(0, .ref 42), (1, .int x1)] [] (wR L d e) Qo := by
  unfold MO_equal_34 at h
  refine st_go 3 (pc' := 37) (lo' := [(0, .ref 42), (1, .int x1)]) (st' := [.int x1, .int 3, .ref 42]) rfl ?_
  refine st_calli (k' := 245) (as := [.ref 42, .int 3, .int x1]) (rest := []) (lo' := [(0, .ref 42), (1, .int 3), (2, .int x1)]) (wf := fun d => wR L d e) rfl rfl rfl ?_
  refine tMO_wrong (fun r_10 d_9 h => ⟨r_10, d_9, rfl, rfl, ?_⟩) 3 x1 d h
  exact st_retZ rfl rfl h.1 (hQ _ _ h.2)
set_option maxRecDepth 100000 in
def MO_equal_68 (d : vmD) (Q : Int32 → vmD → Prop) : Prop :=
  if (gF d 42 3) = 1 then
  (Q 1 d)
  else
  (MO_refuse d fun r_18 d_17 =>
  if r_18 = 0 then
  (Q 0 d_17)
  else
  (Q 1 d_17))
set_option maxRecDepth 100000 in
set_option maxHeartbeats 4000000 in
theorem tMO_equal_68 {L : Nat} {e : vmD} {Qo : Option Value → vmW → Prop} {Q : Int32 → vmD → Prop} (hQ : ∀ r d, Q r d → Qo (some (.int r)) (wR L d e)) (d : vmD) (h : MO_equal_68 d Q) : vmWp 305 68 [(0, .ref 42)] [] (wR L d e) Qo := by
  unfold MO_equal_68 at h
  refine st_go 3 (pc' := 73) (lo' := [(0, .ref 42)]) (st' := [.int 1, .int (gF d 42 3)]) rfl ?_
  by_cases hc_16 : (gF d 42 3) = 1
  · have h := Eq.mp (if_pos hc_16) h
    refine st_icmp (t := 83) (b := true) rfl (decide_eq_true hc_16) rfl ?_
    refine st_go 2 (pc' := 88) (lo' := [(0, .ref 42)]) (st' := [.int 1]) rfl ?_
    exact st_retZ rfl rfl (Or.inr rfl) (hQ _ _ h)
  · have h := Eq.mp (if_neg hc_16) h
    refine st_icmp (t := 76) (b := false) rfl (decide_eq_false hc_16) rfl ?_
    refine st_go 1 (pc' := 77) (lo' := [(0, .ref 42)]) (st' := [.ref 42]) rfl ?_
    refine st_calli (k' := 246) (as := [.ref 42]) (rest := []) (lo' := [(0, .ref 42)]) (wf := fun d => wR L d e) rfl rfl rfl ?_
    refine tMO_refuse (fun r_18 d_17 h => ⟨r_18, d_17, rfl, rfl, ?_⟩) d h
    by_cases hc_19 : r_18 = 0
    · have h := Eq.mp (if_pos hc_19) h
      refine st_if (t := 87) (b := true) rfl (decide_eq_true hc_19) rfl ?_
      refine st_go 1 (pc' := 88) (lo' := [(0, .ref 42)]) (st' := [.int 0]) rfl ?_
      exact st_retZ rfl rfl (Or.inl rfl) (hQ _ _ h)
    · have h := Eq.mp (if_neg hc_19) h
      refine st_if (t := 83) (b := false) rfl (decide_eq_false hc_19) rfl ?_
      refine st_go 2 (pc' := 88) (lo' := [(0, .ref 42)]) (st' := [.int 1]) rfl ?_
      exact st_retZ rfl rfl (Or.inr rfl) (hQ _ _ h)
set_option maxRecDepth 100000 in
def MO_equal_41 (x1 : Int32) (x2 : Int32) (d : vmD) (Q : Int32 → vmD → Prop) : Prop :=
  MO_expression 1 d fun r_12 d_11 =>
  if r_12 = 0 then
  (Q 0 d_11)
  else
  (if (gF d_11 42 42) = 0 then
  (MO_addName x1 x2 (gF d_11 42 22) d_11 fun d_15 =>
  MO_equal_68 d_15 Q)
  else
  (MO_equal_68 d_11 Q))
set_option maxRecDepth 100000 in
set_option maxHeartbeats 4000000 in
theorem tMO_equal_41 {L : Nat} {e : vmD} {Qo : Option Value → vmW → Prop} {Q : Int32 → vmD → Prop} (hQ : ∀ r d, Q r d → Qo (some (.int r)) (wR L d e)) (x1 : Int32) (x2 : Int32) (d : vmD) (h : MO_equal_41 x1 x2 d Q) : vmWp 305 41 [(0, .ref 42), (1, .int x1), (2, .int x2)] [] (wR L d e) Qo := by
  unfold MO_equal_41 at h
  refine st_go 2 (pc' := 43) (lo' := [(0, .ref 42), (1, .int x1), (2, .int x2)]) (st' := [.int 1, .ref 42]) rfl ?_
  refine st_calli (k' := 269) (as := [.ref 42, .int 1]) (rest := []) (lo' := [(0, .ref 42), (1, .int 1)]) (wf := fun d => wR L d e) rfl rfl rfl ?_
  refine tMO_expression (fun r_12 d_11 h => ⟨r_12, d_11, rfl, rfl, ?_⟩) 1 d h
  by_cases hc_13 : r_12 = 0
  · have h := Eq.mp (if_pos hc_13) h
    refine st_if (t := 49) (b := false) rfl (decide_eq_false (fun z => z hc_13)) rfl ?_
    refine st_go 1 (pc' := 50) (lo' := [(0, .ref 42), (1, .int x1), (2, .int x2)]) (st' := [.int 0]) rfl ?_
    exact st_retZ rfl rfl (Or.inl rfl) (hQ _ _ h)
  · have h := Eq.mp (if_neg hc_13) h
    refine st_if (t := 51) (b := true) rfl (decide_eq_true hc_13) rfl ?_
    refine st_go 2 (pc' := 55) (lo' := [(0, .ref 42), (1, .int x1), (2, .int x2)]) (st' := [.int (gF d_11 42 42)]) rfl ?_
    by_cases hc_14 : (gF d_11 42 42) = 0
    · have h := Eq.mp (if_pos hc_14) h
      refine st_if (t := 58) (b := false) rfl (decide_eq_false (fun z => z hc_14)) rfl ?_
      refine st_go 5 (pc' := 65) (lo' := [(0, .ref 42), (1, .int x1), (2, .int x2)]) (st' := [.int (gF d_11 42 22), .int x2, .int x1, .ref 42]) rfl ?_
      refine st_callv (k' := 260) (as := [.ref 42, .int x1, .int x2, .int (gF d_11 42 22)]) (rest := []) (lo' := [(0, .ref 42), (1, .int x1), (2, .int x2), (3, .int (gF d_11 42 22))]) (wf := fun d => wR L d e) rfl rfl rfl ?_
      refine tMO_addName (fun d_15 h => ⟨d_15, rfl, rfl, ?_⟩) x1 x2 (gF d_11 42 22) d_11 h
      refine vmWp.sub (lo' := [(0, .ref 42)]) ⟨rfl, trivial⟩ ?_
      exact tMO_equal_68 hQ d_15 h
    · have h := Eq.mp (if_neg hc_14) h
      refine st_if (t := 68) (b := true) rfl (decide_eq_true hc_14) rfl ?_
      refine vmWp.sub (lo' := [(0, .ref 42)]) ⟨rfl, trivial⟩ ?_
      exact tMO_equal_68 hQ d_11 h
set_option maxRecDepth 100000 in
def MO_equal (x1 : Int32) (x2 : Int32) (x3 : Int64) (d : vmD) (Q : Int32 → vmD → Prop) : Prop :=
  if (gF d 42 42) = 0 then
  (MO_isReserved x3 d fun r_3 d_2 =>
  if r_3 = 0 then
  (MO_find x1 x2 d_2 fun r_6 d_5 =>
  if r_6 < 0 then
  (if (gF d_5 42 13) = 200 then
  (MO_equal_34 x1 d_5 Q)
  else
  (MO_equal_41 x1 x2 d_5 Q))
  else
  (MO_equal_34 x1 d_5 Q))
  else
  (MO_equal_34 x1 d_2 Q))
  else
  (MO_equal_41 x1 x2 d Q)
set_option maxRecDepth 100000 in
set_option maxHeartbeats 4000000 in
theorem tMO_equal {L : Nat} {e : vmD} {Qo : Option Value → vmW → Prop} {Q : Int32 → vmD → Prop} (hQ : ∀ r d, Q r d → Qo (some (.int r)) (wR L d e)) (x1 : Int32) (x2 : Int32) (x3 : Int64) (d : vmD) (h : MO_equal x1 x2 x3 d Q) : vmWp 305 0 [(0, .ref 42), (1, .int x1), (2, .int x2), (3, .long x3)] [] (wR L d e) Qo := by
  unfold MO_equal at h
  refine st_go 2 (pc' := 4) (lo' := [(0, .ref 42), (1, .int x1), (2, .int x2), (3, .long x3)]) (st' := [.int (gF d 42 42)]) rfl ?_
  by_cases hc_1 : (gF d 42 42) = 0
  · have h := Eq.mp (if_pos hc_1) h
    refine st_if (t := 7) (b := false) rfl (decide_eq_false (fun z => z hc_1)) rfl ?_
    refine st_go 2 (pc' := 9) (lo' := [(0, .ref 42), (1, .int x1), (2, .int x2), (3, .long x3)]) (st' := [.long x3, .ref 42]) rfl ?_
    refine st_calli (k' := 262) (as := [.ref 42, .long x3]) (rest := []) (lo' := [(0, .ref 42), (1, .long x3)]) (wf := fun d => wR L d e) rfl rfl rfl ?_
    refine tMO_isReserved (fun r_3 d_2 h => ⟨r_3, d_2, rfl, rfl, ?_⟩) x3 d h
    by_cases hc_4 : r_3 = 0
    · have h := Eq.mp (if_pos hc_4) h
      refine st_if (t := 15) (b := false) rfl (decide_eq_false (fun z => z hc_4)) rfl ?_
      refine st_go 3 (pc' := 18) (lo' := [(0, .ref 42), (1, .int x1), (2, .int x2), (3, .long x3)]) (st' := [.int x2, .int x1, .ref 42]) rfl ?_
      refine st_calli (k' := 259) (as := [.ref 42, .int x1, .int x2]) (rest := []) (lo' := [(0, .ref 42), (1, .int x1), (2, .int x2)]) (wf := fun d => wR L d e) rfl rfl rfl ?_
      refine tMO_find (fun r_6 d_5 h => ⟨r_6, d_5, rfl, rfl, ?_⟩) x1 x2 d_2 h
      by_cases hc_7 : r_6 < 0
      · have h := Eq.mp (if_pos hc_7) h
        refine st_if (t := 24) (b := false) rfl (decide_eq_false (Int32.not_le.mpr hc_7)) rfl ?_
        refine st_go 3 (pc' := 31) (lo' := [(0, .ref 42), (1, .int x1), (2, .int x2), (3, .long x3)]) (st' := [.int 200, .int (gF d_5 42 13)]) rfl ?_
        by_cases hc_8 : (gF d_5 42 13) = 200
        · have h := Eq.mp (if_pos hc_8) h
          refine st_icmp (t := 34) (b := false) rfl (decide_eq_false (fun z => z hc_8)) rfl ?_
          refine vmWp.sub (lo' := [(0, .ref 42), (1, .int x1)]) ⟨rfl, rfl, trivial⟩ ?_
          exact tMO_equal_34 hQ x1 d_5 h
        · have h := Eq.mp (if_neg hc_8) h
          refine st_icmp (t := 41) (b := true) rfl (decide_eq_true hc_8) rfl ?_
          refine vmWp.sub (lo' := [(0, .ref 42), (1, .int x1), (2, .int x2)]) ⟨rfl, rfl, rfl, trivial⟩ ?_
          exact tMO_equal_41 hQ x1 x2 d_5 h
      · have h := Eq.mp (if_neg hc_7) h
        refine st_if (t := 34) (b := true) rfl (decide_eq_true (Int32.not_lt.mp hc_7)) rfl ?_
        refine vmWp.sub (lo' := [(0, .ref 42), (1, .int x1)]) ⟨rfl, rfl, trivial⟩ ?_
        exact tMO_equal_34 hQ x1 d_5 h
    · have h := Eq.mp (if_neg hc_4) h
      refine st_if (t := 34) (b := true) rfl (decide_eq_true hc_4) rfl ?_
      refine vmWp.sub (lo' := [(0, .ref 42), (1, .int x1)]) ⟨rfl, rfl, trivial⟩ ?_
      exact tMO_equal_34 hQ x1 d_2 h
  · have h := Eq.mp (if_neg hc_1) h
    refine st_if (t := 41) (b := true) rfl (decide_eq_true hc_1) rfl ?_
    refine vmWp.sub (lo' := [(0, .ref 42), (1, .int x1), (2, .int x2)]) ⟨rfl, rfl, rfl, trivial⟩ ?_
    exact tMO_equal_41 hQ x1 x2 d h
set_option maxRecDepth 100000 in
def MO_endsOperand (d : vmD) (Q : Int32 → vmD → Prop) : Prop :=
  if (gF d 42 3) = 1 then
  (Q 1 d)
  else
  (MO_isSign 44 d fun r_3 d_2 =>
  if r_3 = 0 then
  (Q 0 d_2)
  else
  (Q 1 d_2))
set_option maxRecDepth 100000 in
set_option maxHeartbeats 4000000 in
theorem tMO_endsOperand {L : Nat} {e : vmD} {Qo : Option Value → vmW → Prop} {Q : Int32 → vmD → Prop} (hQ : ∀ r d, Q r d → Qo (some (.int r)) (wR L d e)) (d : vmD) (h : MO_endsOperand d Q) : vmWp 277 0 [(0, .ref 42)] [] (wR L d e) Qo := by
  unfold MO_endsOperand at h
  refine st_go 3 (pc' := 5) (lo' := [(0, .ref 42)]) (st' := [.int 1, .int (gF d 42 3)]) rfl ?_
  by_cases hc_1 : (gF d 42 3) = 1
  · have h := Eq.mp (if_pos hc_1) h
    refine st_icmp (t := 17) (b := true) rfl (decide_eq_true hc_1) rfl ?_
    refine st_go 2 (pc' := 22) (lo' := [(0, .ref 42)]) (st' := [.int 1]) rfl ?_
    exact st_retZ rfl rfl (Or.inr rfl) (hQ _ _ h)
  · have h := Eq.mp (if_neg hc_1) h
    refine st_icmp (t := 8) (b := false) rfl (decide_eq_false hc_1) rfl ?_
    refine st_go 2 (pc' := 11) (lo' := [(0, .ref 42)]) (st' := [.int 44, .ref 42]) rfl ?_
    refine st_calli (k' := 257) (as := [.ref 42, .int 44]) (rest := []) (lo' := [(0, .ref 42), (1, .int 44)]) (wf := fun d => wR L d e) rfl rfl rfl ?_
    refine tMO_isSign (fun r_3 d_2 h => ⟨r_3, d_2, rfl, rfl, ?_⟩) 44 d h
    by_cases hc_4 : r_3 = 0
    · have h := Eq.mp (if_pos hc_4) h
      refine st_if (t := 21) (b := true) rfl (decide_eq_true hc_4) rfl ?_
      refine st_go 1 (pc' := 22) (lo' := [(0, .ref 42)]) (st' := [.int 0]) rfl ?_
      exact st_retZ rfl rfl (Or.inl rfl) (hQ _ _ h)
    · have h := Eq.mp (if_neg hc_4) h
      refine st_if (t := 17) (b := false) rfl (decide_eq_false hc_4) rfl ?_
      refine st_go 2 (pc' := 22) (lo' := [(0, .ref 42)]) (st' := [.int 1]) rfl ?_
      exact st_retZ rfl rfl (Or.inr rfl) (hQ _ _ h)
set_option maxRecDepth 100000 in
def MO_goTo (x1 : Int32) (d : vmD) (Q : vmD → Prop) : Prop :=
  bnd (sF d 42 2 x1) fun d_1 =>
  MO_next d_1 fun d_2 =>
  Q d_2
set_option maxRecDepth 100000 in
set_option maxHeartbeats 4000000 in
theorem tMO_goTo {L : Nat} {e : vmD} {Qo : Option Value → vmW → Prop} {Q : vmD → Prop} (hQ : ∀ d, Q d → Qo none (wR L d e)) (x1 : Int32) (d : vmD) (h : MO_goTo x1 d Q) : vmWp 258 0 [(0, .ref 42), (1, .int x1)] [] (wR L d e) Qo := by
  unfold MO_goTo at h
  refine st_go 2 (pc' := 2) (lo' := [(0, .ref 42), (1, .int x1)]) (st' := [.int x1, .ref 42]) rfl ?_
  refine st_putIR (o := 42) (f := 2) rfl rfl rfl rfl rfl (fun d_1 hy_d_1 => ?_)
  have h := h d_1 hy_d_1
  refine st_go 1 (pc' := 6) (lo' := [(0, .ref 42), (1, .int x1)]) (st' := [.ref 42]) rfl ?_
  refine st_callv (k' := 252) (as := [.ref 42]) (rest := []) (lo' := [(0, .ref 42)]) (wf := fun d => wR L d e) rfl rfl rfl ?_
  refine tMO_next (fun d_2 h => ⟨d_2, rfl, rfl, ?_⟩) d_1 h
  exact st_retV rfl rfl (hQ _ h)
set_option maxRecDepth 100000 in
def MO_register8 (x1 : Int64) (d : vmD) (Q : Int32 → vmD → Prop) : Prop :=
  if (lg_cmp x1 66) = 0 then
  (Q 0 d)
  else
  (if (lg_cmp x1 67) = 0 then
  (Q 1 d)
  else
  (if (lg_cmp x1 68) = 0 then
  (Q 2 d)
  else
  (if (lg_cmp x1 69) = 0 then
  (Q 3 d)
  else
  (if (lg_cmp x1 72) = 0 then
  (Q 4 d)
  else
  (if (lg_cmp x1 76) = 0 then
  (Q 5 d)
  else
  (if (lg_cmp x1 65) = 0 then
  (Q 7 d)
  else
  (Q (-1) d)))))))
set_option maxRecDepth 100000 in
set_option maxHeartbeats 4000000 in
theorem tMO_register8 {L : Nat} {e : vmD} {Qo : Option Value → vmW → Prop} {Q : Int32 → vmD → Prop} (hQ : ∀ r d, Q r d → Qo (some (.int r)) (wR L d e)) (x1 : Int64) (d : vmD) (h : MO_register8 x1 d Q) : vmWp 273 0 [(0, .ref 42), (1, .long x1)] [] (wR L d e) Qo := by
  unfold MO_register8 at h
  refine st_go 3 (pc' := 5) (lo' := [(0, .ref 42), (1, .long x1)]) (st' := [.int (lg_cmp x1 66)]) rfl ?_
  by_cases hc_1 : (lg_cmp x1 66) = 0
  · have h := Eq.mp (if_pos hc_1) h
    refine st_if (t := 8) (b := false) rfl (decide_eq_false (fun z => z hc_1)) rfl ?_
    refine st_go 2 (pc' := 86) (lo' := [(0, .ref 42), (1, .long x1)]) (st' := [.int 0]) rfl ?_
    exact st_retI rfl rfl (hQ _ _ h)
  · have h := Eq.mp (if_neg hc_1) h
    refine st_if (t := 12) (b := true) rfl (decide_eq_true hc_1) rfl ?_
    refine st_go 3 (pc' := 17) (lo' := [(0, .ref 42), (1, .long x1)]) (st' := [.int (lg_cmp x1 67)]) rfl ?_
    by_cases hc_2 : (lg_cmp x1 67) = 0
    · have h := Eq.mp (if_pos hc_2) h
      refine st_if (t := 20) (b := false) rfl (decide_eq_false (fun z => z hc_2)) rfl ?_
      refine st_go 2 (pc' := 86) (lo' := [(0, .ref 42), (1, .long x1)]) (st' := [.int 1]) rfl ?_
      exact st_retI rfl rfl (hQ _ _ h)
    · have h := Eq.mp (if_neg hc_2) h
      refine st_if (t := 24) (b := true) rfl (decide_eq_true hc_2) rfl ?_
      refine st_go 3 (pc' := 29) (lo' := [(0, .ref 42), (1, .long x1)]) (st' := [.int (lg_cmp x1 68)]) rfl ?_
      by_cases hc_3 : (lg_cmp x1 68) = 0
      · have h := Eq.mp (if_pos hc_3) h
        refine st_if (t := 32) (b := false) rfl (decide_eq_false (fun z => z hc_3)) rfl ?_
        refine st_go 2 (pc' := 86) (lo' := [(0, .ref 42), (1, .long x1)]) (st' := [.int 2]) rfl ?_
        exact st_retI rfl rfl (hQ _ _ h)
      · have h := Eq.mp (if_neg hc_3) h
        refine st_if (t := 36) (b := true) rfl (decide_eq_true hc_3) rfl ?_
        refine st_go 3 (pc' := 41) (lo' := [(0, .ref 42), (1, .long x1)]) (st' := [.int (lg_cmp x1 69)]) rfl ?_
        by_cases hc_4 : (lg_cmp x1 69) = 0
        · have h := Eq.mp (if_pos hc_4) h
          refine st_if (t := 44) (b := false) rfl (decide_eq_false (fun z => z hc_4)) rfl ?_
          refine st_go 2 (pc' := 86) (lo' := [(0, .ref 42), (1, .long x1)]) (st' := [.int 3]) rfl ?_
          exact st_retI rfl rfl (hQ _ _ h)
        · have h := Eq.mp (if_neg hc_4) h
          refine st_if (t := 48) (b := true) rfl (decide_eq_true hc_4) rfl ?_
          refine st_go 3 (pc' := 53) (lo' := [(0, .ref 42), (1, .long x1)]) (st' := [.int (lg_cmp x1 72)]) rfl ?_
          by_cases hc_5 : (lg_cmp x1 72) = 0
          · have h := Eq.mp (if_pos hc_5) h
            refine st_if (t := 56) (b := false) rfl (decide_eq_false (fun z => z hc_5)) rfl ?_
            refine st_go 2 (pc' := 86) (lo' := [(0, .ref 42), (1, .long x1)]) (st' := [.int 4]) rfl ?_
            exact st_retI rfl rfl (hQ _ _ h)
          · have h := Eq.mp (if_neg hc_5) h
            refine st_if (t := 60) (b := true) rfl (decide_eq_true hc_5) rfl ?_
            refine st_go 3 (pc' := 65) (lo' := [(0, .ref 42), (1, .long x1)]) (st' := [.int (lg_cmp x1 76)]) rfl ?_
            by_cases hc_6 : (lg_cmp x1 76) = 0
            · have h := Eq.mp (if_pos hc_6) h
              refine st_if (t := 68) (b := false) rfl (decide_eq_false (fun z => z hc_6)) rfl ?_
              refine st_go 2 (pc' := 86) (lo' := [(0, .ref 42), (1, .long x1)]) (st' := [.int 5]) rfl ?_
              exact st_retI rfl rfl (hQ _ _ h)
            · have h := Eq.mp (if_neg hc_6) h
              refine st_if (t := 72) (b := true) rfl (decide_eq_true hc_6) rfl ?_
              refine st_go 3 (pc' := 77) (lo' := [(0, .ref 42), (1, .long x1)]) (st' := [.int (lg_cmp x1 65)]) rfl ?_
              by_cases hc_7 : (lg_cmp x1 65) = 0
              · have h := Eq.mp (if_pos hc_7) h
                refine st_if (t := 80) (b := false) rfl (decide_eq_false (fun z => z hc_7)) rfl ?_
                refine st_go 2 (pc' := 86) (lo' := [(0, .ref 42), (1, .long x1)]) (st' := [.int 7]) rfl ?_
                exact st_retI rfl rfl (hQ _ _ h)
              · have h := Eq.mp (if_neg hc_7) h
                refine st_if (t := 85) (b := true) rfl (decide_eq_true hc_7) rfl ?_
                refine st_go 1 (pc' := 86) (lo' := [(0, .ref 42), (1, .long x1)]) (st' := [.int (-1)]) rfl ?_
                exact st_retI rfl rfl (hQ _ _ h)
set_option maxRecDepth 100000 in
def MO_pair (x1 : Int64) (d : vmD) (Q : Int32 → vmD → Prop) : Prop :=
  if (lg_cmp x1 16963) = 0 then
  (Q 0 d)
  else
  (if (lg_cmp x1 17477) = 0 then
  (Q 1 d)
  else
  (if (lg_cmp x1 18508) = 0 then
  (Q 2 d)
  else
  (if (lg_cmp x1 21328) = 0 then
  (Q 3 d)
  else
  (Q (-1) d))))
set_option maxRecDepth 100000 in
set_option maxHeartbeats 4000000 in
theorem tMO_pair {L : Nat} {e : vmD} {Qo : Option Value → vmW → Prop} {Q : Int32 → vmD → Prop} (hQ : ∀ r d, Q r d → Qo (some (.int r)) (wR L d e)) (x1 : Int64) (d : vmD) (h : MO_pair x1 d Q) : vmWp 274 0 [(0, .ref 42), (1, .long x1)] [] (wR L d e) Qo := by
  unfold MO_pair at h
  refine st_go 3 (pc' := 5) (lo' := [(0, .ref 42), (1, .long x1)]) (st' := [.int (lg_cmp x1 16963)]) rfl ?_
  by_cases hc_1 : (lg_cmp x1 16963) = 0
  · have h := Eq.mp (if_pos hc_1) h
    refine st_if (t := 8) (b := false) rfl (decide_eq_false (fun z => z hc_1)) rfl ?_
    refine st_go 2 (pc' := 49) (lo' := [(0, .ref 42), (1, .long x1)]) (st' := [.int 0]) rfl ?_
    exact st_retI rfl rfl (hQ _ _ h)
  · have h := Eq.mp (if_neg hc_1) h
    refine st_if (t := 12) (b := true) rfl (decide_eq_true hc_1) rfl ?_
    refine st_go 3 (pc' := 17) (lo' := [(0, .ref 42), (1, .long x1)]) (st' := [.int (lg_cmp x1 17477)]) rfl ?_
    by_cases hc_2 : (lg_cmp x1 17477) = 0
    · have h := Eq.mp (if_pos hc_2) h
      refine st_if (t := 20) (b := false) rfl (decide_eq_false (fun z => z hc_2)) rfl ?_
      refine st_go 2 (pc' := 49) (lo' := [(0, .ref 42), (1, .long x1)]) (st' := [.int 1]) rfl ?_
      exact st_retI rfl rfl (hQ _ _ h)
    · have h := Eq.mp (if_neg hc_2) h
      refine st_if (t := 24) (b := true) rfl (decide_eq_true hc_2) rfl ?_
      refine st_go 3 (pc' := 29) (lo' := [(0, .ref 42), (1, .long x1)]) (st' := [.int (lg_cmp x1 18508)]) rfl ?_
      by_cases hc_3 : (lg_cmp x1 18508) = 0
      · have h := Eq.mp (if_pos hc_3) h
        refine st_if (t := 32) (b := false) rfl (decide_eq_false (fun z => z hc_3)) rfl ?_
        refine st_go 2 (pc' := 49) (lo' := [(0, .ref 42), (1, .long x1)]) (st' := [.int 2]) rfl ?_
        exact st_retI rfl rfl (hQ _ _ h)
      · have h := Eq.mp (if_neg hc_3) h
        refine st_if (t := 36) (b := true) rfl (decide_eq_true hc_3) rfl ?_
        refine st_go 3 (pc' := 41) (lo' := [(0, .ref 42), (1, .long x1)]) (st' := [.int (lg_cmp x1 21328)]) rfl ?_
        by_cases hc_4 : (lg_cmp x1 21328) = 0
        · have h := Eq.mp (if_pos hc_4) h
          refine st_if (t := 44) (b := false) rfl (decide_eq_false (fun z => z hc_4)) rfl ?_
          refine st_go 2 (pc' := 49) (lo' := [(0, .ref 42), (1, .long x1)]) (st' := [.int 3]) rfl ?_
          exact st_retI rfl rfl (hQ _ _ h)
        · have h := Eq.mp (if_neg hc_4) h
          refine st_if (t := 48) (b := true) rfl (decide_eq_true hc_4) rfl ?_
          refine st_go 1 (pc' := 49) (lo' := [(0, .ref 42), (1, .long x1)]) (st' := [.int (-1)]) rfl ?_
          exact st_retI rfl rfl (hQ _ _ h)
set_option maxRecDepth 100000 in
def MO_index (x1 : Int64) (d : vmD) (Q : Int32 → vmD → Prop) : Prop :=
  if (lg_cmp x1 18776) = 0 then
  (Q 1 d)
  else
  (if (lg_cmp x1 18777) = 0 then
  (Q 2 d)
  else
  (Q (-1) d))
set_option maxRecDepth 100000 in
set_option maxHeartbeats 4000000 in
theorem tMO_index {L : Nat} {e : vmD} {Qo : Option Value → vmW → Prop} {Q : Int32 → vmD → Prop} (hQ : ∀ r d, Q r d → Qo (some (.int r)) (wR L d e)) (x1 : Int64) (d : vmD) (h : MO_index x1 d Q) : vmWp 275 0 [(0, .ref 42), (1, .long x1)] [] (wR L d e) Qo := by
  unfold MO_index at h
  refine st_go 3 (pc' := 5) (lo' := [(0, .ref 42), (1, .long x1)]) (st' := [.int (lg_cmp x1 18776)]) rfl ?_
  by_cases hc_1 : (lg_cmp x1 18776) = 0
  · have h := Eq.mp (if_pos hc_1) h
    refine st_if (t := 8) (b := false) rfl (decide_eq_false (fun z => z hc_1)) rfl ?_
    refine st_go 2 (pc' := 25) (lo' := [(0, .ref 42), (1, .long x1)]) (st' := [.int 1]) rfl ?_
    exact st_retI rfl rfl (hQ _ _ h)
  · have h := Eq.mp (if_neg hc_1) h
    refine st_if (t := 12) (b := true) rfl (decide_eq_true hc_1) rfl ?_
    refine st_go 3 (pc' := 17) (lo' := [(0, .ref 42), (1, .long x1)]) (st' := [.int (lg_cmp x1 18777)]) rfl ?_
    by_cases hc_2 : (lg_cmp x1 18777) = 0
    · have h := Eq.mp (if_pos hc_2) h
      refine st_if (t := 20) (b := false) rfl (decide_eq_false (fun z => z hc_2)) rfl ?_
      refine st_go 2 (pc' := 25) (lo' := [(0, .ref 42), (1, .long x1)]) (st' := [.int 2]) rfl ?_
      exact st_retI rfl rfl (hQ _ _ h)
    · have h := Eq.mp (if_neg hc_2) h
      refine st_if (t := 24) (b := true) rfl (decide_eq_true hc_2) rfl ?_
      refine st_go 1 (pc' := 25) (lo' := [(0, .ref 42), (1, .long x1)]) (st' := [.int (-1)]) rfl ?_
      exact st_retI rfl rfl (hQ _ _ h)
set_option maxRecDepth 100000 in
def MO_condition (x1 : Int64) (d : vmD) (Q : Int32 → vmD → Prop) : Prop :=
  if (lg_cmp x1 20058) = 0 then
  (Q 0 d)
  else
  (if (lg_cmp x1 90) = 0 then
  (Q 1 d)
  else
  (if (lg_cmp x1 20035) = 0 then
  (Q 2 d)
  else
  (if (lg_cmp x1 67) = 0 then
  (Q 3 d)
  else
  (if (lg_cmp x1 20559) = 0 then
  (Q 4 d)
  else
  (if (lg_cmp x1 20549) = 0 then
  (Q 5 d)
  else
  (if (lg_cmp x1 80) = 0 then
  (Q 6 d)
  else
  (if (lg_cmp x1 77) = 0 then
  (Q 7 d)
  else
  (Q (-1) d))))))))
set_option maxRecDepth 100000 in
set_option maxHeartbeats 4000000 in
theorem tMO_condition {L : Nat} {e : vmD} {Qo : Option Value → vmW → Prop} {Q : Int32 → vmD → Prop} (hQ : ∀ r d, Q r d → Qo (some (.int r)) (wR L d e)) (x1 : Int64) (d : vmD) (h : MO_condition x1 d Q) : vmWp 276 0 [(0, .ref 42), (1, .long x1)] [] (wR L d e) Qo := by
  unfold MO_condition at h
  refine st_go 3 (pc' := 5) (lo' := [(0, .ref 42), (1, .long x1)]) (st' := [.int (lg_cmp x1 20058)]) rfl ?_
  by_cases hc_1 : (lg_cmp x1 20058) = 0
  · have h := Eq.mp (if_pos hc_1) h
    refine st_if (t := 8) (b := false) rfl (decide_eq_false (fun z => z hc_1)) rfl ?_
    refine st_go 2 (pc' := 99) (lo' := [(0, .ref 42), (1, .long x1)]) (st' := [.int 0]) rfl ?_
    exact st_retI rfl rfl (hQ _ _ h)
  · have h := Eq.mp (if_neg hc_1) h
    refine st_if (t := 12) (b := true) rfl (decide_eq_true hc_1) rfl ?_
    refine st_go 3 (pc' := 17) (lo' := [(0, .ref 42), (1, .long x1)]) (st' := [.int (lg_cmp x1 90)]) rfl ?_
    by_cases hc_2 : (lg_cmp x1 90) = 0
    · have h := Eq.mp (if_pos hc_2) h
      refine st_if (t := 20) (b := false) rfl (decide_eq_false (fun z => z hc_2)) rfl ?_
      refine st_go 2 (pc' := 99) (lo' := [(0, .ref 42), (1, .long x1)]) (st' := [.int 1]) rfl ?_
      exact st_retI rfl rfl (hQ _ _ h)
    · have h := Eq.mp (if_neg hc_2) h
      refine st_if (t := 24) (b := true) rfl (decide_eq_true hc_2) rfl ?_
      refine st_go 3 (pc' := 29) (lo' := [(0, .ref 42), (1, .long x1)]) (st' := [.int (lg_cmp x1 20035)]) rfl ?_
      by_cases hc_3 : (lg_cmp x1 20035) = 0
      · have h := Eq.mp (if_pos hc_3) h
        refine st_if (t := 32) (b := false) rfl (decide_eq_false (fun z => z hc_3)) rfl ?_
        refine st_go 2 (pc' := 99) (lo' := [(0, .ref 42), (1, .long x1)]) (st' := [.int 2]) rfl ?_
        exact st_retI rfl rfl (hQ _ _ h)
      · have h := Eq.mp (if_neg hc_3) h
        refine st_if (t := 36) (b := true) rfl (decide_eq_true hc_3) rfl ?_
        refine st_go 3 (pc' := 41) (lo' := [(0, .ref 42), (1, .long x1)]) (st' := [.int (lg_cmp x1 67)]) rfl ?_
        by_cases hc_4 : (lg_cmp x1 67) = 0
        · have h := Eq.mp (if_pos hc_4) h
          refine st_if (t := 44) (b := false) rfl (decide_eq_false (fun z => z hc_4)) rfl ?_
          refine st_go 2 (pc' := 99) (lo' := [(0, .ref 42), (1, .long x1)]) (st' := [.int 3]) rfl ?_
          exact st_retI rfl rfl (hQ _ _ h)
        · have h := Eq.mp (if_neg hc_4) h
          refine st_if (t := 48) (b := true) rfl (decide_eq_true hc_4) rfl ?_
          refine st_go 3 (pc' := 53) (lo' := [(0, .ref 42), (1, .long x1)]) (st' := [.int (lg_cmp x1 20559)]) rfl ?_
          by_cases hc_5 : (lg_cmp x1 20559) = 0
          · have h := Eq.mp (if_pos hc_5) h
            refine st_if (t := 56) (b := false) rfl (decide_eq_false (fun z => z hc_5)) rfl ?_
            refine st_go 2 (pc' := 99) (lo' := [(0, .ref 42), (1, .long x1)]) (st' := [.int 4]) rfl ?_
            exact st_retI rfl rfl (hQ _ _ h)
          · have h := Eq.mp (if_neg hc_5) h
            refine st_if (t := 60) (b := true) rfl (decide_eq_true hc_5) rfl ?_
            refine st_go 3 (pc' := 65) (lo' := [(0, .ref 42), (1, .long x1)]) (st' := [.int (lg_cmp x1 20549)]) rfl ?_
            by_cases hc_6 : (lg_cmp x1 20549) = 0
            · have h := Eq.mp (if_pos hc_6) h
              refine st_if (t := 68) (b := false) rfl (decide_eq_false (fun z => z hc_6)) rfl ?_
              refine st_go 2 (pc' := 99) (lo' := [(0, .ref 42), (1, .long x1)]) (st' := [.int 5]) rfl ?_
              exact st_retI rfl rfl (hQ _ _ h)
            · have h := Eq.mp (if_neg hc_6) h
              refine st_if (t := 72) (b := true) rfl (decide_eq_true hc_6) rfl ?_
              refine st_go 3 (pc' := 77) (lo' := [(0, .ref 42), (1, .long x1)]) (st' := [.int (lg_cmp x1 80)]) rfl ?_
              by_cases hc_7 : (lg_cmp x1 80) = 0
              · have h := Eq.mp (if_pos hc_7) h
                refine st_if (t := 80) (b := false) rfl (decide_eq_false (fun z => z hc_7)) rfl ?_
                refine st_go 2 (pc' := 99) (lo' := [(0, .ref 42), (1, .long x1)]) (st' := [.int 6]) rfl ?_
                exact st_retI rfl rfl (hQ _ _ h)
              · have h := Eq.mp (if_neg hc_7) h
                refine st_if (t := 85) (b := true) rfl (decide_eq_true hc_7) rfl ?_
                refine st_go 3 (pc' := 90) (lo' := [(0, .ref 42), (1, .long x1)]) (st' := [.int (lg_cmp x1 77)]) rfl ?_
                by_cases hc_8 : (lg_cmp x1 77) = 0
                · have h := Eq.mp (if_pos hc_8) h
                  refine st_if (t := 93) (b := false) rfl (decide_eq_false (fun z => z hc_8)) rfl ?_
                  refine st_go 2 (pc' := 99) (lo' := [(0, .ref 42), (1, .long x1)]) (st' := [.int 7]) rfl ?_
                  exact st_retI rfl rfl (hQ _ _ h)
                · have h := Eq.mp (if_neg hc_8) h
                  refine st_if (t := 98) (b := true) rfl (decide_eq_true hc_8) rfl ?_
                  refine st_go 1 (pc' := 99) (lo' := [(0, .ref 42), (1, .long x1)]) (st' := [.int (-1)]) rfl ?_
                  exact st_retI rfl rfl (hQ _ _ h)
set_option maxRecDepth 100000 in
def MO_setRegister_161 (s0 : Int32) (s1 : Int32) (d : vmD) (Q : vmD → Prop) : Prop :=
  ixOk s1 8 ∧
  bnd (sA d 50 s1.toNatClampNeg s0) fun d_15 =>
  Q d_15
set_option maxRecDepth 100000 in
set_option maxHeartbeats 4000000 in
theorem tMO_setRegister_161 {L : Nat} {e : vmD} {Qo : Option Value → vmW → Prop} {Q : vmD → Prop} (hQ : ∀ d, Q d → Qo none (wR L d e)) (s0 : Int32) (s1 : Int32) (d : vmD) (h : MO_setRegister_161 s0 s1 d Q) : vmWp 280 161 [] [.int s0, .int s1, .ref 50] (wR L d e) Qo := by
  unfold MO_setRegister_161 at h
  obtain ⟨hj_14, h⟩ := h
  refine st_iastR (o := 50) rfl rfl hj_14 rfl (fun d_15 hy_d_15 => ?_)
  have h := h d_15 hy_d_15
  exact st_retV rfl rfl (hQ _ h)
set_option maxRecDepth 100000 in
def MO_setRegister (x1 : Int32) (x2 : Int64) (d : vmD) (Q : vmD → Prop) : Prop :=
  MO_register8 x2 d fun r_2 d_1 =>
  if r_2 < 0 then
  (MO_pair x2 d_1 fun r_5 d_4 =>
  if r_5 < 0 then
  (MO_index x2 d_4 fun r_8 d_7 =>
  if r_8 < 0 then
  (MO_condition x2 d_7 fun r_11 d_10 =>
  if r_11 < 0 then
  (if (lg_cmp x2 16710) = 0 then
  (MO_setRegister_161 3 x1 d_10 Q)
  else
  (if (lg_cmp x2 4277799) = 0 then
  (MO_setRegister_161 4 x1 d_10 Q)
  else
  (if (lg_cmp x2 73) = 0 then
  (MO_setRegister_161 6 x1 d_10 Q)
  else
  (MO_setRegister_161 7 x1 d_10 Q))))
  else
  (ixOk x1 8 ∧
  bnd (sA d_10 50 x1.toNatClampNeg (8 : Int32)) fun d_19 =>
  MO_condition x2 d_19 fun r_21 d_20 =>
  ixOk x1 8 ∧
  bnd (sA d_20 51 x1.toNatClampNeg r_21) fun d_23 =>
  Q d_23))
  else
  (ixOk x1 8 ∧
  bnd (sA d_7 50 x1.toNatClampNeg (5 : Int32)) fun d_25 =>
  MO_index x2 d_25 fun r_27 d_26 =>
  ixOk x1 8 ∧
  bnd (sA d_26 51 x1.toNatClampNeg r_27) fun d_29 =>
  Q d_29))
  else
  (ixOk x1 8 ∧
  bnd (sA d_4 50 x1.toNatClampNeg (2 : Int32)) fun d_31 =>
  MO_pair x2 d_31 fun r_33 d_32 =>
  ixOk x1 8 ∧
  bnd (sA d_32 51 x1.toNatClampNeg r_33) fun d_35 =>
  Q d_35))
  else
  (ixOk x1 8 ∧
  bnd (sA d_1 50 x1.toNatClampNeg (1 : Int32)) fun d_37 =>
  MO_register8 x2 d_37 fun r_39 d_38 =>
  ixOk x1 8 ∧
  bnd (sA d_38 51 x1.toNatClampNeg r_39) fun d_41 =>
  Q d_41)
set_option maxRecDepth 100000 in
set_option maxHeartbeats 4000000 in
theorem tMO_setRegister {L : Nat} {e : vmD} {Qo : Option Value → vmW → Prop} {Q : vmD → Prop} (hQ : ∀ d, Q d → Qo none (wR L d e)) (x1 : Int32) (x2 : Int64) (d : vmD) (h : MO_setRegister x1 x2 d Q) : vmWp 280 0 [(0, .ref 42), (1, .int x1), (2, .long x2)] [] (wR L d e) Qo := by
  unfold MO_setRegister at h
  refine st_go 2 (pc' := 2) (lo' := [(0, .ref 42), (1, .int x1), (2, .long x2)]) (st' := [.long x2, .ref 42]) rfl ?_
  refine st_calli (k' := 273) (as := [.ref 42, .long x2]) (rest := []) (lo' := [(0, .ref 42), (1, .long x2)]) (wf := fun d => wR L d e) rfl rfl rfl ?_
  refine tMO_register8 (fun r_2 d_1 h => ⟨r_2, d_1, rfl, rfl, ?_⟩) x2 d h
  by_cases hc_3 : r_2 < 0
  · have h := Eq.mp (if_pos hc_3) h
    refine st_if (t := 29) (b := true) rfl (decide_eq_true hc_3) rfl ?_
    refine st_go 2 (pc' := 31) (lo' := [(0, .ref 42), (1, .int x1), (2, .long x2)]) (st' := [.long x2, .ref 42]) rfl ?_
    refine st_calli (k' := 274) (as := [.ref 42, .long x2]) (rest := []) (lo' := [(0, .ref 42), (1, .long x2)]) (wf := fun d => wR L d e) rfl rfl rfl ?_
    refine tMO_pair (fun r_5 d_4 h => ⟨r_5, d_4, rfl, rfl, ?_⟩) x2 d_1 h
    by_cases hc_6 : r_5 < 0
    · have h := Eq.mp (if_pos hc_6) h
      refine st_if (t := 58) (b := true) rfl (decide_eq_true hc_6) rfl ?_
      refine st_go 2 (pc' := 60) (lo' := [(0, .ref 42), (1, .int x1), (2, .long x2)]) (st' := [.long x2, .ref 42]) rfl ?_
      refine st_calli (k' := 275) (as := [.ref 42, .long x2]) (rest := []) (lo' := [(0, .ref 42), (1, .long x2)]) (wf := fun d => wR L d e) rfl rfl rfl ?_
      refine tMO_index (fun r_8 d_7 h => ⟨r_8, d_7, rfl, rfl, ?_⟩) x2 d_4 h
      by_cases hc_9 : r_8 < 0
      · have h := Eq.mp (if_pos hc_9) h
        refine st_if (t := 87) (b := true) rfl (decide_eq_true hc_9) rfl ?_
        refine st_go 2 (pc' := 89) (lo' := [(0, .ref 42), (1, .int x1), (2, .long x2)]) (st' := [.long x2, .ref 42]) rfl ?_
        refine st_calli (k' := 276) (as := [.ref 42, .long x2]) (rest := []) (lo' := [(0, .ref 42), (1, .long x2)]) (wf := fun d => wR L d e) rfl rfl rfl ?_
        refine tMO_condition (fun r_11 d_10 h => ⟨r_11, d_10, rfl, rfl, ?_⟩) x2 d_7 h
        by_cases hc_12 : r_11 < 0
        · have h := Eq.mp (if_pos hc_12) h
          refine st_if (t := 117) (b := true) rfl (decide_eq_true hc_12) rfl ?_
          refine st_go 6 (pc' := 127) (lo' := [(0, .ref 42), (1, .int x1), (2, .long x2)]) (st' := [.int (lg_cmp x2 16710), .int x1, .ref 50]) rfl ?_
          by_cases hc_13 : (lg_cmp x2 16710) = 0
          · have h := Eq.mp (if_pos hc_13) h
            refine st_if (t := 130) (b := false) rfl (decide_eq_false (fun z => z hc_13)) rfl ?_
            refine st_go 2 (pc' := 161) (lo' := [(0, .ref 42), (1, .int x1), (2, .long x2)]) (st' := [.int 3, .int x1, .ref 50]) rfl ?_
            refine vmWp.sub (lo' := []) trivial ?_
            exact tMO_setRegister_161 hQ 3 x1 d_10 h
          · have h := Eq.mp (if_neg hc_13) h
            refine st_if (t := 134) (b := true) rfl (decide_eq_true hc_13) rfl ?_
            refine st_go 3 (pc' := 139) (lo' := [(0, .ref 42), (1, .int x1), (2, .long x2)]) (st' := [.int (lg_cmp x2 4277799), .int x1, .ref 50]) rfl ?_
            by_cases hc_16 : (lg_cmp x2 4277799) = 0
            · have h := Eq.mp (if_pos hc_16) h
              refine st_if (t := 142) (b := false) rfl (decide_eq_false (fun z => z hc_16)) rfl ?_
              refine st_go 2 (pc' := 161) (lo' := [(0, .ref 42), (1, .int x1), (2, .long x2)]) (st' := [.int 4, .int x1, .ref 50]) rfl ?_
              refine vmWp.sub (lo' := []) trivial ?_
              exact tMO_setRegister_161 hQ 4 x1 d_10 h
            · have h := Eq.mp (if_neg hc_16) h
              refine st_if (t := 146) (b := true) rfl (decide_eq_true hc_16) rfl ?_
              refine st_go 3 (pc' := 151) (lo' := [(0, .ref 42), (1, .int x1), (2, .long x2)]) (st' := [.int (lg_cmp x2 73), .int x1, .ref 50]) rfl ?_
              by_cases hc_17 : (lg_cmp x2 73) = 0
              · have h := Eq.mp (if_pos hc_17) h
                refine st_if (t := 154) (b := false) rfl (decide_eq_false (fun z => z hc_17)) rfl ?_
                refine st_go 2 (pc' := 161) (lo' := [(0, .ref 42), (1, .int x1), (2, .long x2)]) (st' := [.int 6, .int x1, .ref 50]) rfl ?_
                refine vmWp.sub (lo' := []) trivial ?_
                exact tMO_setRegister_161 hQ 6 x1 d_10 h
              · have h := Eq.mp (if_neg hc_17) h
                refine st_if (t := 159) (b := true) rfl (decide_eq_true hc_17) rfl ?_
                refine st_go 1 (pc' := 161) (lo' := [(0, .ref 42), (1, .int x1), (2, .long x2)]) (st' := [.int 7, .int x1, .ref 50]) rfl ?_
                refine vmWp.sub (lo' := []) trivial ?_
                exact tMO_setRegister_161 hQ 7 x1 d_10 h
        · have h := Eq.mp (if_neg hc_12) h
          refine st_if (t := 95) (b := false) rfl (decide_eq_false hc_12) rfl ?_
          refine st_go 4 (pc' := 102) (lo' := [(0, .ref 42), (1, .int x1), (2, .long x2)]) (st' := [.int 8, .int x1, .ref 50]) rfl ?_
          obtain ⟨hj_18, h⟩ := h
          refine st_iastR (o := 50) rfl rfl hj_18 rfl (fun d_19 hy_d_19 => ?_)
          have h := h d_19 hy_d_19
          refine st_go 5 (pc' := 110) (lo' := [(0, .ref 42), (1, .int x1), (2, .long x2)]) (st' := [.long x2, .ref 42, .int x1, .ref 51]) rfl ?_
          refine st_calli (k' := 276) (as := [.ref 42, .long x2]) (rest := [.int x1, .ref 51]) (lo' := [(0, .ref 42), (1, .long x2)]) (wf := fun d => wR L d e) rfl rfl rfl ?_
          refine tMO_condition (fun r_21 d_20 h => ⟨r_21, d_20, rfl, rfl, ?_⟩) x2 d_19 h
          obtain ⟨hj_22, h⟩ := h
          refine st_iastR (o := 51) rfl rfl hj_22 rfl (fun d_23 hy_d_23 => ?_)
          have h := h d_23 hy_d_23
          refine st_go 1 (pc' := 162) (lo' := [(0, .ref 42), (1, .int x1), (2, .long x2)]) (st' := []) rfl ?_
          exact st_retV rfl rfl (hQ _ h)
      · have h := Eq.mp (if_neg hc_9) h
        refine st_if (t := 66) (b := false) rfl (decide_eq_false hc_9) rfl ?_
        refine st_go 4 (pc' := 72) (lo' := [(0, .ref 42), (1, .int x1), (2, .long x2)]) (st' := [.int 5, .int x1, .ref 50]) rfl ?_
        obtain ⟨hj_24, h⟩ := h
        refine st_iastR (o := 50) rfl rfl hj_24 rfl (fun d_25 hy_d_25 => ?_)
        have h := h d_25 hy_d_25
        refine st_go 5 (pc' := 80) (lo' := [(0, .ref 42), (1, .int x1), (2, .long x2)]) (st' := [.long x2, .ref 42, .int x1, .ref 51]) rfl ?_
        refine st_calli (k' := 275) (as := [.ref 42, .long x2]) (rest := [.int x1, .ref 51]) (lo' := [(0, .ref 42), (1, .long x2)]) (wf := fun d => wR L d e) rfl rfl rfl ?_
        refine tMO_index (fun r_27 d_26 h => ⟨r_27, d_26, rfl, rfl, ?_⟩) x2 d_25 h
        obtain ⟨hj_28, h⟩ := h
        refine st_iastR (o := 51) rfl rfl hj_28 rfl (fun d_29 hy_d_29 => ?_)
        have h := h d_29 hy_d_29
        refine st_go 1 (pc' := 162) (lo' := [(0, .ref 42), (1, .int x1), (2, .long x2)]) (st' := []) rfl ?_
        exact st_retV rfl rfl (hQ _ h)
    · have h := Eq.mp (if_neg hc_6) h
      refine st_if (t := 37) (b := false) rfl (decide_eq_false hc_6) rfl ?_
      refine st_go 4 (pc' := 43) (lo' := [(0, .ref 42), (1, .int x1), (2, .long x2)]) (st' := [.int 2, .int x1, .ref 50]) rfl ?_
      obtain ⟨hj_30, h⟩ := h
      refine st_iastR (o := 50) rfl rfl hj_30 rfl (fun d_31 hy_d_31 => ?_)
      have h := h d_31 hy_d_31
      refine st_go 5 (pc' := 51) (lo' := [(0, .ref 42), (1, .int x1), (2, .long x2)]) (st' := [.long x2, .ref 42, .int x1, .ref 51]) rfl ?_
      refine st_calli (k' := 274) (as := [.ref 42, .long x2]) (rest := [.int x1, .ref 51]) (lo' := [(0, .ref 42), (1, .long x2)]) (wf := fun d => wR L d e) rfl rfl rfl ?_
      refine tMO_pair (fun r_33 d_32 h => ⟨r_33, d_32, rfl, rfl, ?_⟩) x2 d_31 h
      obtain ⟨hj_34, h⟩ := h
      refine st_iastR (o := 51) rfl rfl hj_34 rfl (fun d_35 hy_d_35 => ?_)
      have h := h d_35 hy_d_35
      refine st_go 1 (pc' := 162) (lo' := [(0, .ref 42), (1, .int x1), (2, .long x2)]) (st' := []) rfl ?_
      exact st_retV rfl rfl (hQ _ h)
  · have h := Eq.mp (if_neg hc_3) h
    refine st_if (t := 8) (b := false) rfl (decide_eq_false hc_3) rfl ?_
    refine st_go 4 (pc' := 14) (lo' := [(0, .ref 42), (1, .int x1), (2, .long x2)]) (st' := [.int 1, .int x1, .ref 50]) rfl ?_
    obtain ⟨hj_36, h⟩ := h
    refine st_iastR (o := 50) rfl rfl hj_36 rfl (fun d_37 hy_d_37 => ?_)
    have h := h d_37 hy_d_37
    refine st_go 5 (pc' := 22) (lo' := [(0, .ref 42), (1, .int x1), (2, .long x2)]) (st' := [.long x2, .ref 42, .int x1, .ref 51]) rfl ?_
    refine st_calli (k' := 273) (as := [.ref 42, .long x2]) (rest := [.int x1, .ref 51]) (lo' := [(0, .ref 42), (1, .long x2)]) (wf := fun d => wR L d e) rfl rfl rfl ?_
    refine tMO_register8 (fun r_39 d_38 h => ⟨r_39, d_38, rfl, rfl, ?_⟩) x2 d_37 h
    obtain ⟨hj_40, h⟩ := h
    refine st_iastR (o := 51) rfl rfl hj_40 rfl (fun d_41 hy_d_41 => ?_)
    have h := h d_41 hy_d_41
    refine st_go 1 (pc' := 162) (lo' := [(0, .ref 42), (1, .int x1), (2, .long x2)]) (st' := []) rfl ?_
    exact st_retV rfl rfl (hQ _ h)
