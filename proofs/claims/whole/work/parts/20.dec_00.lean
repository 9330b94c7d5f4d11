/-! The decompiled program, 4.0 -/
set_option maxRecDepth 100000 in
def Text_empty_src (d : vmD) (Q : vmD → Prop) : Prop :=
  bnd (sF d 9 1 0) fun d_1 =>
  Q d_1
set_option maxRecDepth 100000 in
set_option maxHeartbeats 4000000 in
theorem tText_empty_src {L : Nat} {e : vmD} {Qo : Option Value → vmW → Prop} {Q : vmD → Prop} (hQ : ∀ d, Q d → Qo none (wC L d e)) (d : vmD) (h : Text_empty_src d Q) : vmWp 189 0 [(0, .ref 9)] [] (wC L d e) Qo := by
  unfold Text_empty_src at h
  refine st_go 2 (pc' := 2) (lo' := [(0, .ref 9)]) (st' := [.int 0, .ref 9]) rfl ?_
  refine st_putIC (o := 9) (f := 1) rfl rfl rfl rfl rfl (fun d_1 hy_d_1 => ?_)
  have h := h d_1 hy_d_1
  exact st_retV rfl rfl (hQ _ h)
set_option maxRecDepth 100000 in
def Text_length_src (d : vmD) (Q : Int32 → vmD → Prop) : Prop :=
  Q (gF d 9 1) d
set_option maxRecDepth 100000 in
set_option maxHeartbeats 4000000 in
theorem tText_length_src {L : Nat} {e : vmD} {Qo : Option Value → vmW → Prop} {Q : Int32 → vmD → Prop} (hQ : ∀ r d, Q r d → Qo (some (.int r)) (wC L d e)) (d : vmD) (h : Text_length_src d Q) : vmWp 190 0 [(0, .ref 9)] [] (wC L d e) Qo := by
  unfold Text_length_src at h
  refine st_go 2 (pc' := 4) (lo' := [(0, .ref 9)]) (st' := [.int (gF d 9 1)]) rfl ?_
  exact st_retI rfl rfl (hQ _ _ h)
set_option maxRecDepth 100000 in
def Text_add_src (x1 : Int32) (d : vmD) (Q : vmD → Prop) : Prop :=
  if (gF d 9 1) < 0 then
  (Q d)
  else
  (if (gF d 9 1) < 6000 then
  (ixOk (gF d 9 1) 6000 ∧
  bnd (sA d 10 (gF d 9 1).toNatClampNeg ((Int8.toInt32 (Int32.toInt8 x1)).toInt8.toInt32)) fun d_4 =>
  bnd (sF d_4 9 1 ((gF d_4 9 1) + 1)) fun d_5 =>
  Q d_5)
  else
  (Q d))
set_option maxRecDepth 100000 in
set_option maxHeartbeats 4000000 in
theorem tText_add_src {L : Nat} {e : vmD} {Qo : Option Value → vmW → Prop} {Q : vmD → Prop} (hQ : ∀ d, Q d → Qo none (wC L d e)) (x1 : Int32) (d : vmD) (h : Text_add_src x1 d Q) : vmWp 192 0 [(0, .ref 9), (1, .int x1)] [] (wC L d e) Qo := by
  unfold Text_add_src at h
  refine st_go 2 (pc' := 4) (lo' := [(0, .ref 9), (1, .int x1)]) (st' := [.int (gF d 9 1)]) rfl ?_
  by_cases hc_1 : (gF d 9 1) < 0
  · have h := Eq.mp (if_pos hc_1) h
    refine st_if (t := 40) (b := true) rfl (decide_eq_true hc_1) rfl ?_
    exact st_retV rfl rfl (hQ _ h)
  · have h := Eq.mp (if_neg hc_1) h
    refine st_if (t := 7) (b := false) rfl (decide_eq_false hc_1) rfl ?_
    refine st_go 5 (pc' := 16) (lo' := [(0, .ref 9), (1, .int x1)]) (st' := [.int 6000, .int (gF d 9 1)]) rfl ?_
    by_cases hc_2 : (gF d 9 1) < 6000
    · have h := Eq.mp (if_pos hc_2) h
      refine st_icmp (t := 19) (b := false) rfl (decide_eq_false (Int32.not_le.mpr hc_2)) rfl ?_
      refine st_go 6 (pc' := 29) (lo' := [(0, .ref 9), (1, .int x1)]) (st' := [.int (Int8.toInt32 (Int32.toInt8 x1)), .int (gF d 9 1), .ref 10]) rfl ?_
      obtain ⟨hj_3, h⟩ := h
      refine st_bastC (o := 10) rfl rfl hj_3 rfl (fun d_4 hy_d_4 => ?_)
      have h := h d_4 hy_d_4
      refine st_go 5 (pc' := 37) (lo' := [(0, .ref 9), (1, .int x1)]) (st' := [.int ((gF d_4 9 1) + 1), .ref 9]) rfl ?_
      refine st_putIC (o := 9) (f := 1) rfl rfl rfl rfl rfl (fun d_5 hy_d_5 => ?_)
      have h := h d_5 hy_d_5
      exact st_retV rfl rfl (hQ _ h)
    · have h := Eq.mp (if_neg hc_2) h
      refine st_icmp (t := 40) (b := true) rfl (decide_eq_true (Int32.not_lt.mp hc_2)) rfl ?_
      exact st_retV rfl rfl (hQ _ h)
set_option maxRecDepth 100000 in
def OF_feed_49 (Q : Int32 → vmD → Prop) : Nat → Int64 → Int32 → vmD → Prop
  | 0, _, _, _ => False
  | n + 1, x1, x4, d => if x4 < 0 then
  (Text_length_src d fun r_11 d_10 =>
  Q r_11 d_10)
  else
  (Text_add_src ((Int64.toInt32 (x1 >>> ((Int32.toInt64 ((8 : Int32) * x4)) &&& 63))) &&& 255) d fun d_12 =>
  bnd (x4 + (-1)) fun x4_13 =>
  (OF_feed_49 Q n) x1 x4_13 d_12)
set_option maxRecDepth 100000 in
set_option maxHeartbeats 4000000 in
theorem tOF_feed_49 {L : Nat} {e : vmD} {Qo : Option Value → vmW → Prop} {Q : Int32 → vmD → Prop} (hQ : ∀ r d, Q r d → Qo (some (.int r)) (wC L d e)) : ∀ (n : Nat) (x1 : Int64) (x4 : Int32) (d : vmD), OF_feed_49 Q n x1 x4 d → vmWp 222 49 [(0, .ref 0), (1, .long x1), (4, .int x4)] [] (wC L d e) Qo := by
  intro n
  induction n with
  | zero => intro x1 x4 d h; exact h.elim
  | succ n ih =>
    intro x1 x4 d h
    unfold OF_feed_49 at h
    refine st_go 1 (pc' := 51) (lo' := [(0, .ref 0), (1, .long x1), (4, .int x4)]) (st' := [.int x4]) rfl ?_
    by_cases hc_9 : x4 < 0
    · have h := Eq.mp (if_pos hc_9) h
      refine st_if (t := 79) (b := true) rfl (decide_eq_true hc_9) rfl ?_
      refine st_go 2 (pc' := 83) (lo' := [(0, .ref 0), (1, .long x1), (4, .int x4)]) (st' := [.ref 9]) rfl ?_
      refine st_calli (k' := 190) (as := [.ref 9]) (rest := []) (lo' := [(0, .ref 9)]) (wf := fun d => wC L d e) rfl rfl rfl ?_
      refine tText_length_src (fun r_11 d_10 h => ⟨r_11, d_10, rfl, rfl, ?_⟩) d h
      exact st_retI rfl rfl (hQ _ _ h)
    · have h := Eq.mp (if_neg hc_9) h
      refine st_if (t := 54) (b := false) rfl (decide_eq_false hc_9) rfl ?_
      refine st_go 10 (pc' := 70) (lo' := [(0, .ref 0), (1, .long x1), (4, .int x4)]) (st' := [.int ((Int64.toInt32 (x1 >>> ((Int32.toInt64 ((8 : Int32) * x4)) &&& 63))) &&& 255), .ref 9]) rfl ?_
      refine st_callv (k' := 192) (as := [.ref 9, .int ((Int64.toInt32 (x1 >>> ((Int32.toInt64 ((8 : Int32) * x4)) &&& 63))) &&& 255)]) (rest := []) (lo' := [(0, .ref 9), (1, .int ((Int64.toInt32 (x1 >>> ((Int32.toInt64 ((8 : Int32) * x4)) &&& 63))) &&& 255))]) (wf := fun d => wC L d e) rfl rfl rfl ?_
      refine tText_add_src (fun d_12 h => ⟨d_12, rfl, rfl, ?_⟩) ((Int64.toInt32 (x1 >>> ((Int32.toInt64 ((8 : Int32) * x4)) &&& 63))) &&& 255) d h
      refine st_go 1 (pc' := 76) (lo' := [(4, .int (x4 + (-1))), (0, .ref 0), (1, .long x1)]) (st' := []) rfl ?_
      refine st_locI (fun x4_13 hy_x4_13 => ?_)
      have h := h x4_13 hy_x4_13
      refine st_go 1 (pc' := 49) (lo' := [(4, .int x4_13), (0, .ref 0), (1, .long x1)]) (st' := []) rfl ?_
      refine vmWp.sub (lo' := [(0, .ref 0), (1, .long x1), (4, .int x4_13)]) ⟨rfl, rfl, rfl, trivial⟩ ?_
      exact ih x1 x4_13 d_12 h
set_option maxRecDepth 100000 in
def OF_feed (x1 : Int64) (x3 : Int32) (d : vmD) (Q : Int32 → vmD → Prop) : Prop :=
  if x3 < 0 then
  (Q (-2) d)
  else
  (if (8 : Int32) < x3 then
  (Q (-2) d)
  else
  (if x3 = 0 then
  (Text_empty_src d fun d_4 =>
  Q 0 d_4)
  else
  (Text_length_src d fun r_6 d_5 =>
  if (6000 : Int32) < (r_6 + x3) then
  (Q (-4) d_5)
  else
  (bnd (x3 - 1) fun x4_8 =>
  ∃ m49, OF_feed_49 Q m49 x1 x4_8 d_5))))
set_option maxRecDepth 100000 in
set_option maxHeartbeats 4000000 in
theorem tOF_feed {L : Nat} {e : vmD} {Qo : Option Value → vmW → Prop} {Q : Int32 → vmD → Prop} (hQ : ∀ r d, Q r d → Qo (some (.int r)) (wC L d e)) (x1 : Int64) (x3 : Int32) (d : vmD) (h : OF_feed x1 x3 d Q) : vmWp 222 0 [(0, .ref 0), (1, .long x1), (3, .int x3)] [] (wC L d e) Qo := by
  unfold OF_feed at h
  refine st_go 1 (pc' := 1) (lo' := [(0, .ref 0), (1, .long x1), (3, .int x3)]) (st' := [.int x3]) rfl ?_
  by_cases hc_1 : x3 < 0
  · have h := Eq.mp (if_pos hc_1) h
    refine st_if (t := 10) (b := true) rfl (decide_eq_true hc_1) rfl ?_
    refine st_go 1 (pc' := 12) (lo' := [(0, .ref 0), (1, .long x1), (3, .int x3)]) (st' := [.int (-2)]) rfl ?_
    exact st_retI rfl rfl (hQ _ _ h)
  · have h := Eq.mp (if_neg hc_1) h
    refine st_if (t := 4) (b := false) rfl (decide_eq_false hc_1) rfl ?_
    refine st_go 2 (pc' := 7) (lo' := [(0, .ref 0), (1, .long x1), (3, .int x3)]) (st' := [.int 8, .int x3]) rfl ?_
    by_cases hc_2 : (8 : Int32) < x3
    · have h := Eq.mp (if_pos hc_2) h
      refine st_icmp (t := 10) (b := false) rfl (decide_eq_false (Int32.not_le.mpr hc_2)) rfl ?_
      refine st_go 1 (pc' := 12) (lo' := [(0, .ref 0), (1, .long x1), (3, .int x3)]) (st' := [.int (-2)]) rfl ?_
      exact st_retI rfl rfl (hQ _ _ h)
    · have h := Eq.mp (if_neg hc_2) h
      refine st_icmp (t := 13) (b := true) rfl (decide_eq_true (Int32.not_lt.mp hc_2)) rfl ?_
      refine st_go 1 (pc' := 14) (lo' := [(0, .ref 0), (1, .long x1), (3, .int x3)]) (st' := [.int x3]) rfl ?_
      by_cases hc_3 : x3 = 0
      · have h := Eq.mp (if_pos hc_3) h
        refine st_if (t := 17) (b := false) rfl (decide_eq_false (fun z => z hc_3)) rfl ?_
        refine st_go 2 (pc' := 21) (lo' := [(0, .ref 0), (1, .long x1), (3, .int x3)]) (st' := [.ref 9]) rfl ?_
        refine st_callv (k' := 189) (as := [.ref 9]) (rest := []) (lo' := [(0, .ref 9)]) (wf := fun d => wC L d e) rfl rfl rfl ?_
        refine tText_empty_src (fun d_4 h => ⟨d_4, rfl, rfl, ?_⟩) d h
        refine st_go 1 (pc' := 25) (lo' := [(0, .ref 0), (1, .long x1), (3, .int x3)]) (st' := [.int 0]) rfl ?_
        exact st_retI rfl rfl (hQ _ _ h)
      · have h := Eq.mp (if_neg hc_3) h
        refine st_if (t := 26) (b := true) rfl (decide_eq_true hc_3) rfl ?_
        refine st_go 2 (pc' := 30) (lo' := [(0, .ref 0), (1, .long x1), (3, .int x3)]) (st' := [.ref 9]) rfl ?_
        refine st_calli (k' := 190) (as := [.ref 9]) (rest := []) (lo' := [(0, .ref 9)]) (wf := fun d => wC L d e) rfl rfl rfl ?_
        refine tText_length_src (fun r_6 d_5 h => ⟨r_6, d_5, rfl, rfl, ?_⟩) d h
        refine st_go 3 (pc' := 38) (lo' := [(0, .ref 0), (1, .long x1), (3, .int x3)]) (st' := [.int 6000, .int (r_6 + x3)]) rfl ?_
        by_cases hc_7 : (6000 : Int32) < (r_6 + x3)
        · have h := Eq.mp (if_pos hc_7) h
          refine st_icmp (t := 41) (b := false) rfl (decide_eq_false (Int32.not_le.mpr hc_7)) rfl ?_
          refine st_go 1 (pc' := 43) (lo' := [(0, .ref 0), (1, .long x1), (3, .int x3)]) (st' := [.int (-4)]) rfl ?_
          exact st_retI rfl rfl (hQ _ _ h)
        · have h := Eq.mp (if_neg hc_7) h
          refine st_icmp (t := 44) (b := true) rfl (decide_eq_true (Int32.not_lt.mp hc_7)) rfl ?_
          refine st_go 4 (pc' := 49) (lo' := [(4, .int (x3 - 1)), (0, .ref 0), (1, .long x1), (3, .int x3)]) (st' := []) rfl ?_
          refine st_locI (fun x4_8 hy_x4_8 => ?_)
          have h := h x4_8 hy_x4_8
          obtain ⟨m49, h⟩ := h
          refine vmWp.sub (lo' := [(0, .ref 0), (1, .long x1), (4, .int x4_8)]) ⟨rfl, rfl, rfl, trivial⟩ ?_
          exact tOF_feed_49 hQ m49 x1 x4_8 d_5 h
set_option maxRecDepth 100000 in
def Faults_begin (d : vmD) (Q : vmD → Prop) : Prop :=
  bnd (sF d 21 0 0) fun d_1 =>
  bnd (sF d_1 21 1 0) fun d_2 =>
  bnd (sF d_2 21 2 0) fun d_3 =>
  Q d_3
set_option maxRecDepth 100000 in
set_option maxHeartbeats 4000000 in
theorem tFaults_begin {L : Nat} {e : vmD} {Qo : Option Value → vmW → Prop} {Q : vmD → Prop} (hQ : ∀ d, Q d → Qo none (wC L d e)) (d : vmD) (h : Faults_begin d Q) : vmWp 22 0 [(0, .ref 21)] [] (wC L d e) Qo := by
  unfold Faults_begin at h
  refine st_go 2 (pc' := 2) (lo' := [(0, .ref 21)]) (st' := [.int 0, .ref 21]) rfl ?_
  refine st_putIC (o := 21) (f := 0) rfl rfl rfl rfl rfl (fun d_1 hy_d_1 => ?_)
  have h := h d_1 hy_d_1
  refine st_go 2 (pc' := 7) (lo' := [(0, .ref 21)]) (st' := [.int 0, .ref 21]) rfl ?_
  refine st_putIC (o := 21) (f := 1) rfl rfl rfl rfl rfl (fun d_2 hy_d_2 => ?_)
  have h := h d_2 hy_d_2
  refine st_go 2 (pc' := 12) (lo' := [(0, .ref 21)]) (st' := [.int 0, .ref 21]) rfl ?_
  refine st_putIC (o := 21) (f := 2) rfl rfl rfl rfl rfl (fun d_3 hy_d_3 => ?_)
  have h := h d_3 hy_d_3
  exact st_retV rfl rfl (hQ _ h)
set_option maxRecDepth 100000 in
def Names_beginFinding (d : vmD) (Q : vmD → Prop) : Prop :=
  bnd (sF d 3 6 0) fun d_1 =>
  Q d_1
set_option maxRecDepth 100000 in
set_option maxHeartbeats 4000000 in
theorem tNames_beginFinding {L : Nat} {e : vmD} {Qo : Option Value → vmW → Prop} {Q : vmD → Prop} (hQ : ∀ d, Q d → Qo none (wC L d e)) (d : vmD) (h : Names_beginFinding d Q) : vmWp 140 0 [(0, .ref 3)] [] (wC L d e) Qo := by
  unfold Names_beginFinding at h
  refine st_go 2 (pc' := 2) (lo' := [(0, .ref 3)]) (st' := [.int 0, .ref 3]) rfl ?_
  refine st_putIC (o := 3) (f := 6) rfl rfl rfl rfl rfl (fun d_1 hy_d_1 => ?_)
  have h := h d_1 hy_d_1
  exact st_retV rfl rfl (hQ _ h)
set_option maxRecDepth 100000 in
def Forger_begin (d : vmD) (Q : vmD → Prop) : Prop :=
  Faults_begin d fun d_1 =>
  Names_beginFinding d_1 fun d_2 =>
  Q d_2
set_option maxRecDepth 100000 in
set_option maxHeartbeats 4000000 in
theorem tForger_begin {L : Nat} {e : vmD} {Qo : Option Value → vmW → Prop} {Q : vmD → Prop} (hQ : ∀ d, Q d → Qo none (wC L d e)) (d : vmD) (h : Forger_begin d Q) : vmWp 29 0 [(0, .ref 20)] [] (wC L d e) Qo := by
  unfold Forger_begin at h
  refine st_go 2 (pc' := 4) (lo' := [(0, .ref 20)]) (st' := [.ref 21]) rfl ?_
  refine st_callv (k' := 22) (as := [.ref 21]) (rest := []) (lo' := [(0, .ref 21)]) (wf := fun d => wC L d e) rfl rfl rfl ?_
  refine tFaults_begin (fun d_1 h => ⟨d_1, rfl, rfl, ?_⟩) d h
  refine st_go 2 (pc' := 11) (lo' := [(0, .ref 20)]) (st' := [.ref 3]) rfl ?_
  refine st_callv (k' := 140) (as := [.ref 3]) (rest := []) (lo' := [(0, .ref 3)]) (wf := fun d => wC L d e) rfl rfl rfl ?_
  refine tNames_beginFinding (fun d_2 h => ⟨d_2, rfl, rfl, ?_⟩) d_1 h
  exact st_retV rfl rfl (hQ _ h)
set_option maxRecDepth 100000 in
def Faults_any (d : vmD) (Q : Int32 → vmD → Prop) : Prop :=
  if (gF d 21 2) = 0 then
  (Q 0 d)
  else
  (Q 1 d)
set_option maxRecDepth 100000 in
set_option maxHeartbeats 4000000 in
theorem tFaults_any {L : Nat} {e : vmD} {Qo : Option Value → vmW → Prop} {Q : Int32 → vmD → Prop} (hQ : ∀ r d, Q r d → Qo (some (.int r)) (wC L d e)) (d : vmD) (h : Faults_any d Q) : vmWp 24 0 [(0, .ref 21)] [] (wC L d e) Qo := by
  unfold Faults_any at h
  refine st_go 2 (pc' := 4) (lo' := [(0, .ref 21)]) (st' := [.int (gF d 21 2)]) rfl ?_
  by_cases hc_1 : (gF d 21 2) = 0
  · have h := Eq.mp (if_pos hc_1) h
    refine st_if (t := 11) (b := true) rfl (decide_eq_true hc_1) rfl ?_
    refine st_go 1 (pc' := 12) (lo' := [(0, .ref 21)]) (st' := [.int 0]) rfl ?_
    exact st_retZ rfl rfl (Or.inl rfl) (hQ _ _ h)
  · have h := Eq.mp (if_neg hc_1) h
    refine st_if (t := 7) (b := false) rfl (decide_eq_false hc_1) rfl ?_
    refine st_go 2 (pc' := 12) (lo' := [(0, .ref 21)]) (st' := [.int 1]) rfl ?_
    exact st_retZ rfl rfl (Or.inr rfl) (hQ _ _ h)
set_option maxRecDepth 100000 in
def Names_keepFound_47 (d : vmD) (Q : vmD → Prop) : Prop :=
  bnd (sF d 3 5 (gF d 3 6)) fun d_12 =>
  Q d_12
set_option maxRecDepth 100000 in
set_option maxHeartbeats 4000000 in
theorem tNames_keepFound_47 {L : Nat} {e : vmD} {Qo : Option Value → vmW → Prop} {Q : vmD → Prop} (hQ : ∀ d, Q d → Qo none (wC L d e)) (d : vmD) (h : Names_keepFound_47 d Q) : vmWp 145 47 [(0, .ref 3)] [] (wC L d e) Qo := by
  unfold Names_keepFound_47 at h
  refine st_go 3 (pc' := 52) (lo' := [(0, .ref 3)]) (st' := [.int (gF d 3 6), .ref 3]) rfl ?_
  refine st_putIC (o := 3) (f := 5) rfl rfl rfl rfl rfl (fun d_12 hy_d_12 => ?_)
  have h := h d_12 hy_d_12
  exact st_retV rfl rfl (hQ _ h)
set_option maxRecDepth 100000 in
def Names_keepFound_2 (Q : vmD → Prop) : Nat → Int32 → vmD → Prop
  | 0, _, _ => False
  | n + 1, x1, d => if x1 < (gF d 3 6) then
  (if x1 < 200 then
  (ixOk x1 200 ∧
  bnd (gL d 7 x1.toNatClampNeg) fun y_4 =>
  ixOk x1 200 ∧
  bnd (sL d 5 x1.toNatClampNeg y_4) fun d_6 =>
  ixOk x1 200 ∧
  bnd (gA d_6 8 x1.toNatClampNeg) fun y_8 =>
  ixOk x1 200 ∧
  bnd (sA d_6 6 x1.toNatClampNeg y_8) fun d_10 =>
  bnd (x1 + 1) fun x1_11 =>
  (Names_keepFound_2 Q n) x1_11 d_10)
  else
  (Names_keepFound_47 d Q))
  else
  (Names_keepFound_47 d Q)
set_option maxRecDepth 100000 in
set_option maxHeartbeats 4000000 in
theorem tNames_keepFound_2 {L : Nat} {e : vmD} {Qo : Option Value → vmW → Prop} {Q : vmD → Prop} (hQ : ∀ d, Q d → Qo none (wC L d e)) : ∀ (n : Nat) (x1 : Int32) (d : vmD), Names_keepFound_2 Q n x1 d → vmWp 145 2 [(0, .ref 3), (1, .int x1)] [] (wC L d e) Qo := by
  intro n
  induction n with
  | zero => intro x1 d h; exact h.elim
  | succ n ih =>
    intro x1 d h
    unfold Names_keepFound_2 at h
    refine st_go 3 (pc' := 7) (lo' := [(0, .ref 3), (1, .int x1)]) (st' := [.int (gF d 3 6), .int x1]) rfl ?_
    by_cases hc_1 : x1 < (gF d 3 6)
    · have h := Eq.mp (if_pos hc_1) h
      refine st_icmp (t := 10) (b := false) rfl (decide_eq_false (Int32.not_le.mpr hc_1)) rfl ?_
      refine st_go 2 (pc' := 14) (lo' := [(0, .ref 3), (1, .int x1)]) (st' := [.int 200, .int x1]) rfl ?_
      by_cases hc_2 : x1 < 200
      · have h := Eq.mp (if_pos hc_2) h
        refine st_icmp (t := 17) (b := false) rfl (decide_eq_false (Int32.not_le.mpr hc_2)) rfl ?_
        refine st_go 6 (pc' := 27) (lo' := [(0, .ref 3), (1, .int x1)]) (st' := [.int x1, .ref 7, .int x1, .ref 5]) rfl ?_
        obtain ⟨hj_3, h⟩ := h
        refine st_laldC (o := 7) rfl rfl hj_3 rfl (fun y_4 hy_y_4 => ?_)
        have h := h y_4 hy_y_4
        obtain ⟨hj_5, h⟩ := h
        refine st_lastC (o := 5) rfl rfl hj_5 rfl (fun d_6 hy_d_6 => ?_)
        have h := h d_6 hy_d_6
        refine st_go 6 (pc' := 39) (lo' := [(0, .ref 3), (1, .int x1)]) (st' := [.int x1, .ref 8, .int x1, .ref 6]) rfl ?_
        obtain ⟨hj_7, h⟩ := h
        refine st_ialdC (o := 8) rfl rfl hj_7 rfl (fun y_8 hy_y_8 => ?_)
        have h := h y_8 hy_y_8
        obtain ⟨hj_9, h⟩ := h
        refine st_iastC (o := 6) rfl rfl hj_9 rfl (fun d_10 hy_d_10 => ?_)
        have h := h d_10 hy_d_10
        refine st_go 1 (pc' := 44) (lo' := [(1, .int (x1 + 1)), (0, .ref 3)]) (st' := []) rfl ?_
        refine st_locI (fun x1_11 hy_x1_11 => ?_)
        have h := h x1_11 hy_x1_11
        refine st_go 1 (pc' := 2) (lo' := [(1, .int x1_11), (0, .ref 3)]) (st' := []) rfl ?_
        refine vmWp.sub (lo' := [(0, .ref 3), (1, .int x1_11)]) ⟨rfl, rfl, trivial⟩ ?_
        exact ih x1_11 d_10 h
      · have h := Eq.mp (if_neg hc_2) h
        refine st_icmp (t := 47) (b := true) rfl (decide_eq_true (Int32.not_lt.mp hc_2)) rfl ?_
        refine vmWp.sub (lo' := [(0, .ref 3)]) ⟨rfl, trivial⟩ ?_
        exact tNames_keepFound_47 hQ d h
    · have h := Eq.mp (if_neg hc_1) h
      refine st_icmp (t := 47) (b := true) rfl (decide_eq_true (Int32.not_lt.mp hc_1)) rfl ?_
      refine vmWp.sub (lo' := [(0, .ref 3)]) ⟨rfl, trivial⟩ ?_
      exact tNames_keepFound_47 hQ d h
set_option maxRecDepth 100000 in
def Names_keepFound (d : vmD) (Q : vmD → Prop) : Prop :=
  ∃ m2, Names_keepFound_2 Q m2 0 d
set_option maxRecDepth 100000 in
set_option maxHeartbeats 4000000 in
theorem tNames_keepFound {L : Nat} {e : vmD} {Qo : Option Value → vmW → Prop} {Q : vmD → Prop} (hQ : ∀ d, Q d → Qo none (wC L d e)) (d : vmD) (h : Names_keepFound d Q) : vmWp 145 0 [(0, .ref 3)] [] (wC L d e) Qo := by
  unfold Names_keepFound at h
  refine st_go 2 (pc' := 2) (lo' := [(1, .int 0), (0, .ref 3)]) (st' := []) rfl ?_
  obtain ⟨m2, h⟩ := h
  refine vmWp.sub (lo' := [(0, .ref 3), (1, .int 0)]) ⟨rfl, rfl, trivial⟩ ?_
  exact tNames_keepFound_2 hQ m2 0 d h
set_option maxRecDepth 100000 in
def Faults_code (d : vmD) (Q : Int32 → vmD → Prop) : Prop :=
  Q (gF d 21 2) d
set_option maxRecDepth 100000 in
set_option maxHeartbeats 4000000 in
theorem tFaults_code {L : Nat} {e : vmD} {Qo : Option Value → vmW → Prop} {Q : Int32 → vmD → Prop} (hQ : ∀ r d, Q r d → Qo (some (.int r)) (wC L d e)) (d : vmD) (h : Faults_code d Q) : vmWp 27 0 [(0, .ref 21)] [] (wC L d e) Qo := by
  unfold Faults_code at h
  refine st_go 2 (pc' := 4) (lo' := [(0, .ref 21)]) (st' := [.int (gF d 21 2)]) rfl ?_
  exact st_retI rfl rfl (hQ _ _ h)
set_option maxRecDepth 100000 in
def Forger_answer (d : vmD) (Q : Int32 → vmD → Prop) : Prop :=
  Faults_any d fun r_2 d_1 =>
  if r_2 = 0 then
  (Names_keepFound d_1 fun d_4 =>
  bnd (sF d_4 20 14 (gF d_4 20 10)) fun d_5 =>
  bnd (sF d_5 20 15 (gF d_5 20 13)) fun d_6 =>
  bnd (sF d_6 20 16 (gF d_6 20 11)) fun d_7 =>
  Q (gF d_7 20 12) d_7)
  else
  (Faults_code d_1 fun r_9 d_8 =>
  Q (((-10) : Int32) - r_9) d_8)
set_option maxRecDepth 100000 in
set_option maxHeartbeats 4000000 in
theorem tForger_answer {L : Nat} {e : vmD} {Qo : Option Value → vmW → Prop} {Q : Int32 → vmD → Prop} (hQ : ∀ r d, Q r d → Qo (some (.int r)) (wC L d e)) (d : vmD) (h : Forger_answer d Q) : vmWp 31 0 [(0, .ref 20)] [] (wC L d e) Qo := by
  unfold Forger_answer at h
  refine st_go 2 (pc' := 4) (lo' := [(0, .ref 20)]) (st' := [.ref 21]) rfl ?_
  refine st_calli (k' := 24) (as := [.ref 21]) (rest := []) (lo' := [(0, .ref 21)]) (wf := fun d => wC L d e) rfl rfl rfl ?_
  refine tFaults_any (fun r_2 d_1 h => ⟨r_2, d_1, rfl, rfl, ?_⟩) d h
  by_cases hc_3 : r_2 = 0
  · have h := Eq.mp (if_pos hc_3) h
    refine st_if (t := 21) (b := true) rfl (decide_eq_true hc_3) rfl ?_
    refine st_go 2 (pc' := 25) (lo' := [(0, .ref 20)]) (st' := [.ref 3]) rfl ?_
    refine st_callv (k' := 145) (as := [.ref 3]) (rest := []) (lo' := [(0, .ref 3)]) (wf := fun d => wC L d e) rfl rfl rfl ?_
    refine tNames_keepFound (fun d_4 h => ⟨d_4, rfl, rfl, ?_⟩) d_1 h
    refine st_go 3 (pc' := 33) (lo' := [(0, .ref 20)]) (st' := [.int (gF d_4 20 10), .ref 20]) rfl ?_
    refine st_putIC (o := 20) (f := 14) rfl rfl rfl rfl rfl (fun d_5 hy_d_5 => ?_)
    have h := h d_5 hy_d_5
    refine st_go 3 (pc' := 41) (lo' := [(0, .ref 20)]) (st' := [.int (gF d_5 20 13), .ref 20]) rfl ?_
    refine st_putIC (o := 20) (f := 15) rfl rfl rfl rfl rfl (fun d_6 hy_d_6 => ?_)
    have h := h d_6 hy_d_6
    refine st_go 3 (pc' := 49) (lo' := [(0, .ref 20)]) (st' := [.int (gF d_6 20 11), .ref 20]) rfl ?_
    refine st_putIC (o := 20) (f := 16) rfl rfl rfl rfl rfl (fun d_7 hy_d_7 => ?_)
    have h := h d_7 hy_d_7
    refine st_go 2 (pc' := 56) (lo' := [(0, .ref 20)]) (st' := [.int (gF d_7 20 12)]) rfl ?_
    exact st_retI rfl rfl (hQ _ _ h)
  · have h := Eq.mp (if_neg hc_3) h
    refine st_if (t := 10) (b := false) rfl (decide_eq_false hc_3) rfl ?_
    refine st_go 3 (pc' := 16) (lo' := [(0, .ref 20)]) (st' := [.ref 21, .int (-10)]) rfl ?_
    refine st_calli (k' := 27) (as := [.ref 21]) (rest := [.int (-10)]) (lo' := [(0, .ref 21)]) (wf := fun d => wC L d e) rfl rfl rfl ?_
    refine tFaults_code (fun r_9 d_8 h => ⟨r_9, d_8, rfl, rfl, ?_⟩) d_1 h
    refine st_go 1 (pc' := 20) (lo' := [(0, .ref 20)]) (st' := [.int (((-10) : Int32) - r_9)]) rfl ?_
    exact st_retI rfl rfl (hQ _ _ h)
set_option maxRecDepth 100000 in
def Forger_failed (d : vmD) (Q : Int32 → vmD → Prop) : Prop :=
  Faults_any d fun r_2 d_1 =>
  (r_2 = 0 ∨ r_2 = 1) ∧ Q r_2 d_1
set_option maxRecDepth 100000 in
set_option maxHeartbeats 4000000 in
theorem tForger_failed {L : Nat} {e : vmD} {Qo : Option Value → vmW → Prop} {Q : Int32 → vmD → Prop} (hQ : ∀ r d, Q r d → Qo (some (.int r)) (wC L d e)) (d : vmD) (h : Forger_failed d Q) : vmWp 30 0 [(0, .ref 20)] [] (wC L d e) Qo := by
  unfold Forger_failed at h
  refine st_go 2 (pc' := 4) (lo' := [(0, .ref 20)]) (st' := [.ref 21]) rfl ?_
  refine st_calli (k' := 24) (as := [.ref 21]) (rest := []) (lo' := [(0, .ref 21)]) (wf := fun d => wC L d e) rfl rfl rfl ?_
  refine tFaults_any (fun r_2 d_1 h => ⟨r_2, d_1, rfl, rfl, ?_⟩) d h
  exact st_retZ rfl rfl h.1 (hQ _ _ h.2)
set_option maxRecDepth 100000 in
def Conditions_begin (d : vmD) (Q : vmD → Prop) : Prop :=
  bnd (sF d 22 1 0) fun d_1 =>
  Q d_1
set_option maxRecDepth 100000 in
set_option maxHeartbeats 4000000 in
theorem tConditions_begin {L : Nat} {e : vmD} {Qo : Option Value → vmW → Prop} {Q : vmD → Prop} (hQ : ∀ d, Q d → Qo none (wC L d e)) (d : vmD) (h : Conditions_begin d Q) : vmWp 1 0 [(0, .ref 22)] [] (wC L d e) Qo := by
  unfold Conditions_begin at h
  refine st_go 2 (pc' := 2) (lo' := [(0, .ref 22)]) (st' := [.int 0, .ref 22]) rfl ?_
  refine st_putIC (o := 22) (f := 1) rfl rfl rfl rfl rfl (fun d_1 hy_d_1 => ?_)
  have h := h d_1 hy_d_1
  exact st_retV rfl rfl (hQ _ h)
set_option maxRecDepth 100000 in
def Text_at_src (x1 : Int32) (d : vmD) (Q : Int32 → vmD → Prop) : Prop :=
  if x1 < 0 then
  (Q (-1) d)
  else
  (if x1 < (gF d 9 1) then
  (if x1 < 6000 then
  (ixOk x1 6000 ∧
  bnd (gA d 10 x1.toNatClampNeg) fun y_5 =>
  Q (y_5 &&& 255) d)
  else
  (Q (-1) d))
  else
  (Q (-1) d))
set_option maxRecDepth 100000 in
set_option maxHeartbeats 4000000 in
theorem tText_at_src {L : Nat} {e : vmD} {Qo : Option Value → vmW → Prop} {Q : Int32 → vmD → Prop} (hQ : ∀ r d, Q r d → Qo (some (.int r)) (wC L d e)) (x1 : Int32) (d : vmD) (h : Text_at_src x1 d Q) : vmWp 191 0 [(0, .ref 9), (1, .int x1)] [] (wC L d e) Qo := by
  unfold Text_at_src at h
  refine st_go 1 (pc' := 1) (lo' := [(0, .ref 9), (1, .int x1)]) (st' := [.int x1]) rfl ?_
  by_cases hc_1 : x1 < 0
  · have h := Eq.mp (if_pos hc_1) h
    refine st_if (t := 34) (b := true) rfl (decide_eq_true hc_1) rfl ?_
    refine st_go 1 (pc' := 35) (lo' := [(0, .ref 9), (1, .int x1)]) (st' := [.int (-1)]) rfl ?_
    exact st_retI rfl rfl (hQ _ _ h)
  · have h := Eq.mp (if_neg hc_1) h
    refine st_if (t := 4) (b := false) rfl (decide_eq_false hc_1) rfl ?_
    refine st_go 3 (pc' := 9) (lo' := [(0, .ref 9), (1, .int x1)]) (st' := [.int (gF d 9 1), .int x1]) rfl ?_
    by_cases hc_2 : x1 < (gF d 9 1)
    · have h := Eq.mp (if_pos hc_2) h
      refine st_icmp (t := 12) (b := false) rfl (decide_eq_false (Int32.not_le.mpr hc_2)) rfl ?_
      refine st_go 4 (pc' := 18) (lo' := [(0, .ref 9), (1, .int x1)]) (st' := [.int 6000, .int x1]) rfl ?_
      by_cases hc_3 : x1 < 6000
      · have h := Eq.mp (if_pos hc_3) h
        refine st_icmp (t := 21) (b := false) rfl (decide_eq_false (Int32.not_le.mpr hc_3)) rfl ?_
        refine st_go 3 (pc' := 26) (lo' := [(0, .ref 9), (1, .int x1)]) (st' := [.int x1, .ref 10]) rfl ?_
        obtain ⟨hj_4, h⟩ := h
        refine st_baldC (o := 10) rfl rfl hj_4 rfl (fun y_5 hy_y_5 => ?_)
        have h := h y_5 hy_y_5
        refine st_go 3 (pc' := 35) (lo' := [(0, .ref 9), (1, .int x1)]) (st' := [.int (y_5 &&& 255)]) rfl ?_
        exact st_retI rfl rfl (hQ _ _ h)
      · have h := Eq.mp (if_neg hc_3) h
        refine st_icmp (t := 34) (b := true) rfl (decide_eq_true (Int32.not_lt.mp hc_3)) rfl ?_
        refine st_go 1 (pc' := 35) (lo' := [(0, .ref 9), (1, .int x1)]) (st' := [.int (-1)]) rfl ?_
        exact st_retI rfl rfl (hQ _ _ h)
    · have h := Eq.mp (if_neg hc_2) h
      refine st_icmp (t := 34) (b := true) rfl (decide_eq_true (Int32.not_lt.mp hc_2)) rfl ?_
      refine st_go 1 (pc' := 35) (lo' := [(0, .ref 9), (1, .int x1)]) (st' := [.int (-1)]) rfl ?_
      exact st_retI rfl rfl (hQ _ _ h)
set_option maxRecDepth 100000 in
def Text_lineEnd_src_6 (Q : Int32 → vmD → Prop) : Nat → Int32 → vmD → Prop
  | 0, _, _ => False
  | n + 1, x2, d => if x2 < (gF d 9 1) then
  (Text_at_src x2 d fun r_4 d_3 =>
  if r_4 = 10 then
  (Q x2 d_3)
  else
  (bnd (x2 + 1) fun x2_6 =>
  (Text_lineEnd_src_6 Q n) x2_6 d_3))
  else
  (Q x2 d)
set_option maxRecDepth 100000 in
set_option maxHeartbeats 4000000 in
theorem tText_lineEnd_src_6 {L : Nat} {e : vmD} {Qo : Option Value → vmW → Prop} {Q : Int32 → vmD → Prop} (hQ : ∀ r d, Q r d → Qo (some (.int r)) (wC L d e)) : ∀ (n : Nat) (x2 : Int32) (d : vmD), Text_lineEnd_src_6 Q n x2 d → vmWp 195 6 [(0, .ref 9), (2, .int x2)] [] (wC L d e) Qo := by
  intro n
  induction n with
  | zero => intro x2 d h; exact h.elim
  | succ n ih =>
    intro x2 d h
    unfold Text_lineEnd_src_6 at h
    refine st_go 3 (pc' := 11) (lo' := [(0, .ref 9), (2, .int x2)]) (st' := [.int (gF d 9 1), .int x2]) rfl ?_
    by_cases hc_2 : x2 < (gF d 9 1)
    · have h := Eq.mp (if_pos hc_2) h
      refine st_icmp (t := 14) (b := false) rfl (decide_eq_false (Int32.not_le.mpr hc_2)) rfl ?_
      refine st_go 2 (pc' := 16) (lo' := [(0, .ref 9), (2, .int x2)]) (st' := [.int x2, .ref 9]) rfl ?_
      refine st_calli (k' := 191) (as := [.ref 9, .int x2]) (rest := []) (lo' := [(0, .ref 9), (1, .int x2)]) (wf := fun d => wC L d e) rfl rfl rfl ?_
      refine tText_at_src (fun r_4 d_3 h => ⟨r_4, d_3, rfl, rfl, ?_⟩) x2 d h
      refine st_go 1 (pc' := 21) (lo' := [(0, .ref 9), (2, .int x2)]) (st' := [.int 10, .int r_4]) rfl ?_
      by_cases hc_5 : r_4 = 10
      · have h := Eq.mp (if_pos hc_5) h
        refine st_icmp (t := 30) (b := true) rfl (decide_eq_true hc_5) rfl ?_
        refine st_go 1 (pc' := 31) (lo' := [(0, .ref 9), (2, .int x2)]) (st' := [.int x2]) rfl ?_
        exact st_retI rfl rfl (hQ _ _ h)
      · have h := Eq.mp (if_neg hc_5) h
        refine st_icmp (t := 24) (b := false) rfl (decide_eq_false hc_5) rfl ?_
        refine st_go 1 (pc' := 27) (lo' := [(2, .int (x2 + 1)), (0, .ref 9)]) (st' := []) rfl ?_
        refine st_locI (fun x2_6 hy_x2_6 => ?_)
        have h := h x2_6 hy_x2_6
        refine st_go 1 (pc' := 6) (lo' := [(2, .int x2_6), (0, .ref 9)]) (st' := []) rfl ?_
        refine vmWp.sub (lo' := [(0, .ref 9), (2, .int x2_6)]) ⟨rfl, rfl, trivial⟩ ?_
        exact ih x2_6 d_3 h
    · have h := Eq.mp (if_neg hc_2) h
      refine st_icmp (t := 30) (b := true) rfl (decide_eq_true (Int32.not_lt.mp hc_2)) rfl ?_
      refine st_go 1 (pc' := 31) (lo' := [(0, .ref 9), (2, .int x2)]) (st' := [.int x2]) rfl ?_
      exact st_retI rfl rfl (hQ _ _ h)
set_option maxRecDepth 100000 in
def Text_lineEnd_src (x1 : Int32) (d : vmD) (Q : Int32 → vmD → Prop) : Prop :=
  bnd (if x1 < 0 then 0 else x1) fun x2_1 =>
  ∃ m6, Text_lineEnd_src_6 Q m6 x2_1 d
set_option maxRecDepth 100000 in
set_option maxHeartbeats 4000000 in
theorem tText_lineEnd_src {L : Nat} {e : vmD} {Qo : Option Value → vmW → Prop} {Q : Int32 → vmD → Prop} (hQ : ∀ r d, Q r d → Qo (some (.int r)) (wC L d e)) (x1 : Int32) (d : vmD) (h : Text_lineEnd_src x1 d Q) : vmWp 195 0 [(0, .ref 9), (1, .int x1)] [] (wC L d e) Qo := by
  unfold Text_lineEnd_src at h
  refine st_go 4 (pc' := 6) (lo' := [(2, .int (if x1 < 0 then 0 else x1)), (0, .ref 9), (1, .int x1)]) (st' := []) rfl ?_
  refine st_locI (fun x2_1 hy_x2_1 => ?_)
  have h := h x2_1 hy_x2_1
  obtain ⟨m6, h⟩ := h
  refine vmWp.sub (lo' := [(0, .ref 9), (2, .int x2_1)]) ⟨rfl, rfl, trivial⟩ ?_
  exact tText_lineEnd_src_6 hQ m6 x2_1 d h
set_option maxRecDepth 100000 in
def Tokens_beginLine (x1 : Int32) (d : vmD) (Q : vmD → Prop) : Prop :=
  bnd (sF d 24 6 x1) fun d_1 =>
  bnd (sF d_1 24 5 0) fun d_2 =>
  Q d_2
set_option maxRecDepth 100000 in
set_option maxHeartbeats 4000000 in
theorem tTokens_beginLine {L : Nat} {e : vmD} {Qo : Option Value → vmW → Prop} {Q : vmD → Prop} (hQ : ∀ d, Q d → Qo none (wC L d e)) (x1 : Int32) (d : vmD) (h : Tokens_beginLine x1 d Q) : vmWp 197 0 [(0, .ref 24), (1, .int x1)] [] (wC L d e) Qo := by
  unfold Tokens_beginLine at h
  refine st_go 2 (pc' := 2) (lo' := [(0, .ref 24), (1, .int x1)]) (st' := [.int x1, .ref 24]) rfl ?_
  refine st_putIC (o := 24) (f := 6) rfl rfl rfl rfl rfl (fun d_1 hy_d_1 => ?_)
  have h := h d_1 hy_d_1
  refine st_go 2 (pc' := 7) (lo' := [(0, .ref 24), (1, .int x1)]) (st' := [.int 0, .ref 24]) rfl ?_
  refine st_putIC (o := 24) (f := 5) rfl rfl rfl rfl rfl (fun d_2 hy_d_2 => ?_)
  have h := h d_2 hy_d_2
  exact st_retV rfl rfl (hQ _ h)
set_option maxRecDepth 100000 in
def Faults_add_31 (x1 : Int32) (x2 : Int32) (x3 : Int32) (d : vmD) (Q : vmD → Prop) : Prop :=
  bnd (sF d 21 0 x1) fun d_2 =>
  bnd (sF d_2 21 1 x2) fun d_3 =>
  bnd (sF d_3 21 2 x3) fun d_4 =>
  Q d_4
set_option maxRecDepth 100000 in
set_option maxHeartbeats 4000000 in
theorem tFaults_add_31 {L : Nat} {e : vmD} {Qo : Option Value → vmW → Prop} {Q : vmD → Prop} (hQ : ∀ d, Q d → Qo none (wC L d e)) (x1 : Int32) (x2 : Int32) (x3 : Int32) (d : vmD) (h : Faults_add_31 x1 x2 x3 d Q) : vmWp 23 31 [(0, .ref 21), (1, .int x1), (2, .int x2), (3, .int x3)] [] (wC L d e) Qo := by
  unfold Faults_add_31 at h
  refine st_go 2 (pc' := 33) (lo' := [(0, .ref 21), (1, .int x1), (2, .int x2), (3, .int x3)]) (st' := [.int x1, .ref 21]) rfl ?_
  refine st_putIC (o := 21) (f := 0) rfl rfl rfl rfl rfl (fun d_2 hy_d_2 => ?_)
  have h := h d_2 hy_d_2
  refine st_go 2 (pc' := 38) (lo' := [(0, .ref 21), (1, .int x1), (2, .int x2), (3, .int x3)]) (st' := [.int x2, .ref 21]) rfl ?_
  refine st_putIC (o := 21) (f := 1) rfl rfl rfl rfl rfl (fun d_3 hy_d_3 => ?_)
  have h := h d_3 hy_d_3
  refine st_go 2 (pc' := 43) (lo' := [(0, .ref 21), (1, .int x1), (2, .int x2), (3, .int x3)]) (st' := [.int x3, .ref 21]) rfl ?_
  refine st_putIC (o := 21) (f := 2) rfl rfl rfl rfl rfl (fun d_4 hy_d_4 => ?_)
  have h := h d_4 hy_d_4
  exact st_retV rfl rfl (hQ _ h)
set_option maxRecDepth 100000 in
def Faults_add (x1 : Int32) (x2 : Int32) (x3 : Int32) (d : vmD) (Q : vmD → Prop) : Prop :=
  if (gF d 21 2) = 0 then
  (Faults_add_31 x1 x2 x3 d Q)
  else
  (if x2 < (gF d 21 1) then
  (Faults_add_31 x1 x2 x3 d Q)
  else
  (if x2 = (gF d 21 1) then
  (if x3 < (gF d 21 2) then
  (Faults_add_31 x1 x2 x3 d Q)
  else
  (Q d))
  else
  (Q d)))
set_option maxRecDepth 100000 in
set_option maxHeartbeats 4000000 in
theorem tFaults_add {L : Nat} {e : vmD} {Qo : Option Value → vmW → Prop} {Q : vmD → Prop} (hQ : ∀ d, Q d → Qo none (wC L d e)) (x1 : Int32) (x2 : Int32) (x3 : Int32) (d : vmD) (h : Faults_add x1 x2 x3 d Q) : vmWp 23 0 [(0, .ref 21), (1, .int x1), (2, .int x2), (3, .int x3)] [] (wC L d e) Qo := by
  unfold Faults_add at h
  refine st_go 2 (pc' := 4) (lo' := [(0, .ref 21), (1, .int x1), (2, .int x2), (3, .int x3)]) (st' := [.int (gF d 21 2)]) rfl ?_
  by_cases hc_1 : (gF d 21 2) = 0
  · have h := Eq.mp (if_pos hc_1) h
    refine st_if (t := 31) (b := true) rfl (decide_eq_true hc_1) rfl ?_
    refine vmWp.sub (lo' := [(0, .ref 21), (1, .int x1), (2, .int x2), (3, .int x3)]) ⟨rfl, rfl, rfl, rfl, trivial⟩ ?_
    exact tFaults_add_31 hQ x1 x2 x3 d h
  · have h := Eq.mp (if_neg hc_1) h
    refine st_if (t := 7) (b := false) rfl (decide_eq_false hc_1) rfl ?_
    refine st_go 3 (pc' := 12) (lo' := [(0, .ref 21), (1, .int x1), (2, .int x2), (3, .int x3)]) (st' := [.int (gF d 21 1), .int x2]) rfl ?_
    by_cases hc_5 : x2 < (gF d 21 1)
    · have h := Eq.mp (if_pos hc_5) h
      refine st_icmp (t := 31) (b := true) rfl (decide_eq_true hc_5) rfl ?_
      refine vmWp.sub (lo' := [(0, .ref 21), (1, .int x1), (2, .int x2), (3, .int x3)]) ⟨rfl, rfl, rfl, rfl, trivial⟩ ?_
      exact tFaults_add_31 hQ x1 x2 x3 d h
    · have h := Eq.mp (if_neg hc_5) h
      refine st_icmp (t := 15) (b := false) rfl (decide_eq_false hc_5) rfl ?_
      refine st_go 3 (pc' := 20) (lo' := [(0, .ref 21), (1, .int x1), (2, .int x2), (3, .int x3)]) (st' := [.int (gF d 21 1), .int x2]) rfl ?_
      by_cases hc_6 : x2 = (gF d 21 1)
      · have h := Eq.mp (if_pos hc_6) h
        refine st_icmp (t := 23) (b := false) rfl (decide_eq_false (fun z => z hc_6)) rfl ?_
        refine st_go 3 (pc' := 28) (lo' := [(0, .ref 21), (1, .int x1), (2, .int x2), (3, .int x3)]) (st' := [.int (gF d 21 2), .int x3]) rfl ?_
        by_cases hc_7 : x3 < (gF d 21 2)
        · have h := Eq.mp (if_pos hc_7) h
          refine st_icmp (t := 31) (b := false) rfl (decide_eq_false (Int32.not_le.mpr hc_7)) rfl ?_
          refine vmWp.sub (lo' := [(0, .ref 21), (1, .int x1), (2, .int x2), (3, .int x3)]) ⟨rfl, rfl, rfl, rfl, trivial⟩ ?_
          exact tFaults_add_31 hQ x1 x2 x3 d h
        · have h := Eq.mp (if_neg hc_7) h
          refine st_icmp (t := 46) (b := true) rfl (decide_eq_true (Int32.not_lt.mp hc_7)) rfl ?_
          exact st_retV rfl rfl (hQ _ h)
      · have h := Eq.mp (if_neg hc_6) h
        refine st_icmp (t := 46) (b := true) rfl (decide_eq_true hc_6) rfl ?_
        exact st_retV rfl rfl (hQ _ h)
set_option maxRecDepth 100000 in
def Tokens_blamePlace (x1 : Int32) (x2 : Int32) (d : vmD) (Q : vmD → Prop) : Prop :=
  Faults_add (gF d 24 6) x1 x2 d fun d_1 =>
  Q d_1
set_option maxRecDepth 100000 in
set_option maxHeartbeats 4000000 in
theorem tTokens_blamePlace {L : Nat} {e : vmD} {Qo : Option Value → vmW → Prop} {Q : vmD → Prop} (hQ : ∀ d, Q d → Qo none (wC L d e)) (x1 : Int32) (x2 : Int32) (d : vmD) (h : Tokens_blamePlace x1 x2 d Q) : vmWp 219 0 [(0, .ref 24), (1, .int x1), (2, .int x2)] [] (wC L d e) Qo := by
  unfold Tokens_blamePlace at h
  refine st_go 6 (pc' := 10) (lo' := [(0, .ref 24), (1, .int x1), (2, .int x2)]) (st' := [.int x2, .int x1, .int (gF d 24 6), .ref 21]) rfl ?_
  refine st_callv (k' := 23) (as := [.ref 21, .int (gF d 24 6), .int x1, .int x2]) (rest := []) (lo' := [(0, .ref 21), (1, .int (gF d 24 6)), (2, .int x1), (3, .int x2)]) (wf := fun d => wC L d e) rfl rfl rfl ?_
  refine tFaults_add (fun d_1 h => ⟨d_1, rfl, rfl, ?_⟩) (gF d 24 6) x1 x2 d h
  exact st_retV rfl rfl (hQ _ h)
set_option maxRecDepth 100000 in
def Conditions_latest (d : vmD) (Q : Int32 → vmD → Prop) : Prop :=
  if (0 : Int32) < (gF d 22 1) then
  (if (8 : Int32) < (gF d 22 1) then
  (Q 5 d)
  else
  (ixOk ((gF d 22 1) - 1) 8 ∧
  bnd (gA d 23 ((gF d 22 1) - 1).toNatClampNeg) fun y_4 =>
  Q y_4 d))
  else
  (Q 5 d)
set_option maxRecDepth 100000 in
set_option maxHeartbeats 4000000 in
theorem tConditions_latest {L : Nat} {e : vmD} {Qo : Option Value → vmW → Prop} {Q : Int32 → vmD → Prop} (hQ : ∀ r d, Q r d → Qo (some (.int r)) (wC L d e)) (d : vmD) (h : Conditions_latest d Q) : vmWp 3 0 [(0, .ref 22)] [] (wC L d e) Qo := by
  unfold Conditions_latest at h
  refine st_go 2 (pc' := 4) (lo' := [(0, .ref 22)]) (st' := [.int (gF d 22 1)]) rfl ?_
  by_cases hc_1 : (0 : Int32) < (gF d 22 1)
  · have h := Eq.mp (if_pos hc_1) h
    refine st_if (t := 7) (b := false) rfl (decide_eq_false (Int32.not_le.mpr hc_1)) rfl ?_
    refine st_go 3 (pc' := 13) (lo' := [(0, .ref 22)]) (st' := [.int 8, .int (gF d 22 1)]) rfl ?_
    by_cases hc_2 : (8 : Int32) < (gF d 22 1)
    · have h := Eq.mp (if_pos hc_2) h
      refine st_icmp (t := 30) (b := true) rfl (decide_eq_true hc_2) rfl ?_
      refine st_go 1 (pc' := 31) (lo' := [(0, .ref 22)]) (st' := [.int 5]) rfl ?_
      exact st_retI rfl rfl (hQ _ _ h)
    · have h := Eq.mp (if_neg hc_2) h
      refine st_icmp (t := 16) (b := false) rfl (decide_eq_false hc_2) rfl ?_
      refine st_go 6 (pc' := 26) (lo' := [(0, .ref 22)]) (st' := [.int ((gF d 22 1) - 1), .ref 23]) rfl ?_
      obtain ⟨hj_3, h⟩ := h
      refine st_ialdC (o := 23) rfl rfl hj_3 rfl (fun y_4 hy_y_4 => ?_)
      have h := h y_4 hy_y_4
      refine st_go 1 (pc' := 31) (lo' := [(0, .ref 22)]) (st' := [.int y_4]) rfl ?_
      exact st_retI rfl rfl (hQ _ _ h)
  · have h := Eq.mp (if_neg hc_1) h
    refine st_if (t := 30) (b := true) rfl (decide_eq_true (Int32.not_lt.mp hc_1)) rfl ?_
    refine st_go 1 (pc' := 31) (lo' := [(0, .ref 22)]) (st' := [.int 5]) rfl ?_
    exact st_retI rfl rfl (hQ _ _ h)
set_option maxRecDepth 100000 in
def Conditions_done (d : vmD) (Q : Int32 → vmD → Prop) : Prop :=
  Conditions_latest d fun r_2 d_1 =>
  if (r_2 &&& 1) = 0 then
  (Q 0 d_1)
  else
  (Q 1 d_1)
set_option maxRecDepth 100000 in
set_option maxHeartbeats 4000000 in
theorem tConditions_done {L : Nat} {e : vmD} {Qo : Option Value → vmW → Prop} {Q : Int32 → vmD → Prop} (hQ : ∀ r d, Q r d → Qo (some (.int r)) (wC L d e)) (d : vmD) (h : Conditions_done d Q) : vmWp 4 0 [(0, .ref 22)] [] (wC L d e) Qo := by
  unfold Conditions_done at h
  refine st_go 1 (pc' := 1) (lo' := [(0, .ref 22)]) (st' := [.ref 22]) rfl ?_
  refine st_calli (k' := 3) (as := [.ref 22]) (rest := []) (lo' := [(0, .ref 22)]) (wf := fun d => wC L d e) rfl rfl rfl ?_
  refine tConditions_latest (fun r_2 d_1 h => ⟨r_2, d_1, rfl, rfl, ?_⟩) d h
  refine st_go 2 (pc' := 6) (lo' := [(0, .ref 22)]) (st' := [.int (r_2 &&& 1)]) rfl ?_
  by_cases hc_3 : (r_2 &&& 1) = 0
  · have h := Eq.mp (if_pos hc_3) h
    refine st_if (t := 13) (b := true) rfl (decide_eq_true hc_3) rfl ?_
    refine st_go 1 (pc' := 14) (lo' := [(0, .ref 22)]) (st' := [.int 0]) rfl ?_
    exact st_retZ rfl rfl (Or.inl rfl) (hQ _ _ h)
  · have h := Eq.mp (if_neg hc_3) h
    refine st_if (t := 9) (b := false) rfl (decide_eq_false hc_3) rfl ?_
    refine st_go 2 (pc' := 14) (lo' := [(0, .ref 22)]) (st' := [.int 1]) rfl ?_
    exact st_retZ rfl rfl (Or.inr rfl) (hQ _ _ h)
set_option maxRecDepth 100000 in
def Tokens_isBlank (x0 : Int32) (d : vmD) (Q : Int32 → vmD → Prop) : Prop :=
  if x0 = 32 then
  (Q 1 d)
  else
  (if x0 = 9 then
  (Q 1 d)
  else
  (if x0 = 13 then
  (Q 1 d)
  else
  (Q 0 d)))
set_option maxRecDepth 100000 in
set_option maxHeartbeats 4000000 in
theorem tTokens_isBlank {L : Nat} {e : vmD} {Qo : Option Value → vmW → Prop} {Q : Int32 → vmD → Prop} (hQ : ∀ r d, Q r d → Qo (some (.int r)) (wC L d e)) (x0 : Int32) (d : vmD) (h : Tokens_isBlank x0 d Q) : vmWp 206 0 [(0, .int x0)] [] (wC L d e) Qo := by
  unfold Tokens_isBlank at h
  refine st_go 2 (pc' := 3) (lo' := [(0, .int x0)]) (st' := [.int 32, .int x0]) rfl ?_
  by_cases hc_1 : x0 = 32
  · have h := Eq.mp (if_pos hc_1) h
    refine st_icmp (t := 18) (b := true) rfl (decide_eq_true hc_1) rfl ?_
    refine st_go 2 (pc' := 23) (lo' := [(0, .int x0)]) (st' := [.int 1]) rfl ?_
    exact st_retZ rfl rfl (Or.inr rfl) (hQ _ _ h)
  · have h := Eq.mp (if_neg hc_1) h
    refine st_icmp (t := 6) (b := false) rfl (decide_eq_false hc_1) rfl ?_
    refine st_go 2 (pc' := 9) (lo' := [(0, .int x0)]) (st' := [.int 9, .int x0]) rfl ?_
    by_cases hc_2 : x0 = 9
    · have h := Eq.mp (if_pos hc_2) h
      refine st_icmp (t := 18) (b := true) rfl (decide_eq_true hc_2) rfl ?_
      refine st_go 2 (pc' := 23) (lo' := [(0, .int x0)]) (st' := [.int 1]) rfl ?_
      exact st_retZ rfl rfl (Or.inr rfl) (hQ _ _ h)
    · have h := Eq.mp (if_neg hc_2) h
      refine st_icmp (t := 12) (b := false) rfl (decide_eq_false hc_2) rfl ?_
      refine st_go 2 (pc' := 15) (lo' := [(0, .int x0)]) (st' := [.int 13, .int x0]) rfl ?_
      by_cases hc_3 : x0 = 13
      · have h := Eq.mp (if_pos hc_3) h
        refine st_icmp (t := 18) (b := false) rfl (decide_eq_false (fun z => z hc_3)) rfl ?_
        refine st_go 2 (pc' := 23) (lo' := [(0, .int x0)]) (st' := [.int 1]) rfl ?_
        exact st_retZ rfl rfl (Or.inr rfl) (hQ _ _ h)
      · have h := Eq.mp (if_neg hc_3) h
        refine st_icmp (t := 22) (b := true) rfl (decide_eq_true hc_3) rfl ?_
        refine st_go 1 (pc' := 23) (lo' := [(0, .int x0)]) (st' := [.int 0]) rfl ?_
        exact st_retZ rfl rfl (Or.inl rfl) (hQ _ _ h)
set_option maxRecDepth 100000 in
def Tokens_skipBlanks_2 (Q : Int32 → vmD → Prop) : Nat → Int32 → vmD → Prop
  | 0, _, _ => False
  | n + 1, x2, d => Text_length_src d fun r_2 d_1 =>
  if x2 < r_2 then
  (Text_at_src x2 d_1 fun r_5 d_4 =>
  Tokens_isBlank r_5 d_4 fun r_7 d_6 =>
  if r_7 = 0 then
  (Q x2 d_6)
  else
  (bnd (x2 + 1) fun x2_9 =>
  (Tokens_skipBlanks_2 Q n) x2_9 d_6))
  else
  (Q x2 d_1)
set_option maxRecDepth 100000 in
set_option maxHeartbeats 4000000 in
theorem tTokens_skipBlanks_2 {L : Nat} {e : vmD} {Qo : Option Value → vmW → Prop} {Q : Int32 → vmD → Prop} (hQ : ∀ r d, Q r d → Qo (some (.int r)) (wC L d e)) : ∀ (n : Nat) (x2 : Int32) (d : vmD), Tokens_skipBlanks_2 Q n x2 d → vmWp 208 2 [(0, .ref 24), (2, .int x2)] [] (wC L d e) Qo := by
  intro n
  induction n with
  | zero => intro x2 d h; exact h.elim
  | succ n ih =>
    intro x2 d h
    unfold Tokens_skipBlanks_2 at h
    refine st_go 3 (pc' := 7) (lo' := [(0, .ref 24), (2, .int x2)]) (st' := [.ref 9, .int x2]) rfl ?_
    refine st_calli (k' := 190) (as := [.ref 9]) (rest := [.int x2]) (lo' := [(0, .ref 9)]) (wf := fun d => wC L d e) rfl rfl rfl ?_
    refine tText_length_src (fun r_2 d_1 h => ⟨r_2, d_1, rfl, rfl, ?_⟩) d h
    by_cases hc_3 : x2 < r_2
    · have h := Eq.mp (if_pos hc_3) h
      refine st_icmp (t := 13) (b := false) rfl (decide_eq_false (Int32.not_le.mpr hc_3)) rfl ?_
      refine st_go 3 (pc' := 18) (lo' := [(0, .ref 24), (2, .int x2)]) (st' := [.int x2, .ref 9]) rfl ?_
      refine st_calli (k' := 191) (as := [.ref 9, .int x2]) (rest := []) (lo' := [(0, .ref 9), (1, .int x2)]) (wf := fun d => wC L d e) rfl rfl rfl ?_
      refine tText_at_src (fun r_5 d_4 h => ⟨r_5, d_4, rfl, rfl, ?_⟩) x2 d_1 h
      refine st_calli (k' := 206) (as := [.int r_5]) (rest := []) (lo' := [(0, .int r_5)]) (wf := fun d => wC L d e) rfl rfl rfl ?_
      refine tTokens_isBlank (fun r_7 d_6 h => ⟨r_7, d_6, rfl, rfl, ?_⟩) r_5 d_4 h
      by_cases hc_8 : r_7 = 0
      · have h := Eq.mp (if_pos hc_8) h
        refine st_if (t := 33) (b := true) rfl (decide_eq_true hc_8) rfl ?_
        refine st_go 1 (pc' := 34) (lo' := [(0, .ref 24), (2, .int x2)]) (st' := [.int x2]) rfl ?_
        exact st_retI rfl rfl (hQ _ _ h)
      · have h := Eq.mp (if_neg hc_8) h
        refine st_if (t := 27) (b := false) rfl (decide_eq_false hc_8) rfl ?_
        refine st_go 1 (pc' := 30) (lo' := [(2, .int (x2 + 1)), (0, .ref 24)]) (st' := []) rfl ?_
        refine st_locI (fun x2_9 hy_x2_9 => ?_)
        have h := h x2_9 hy_x2_9
        refine st_go 1 (pc' := 2) (lo' := [(2, .int x2_9), (0, .ref 24)]) (st' := []) rfl ?_
        refine vmWp.sub (lo' := [(0, .ref 24), (2, .int x2_9)]) ⟨rfl, rfl, trivial⟩ ?_
        exact ih x2_9 d_6 h
    · have h := Eq.mp (if_neg hc_3) h
      refine st_icmp (t := 33) (b := true) rfl (decide_eq_true (Int32.not_lt.mp hc_3)) rfl ?_
      refine st_go 1 (pc' := 34) (lo' := [(0, .ref 24), (2, .int x2)]) (st' := [.int x2]) rfl ?_
      exact st_retI rfl rfl (hQ _ _ h)
set_option maxRecDepth 100000 in
def Tokens_skipBlanks (x1 : Int32) (d : vmD) (Q : Int32 → vmD → Prop) : Prop :=
  ∃ m2, Tokens_skipBlanks_2 Q m2 x1 d
set_option maxRecDepth 100000 in
set_option maxHeartbeats 4000000 in
theorem tTokens_skipBlanks {L : Nat} {e : vmD} {Qo : Option Value → vmW → Prop} {Q : Int32 → vmD → Prop} (hQ : ∀ r d, Q r d → Qo (some (.int r)) (wC L d e)) (x1 : Int32) (d : vmD) (h : Tokens_skipBlanks x1 d Q) : vmWp 208 0 [(0, .ref 24), (1, .int x1)] [] (wC L d e) Qo := by
  unfold Tokens_skipBlanks at h
  refine st_go 2 (pc' := 2) (lo' := [(2, .int x1), (0, .ref 24), (1, .int x1)]) (st' := []) rfl ?_
  obtain ⟨m2, h⟩ := h
  refine vmWp.sub (lo' := [(0, .ref 24), (2, .int x1)]) ⟨rfl, rfl, trivial⟩ ?_
  exact tTokens_skipBlanks_2 hQ m2 x1 d h
set_option maxRecDepth 100000 in
def Names_digitOf_58 (x0 : Int32) (d : vmD) (Q : Int32 → vmD → Prop) : Prop :=
  if x0 = 95 then
  (Q 37 d)
  else
  (if x0 = 39 then
  (Q 0 d)
  else
  (Q (-1) d))
set_option maxRecDepth 100000 in
set_option maxHeartbeats 4000000 in
theorem tNames_digitOf_58 {L : Nat} {e : vmD} {Qo : Option Value → vmW → Prop} {Q : Int32 → vmD → Prop} (hQ : ∀ r d, Q r d → Qo (some (.int r)) (wC L d e)) (x0 : Int32) (d : vmD) (h : Names_digitOf_58 x0 d Q) : vmWp 135 58 [(0, .int x0)] [] (wC L d e) Qo := by
  unfold Names_digitOf_58 at h
  refine st_go 2 (pc' := 61) (lo' := [(0, .int x0)]) (st' := [.int 95, .int x0]) rfl ?_
  by_cases hc_4 : x0 = 95
  · have h := Eq.mp (if_pos hc_4) h
    refine st_icmp (t := 64) (b := false) rfl (decide_eq_false (fun z => z hc_4)) rfl ?_
    refine st_go 1 (pc' := 66) (lo' := [(0, .int x0)]) (st' := [.int 37]) rfl ?_
    exact st_retI rfl rfl (hQ _ _ h)
  · have h := Eq.mp (if_neg hc_4) h
    refine st_icmp (t := 67) (b := true) rfl (decide_eq_true hc_4) rfl ?_
    refine st_go 2 (pc' := 70) (lo' := [(0, .int x0)]) (st' := [.int 39, .int x0]) rfl ?_
    by_cases hc_5 : x0 = 39
    · have h := Eq.mp (if_pos hc_5) h
      refine st_icmp (t := 73) (b := false) rfl (decide_eq_false (fun z => z hc_5)) rfl ?_
      refine st_go 2 (pc' := 78) (lo' := [(0, .int x0)]) (st' := [.int 0]) rfl ?_
      exact st_retI rfl rfl (hQ _ _ h)
    · have h := Eq.mp (if_neg hc_5) h
      refine st_icmp (t := 77) (b := true) rfl (decide_eq_true hc_5) rfl ?_
      refine st_go 1 (pc' := 78) (lo' := [(0, .int x0)]) (st' := [.int (-1)]) rfl ?_
      exact st_retI rfl rfl (hQ _ _ h)
set_option maxRecDepth 100000 in
def Names_digitOf_38 (x0 : Int32) (d : vmD) (Q : Int32 → vmD → Prop) : Prop :=
  if x0 < 48 then
  (Names_digitOf_58 x0 d Q)
  else
  (if (57 : Int32) < x0 then
  (Names_digitOf_58 x0 d Q)
  else
  (Q ((x0 - 48) + 27) d))
set_option maxRecDepth 100000 in
set_option maxHeartbeats 4000000 in
theorem tNames_digitOf_38 {L : Nat} {e : vmD} {Qo : Option Value → vmW → Prop} {Q : Int32 → vmD → Prop} (hQ : ∀ r d, Q r d → Qo (some (.int r)) (wC L d e)) (x0 : Int32) (d : vmD) (h : Names_digitOf_38 x0 d Q) : vmWp 135 38 [(0, .int x0)] [] (wC L d e) Qo := by
  unfold Names_digitOf_38 at h
  refine st_go 2 (pc' := 41) (lo' := [(0, .int x0)]) (st' := [.int 48, .int x0]) rfl ?_
  by_cases hc_3 : x0 < 48
  · have h := Eq.mp (if_pos hc_3) h
    refine st_icmp (t := 58) (b := true) rfl (decide_eq_true hc_3) rfl ?_
    refine vmWp.sub (lo' := [(0, .int x0)]) ⟨rfl, trivial⟩ ?_
    exact tNames_digitOf_58 hQ x0 d h
  · have h := Eq.mp (if_neg hc_3) h
    refine st_icmp (t := 44) (b := false) rfl (decide_eq_false hc_3) rfl ?_
    refine st_go 2 (pc' := 47) (lo' := [(0, .int x0)]) (st' := [.int 57, .int x0]) rfl ?_
    by_cases hc_6 : (57 : Int32) < x0
    · have h := Eq.mp (if_pos hc_6) h
      refine st_icmp (t := 58) (b := true) rfl (decide_eq_true hc_6) rfl ?_
      refine vmWp.sub (lo' := [(0, .int x0)]) ⟨rfl, trivial⟩ ?_
      exact tNames_digitOf_58 hQ x0 d h
    · have h := Eq.mp (if_neg hc_6) h
      refine st_icmp (t := 50) (b := false) rfl (decide_eq_false hc_6) rfl ?_
      refine st_go 5 (pc' := 57) (lo' := [(0, .int x0)]) (st' := [.int ((x0 - 48) + 27)]) rfl ?_
      exact st_retI rfl rfl (hQ _ _ h)
set_option maxRecDepth 100000 in
def Names_digitOf_19 (x0 : Int32) (d : vmD) (Q : Int32 → vmD → Prop) : Prop :=
  if x0 < 97 then
  (Names_digitOf_38 x0 d Q)
  else
  (if (122 : Int32) < x0 then
  (Names_digitOf_38 x0 d Q)
  else
  (Q ((x0 - 97) + 1) d))
set_option maxRecDepth 100000 in
set_option maxHeartbeats 4000000 in
theorem tNames_digitOf_19 {L : Nat} {e : vmD} {Qo : Option Value → vmW → Prop} {Q : Int32 → vmD → Prop} (hQ : ∀ r d, Q r d → Qo (some (.int r)) (wC L d e)) (x0 : Int32) (d : vmD) (h : Names_digitOf_19 x0 d Q) : vmWp 135 19 [(0, .int x0)] [] (wC L d e) Qo := by
  unfold Names_digitOf_19 at h
  refine st_go 2 (pc' := 22) (lo' := [(0, .int x0)]) (st' := [.int 97, .int x0]) rfl ?_
  by_cases hc_2 : x0 < 97
  · have h := Eq.mp (if_pos hc_2) h
    refine st_icmp (t := 38) (b := true) rfl (decide_eq_true hc_2) rfl ?_
    refine vmWp.sub (lo' := [(0, .int x0)]) ⟨rfl, trivial⟩ ?_
    exact tNames_digitOf_38 hQ x0 d h
  · have h := Eq.mp (if_neg hc_2) h
    refine st_icmp (t := 25) (b := false) rfl (decide_eq_false hc_2) rfl ?_
    refine st_go 2 (pc' := 28) (lo' := [(0, .int x0)]) (st' := [.int 122, .int x0]) rfl ?_
    by_cases hc_7 : (122 : Int32) < x0
    · have h := Eq.mp (if_pos hc_7) h
      refine st_icmp (t := 38) (b := true) rfl (decide_eq_true hc_7) rfl ?_
      refine vmWp.sub (lo' := [(0, .int x0)]) ⟨rfl, trivial⟩ ?_
      exact tNames_digitOf_38 hQ x0 d h
    · have h := Eq.mp (if_neg hc_7) h
      refine st_icmp (t := 31) (b := false) rfl (decide_eq_false hc_7) rfl ?_
      refine st_go 5 (pc' := 37) (lo' := [(0, .int x0)]) (st' := [.int ((x0 - 97) + 1)]) rfl ?_
      exact st_retI rfl rfl (hQ _ _ h)
set_option maxRecDepth 100000 in
def Names_digitOf (x0 : Int32) (d : vmD) (Q : Int32 → vmD → Prop) : Prop :=
  if x0 < 65 then
  (Names_digitOf_19 x0 d Q)
  else
  (if (90 : Int32) < x0 then
  (Names_digitOf_19 x0 d Q)
  else
  (Q ((x0 - 65) + 1) d))
set_option maxRecDepth 100000 in
set_option maxHeartbeats 4000000 in
theorem tNames_digitOf {L : Nat} {e : vmD} {Qo : Option Value → vmW → Prop} {Q : Int32 → vmD → Prop} (hQ : ∀ r d, Q r d → Qo (some (.int r)) (wC L d e)) (x0 : Int32) (d : vmD) (h : Names_digitOf x0 d Q) : vmWp 135 0 [(0, .int x0)] [] (wC L d e) Qo := by
  unfold Names_digitOf at h
  refine st_go 2 (pc' := 3) (lo' := [(0, .int x0)]) (st' := [.int 65, .int x0]) rfl ?_
  by_cases hc_1 : x0 < 65
  · have h := Eq.mp (if_pos hc_1) h
    refine st_icmp (t := 19) (b := true) rfl (decide_eq_true hc_1) rfl ?_
    refine vmWp.sub (lo' := [(0, .int x0)]) ⟨rfl, trivial⟩ ?_
    exact tNames_digitOf_19 hQ x0 d h
  · have h := Eq.mp (if_neg hc_1) h
    refine st_icmp (t := 6) (b := false) rfl (decide_eq_false hc_1) rfl ?_
    refine st_go 2 (pc' := 9) (lo' := [(0, .int x0)]) (st' := [.int 90, .int x0]) rfl ?_
    by_cases hc_8 : (90 : Int32) < x0
    · have h := Eq.mp (if_pos hc_8) h
      refine st_icmp (t := 19) (b := true) rfl (decide_eq_true hc_8) rfl ?_
      refine vmWp.sub (lo' := [(0, .int x0)]) ⟨rfl, trivial⟩ ?_
      exact tNames_digitOf_19 hQ x0 d h
    · have h := Eq.mp (if_neg hc_8) h
      refine st_icmp (t := 12) (b := false) rfl (decide_eq_false hc_8) rfl ?_
      refine st_go 5 (pc' := 18) (lo' := [(0, .int x0)]) (st' := [.int ((x0 - 65) + 1)]) rfl ?_
      exact st_retI rfl rfl (hQ _ _ h)
set_option maxRecDepth 100000 in
def Tokens_beginsName_16 (x1 : Int32) (d : vmD) (Q : Int32 → vmD → Prop) : Prop :=
  if x1 = 37 then
  (Q 1 d)
  else
  (Q 0 d)
set_option maxRecDepth 100000 in
set_option maxHeartbeats 4000000 in
theorem tTokens_beginsName_16 {L : Nat} {e : vmD} {Qo : Option Value → vmW → Prop} {Q : Int32 → vmD → Prop} (hQ : ∀ r d, Q r d → Qo (some (.int r)) (wC L d e)) (x1 : Int32) (d : vmD) (h : Tokens_beginsName_16 x1 d Q) : vmWp 207 16 [(1, .int x1)] [] (wC L d e) Qo := by
  unfold Tokens_beginsName_16 at h
  refine st_go 2 (pc' := 19) (lo' := [(1, .int x1)]) (st' := [.int 37, .int x1]) rfl ?_
  by_cases hc_4 : x1 = 37
  · have h := Eq.mp (if_pos hc_4) h
    refine st_icmp (t := 22) (b := false) rfl (decide_eq_false (fun z => z hc_4)) rfl ?_
    refine st_go 2 (pc' := 27) (lo' := [(1, .int x1)]) (st' := [.int 1]) rfl ?_
    exact st_retZ rfl rfl (Or.inr rfl) (hQ _ _ h)
  · have h := Eq.mp (if_neg hc_4) h
    refine st_icmp (t := 26) (b := true) rfl (decide_eq_true hc_4) rfl ?_
    refine st_go 1 (pc' := 27) (lo' := [(1, .int x1)]) (st' := [.int 0]) rfl ?_
    exact st_retZ rfl rfl (Or.inl rfl) (hQ _ _ h)
set_option maxRecDepth 100000 in
def Tokens_beginsName (x0 : Int32) (d : vmD) (Q : Int32 → vmD → Prop) : Prop :=
  Names_digitOf x0 d fun r_2 d_1 =>
  if r_2 < 1 then
  (Tokens_beginsName_16 r_2 d_1 Q)
  else
  (if (26 : Int32) < r_2 then
  (Tokens_beginsName_16 r_2 d_1 Q)
  else
  (Q 1 d_1))
set_option maxRecDepth 100000 in
set_option maxHeartbeats 4000000 in
theorem tTokens_beginsName {L : Nat} {e : vmD} {Qo : Option Value → vmW → Prop} {Q : Int32 → vmD → Prop} (hQ : ∀ r d, Q r d → Qo (some (.int r)) (wC L d e)) (x0 : Int32) (d : vmD) (h : Tokens_beginsName x0 d Q) : vmWp 207 0 [(0, .int x0)] [] (wC L d e) Qo := by
  unfold Tokens_beginsName at h
  refine st_go 1 (pc' := 1) (lo' := [(0, .int x0)]) (st' := [.int x0]) rfl ?_
  refine st_calli (k' := 135) (as := [.int x0]) (rest := []) (lo' := [(0, .int x0)]) (wf := fun d => wC L d e) rfl rfl rfl ?_
  refine tNames_digitOf (fun r_2 d_1 h => ⟨r_2, d_1, rfl, rfl, ?_⟩) x0 d h
  refine st_go 3 (pc' := 7) (lo' := [(1, .int r_2), (0, .int x0)]) (st' := [.int 1, .int r_2]) rfl ?_
  by_cases hc_3 : r_2 < 1
  · have h := Eq.mp (if_pos hc_3) h
    refine st_icmp (t := 16) (b := true) rfl (decide_eq_true hc_3) rfl ?_
    refine vmWp.sub (lo' := [(1, .int r_2)]) ⟨rfl, trivial⟩ ?_
    exact tTokens_beginsName_16 hQ r_2 d_1 h
  · have h := Eq.mp (if_neg hc_3) h
    refine st_icmp (t := 10) (b := false) rfl (decide_eq_false hc_3) rfl ?_
    refine st_go 2 (pc' := 13) (lo' := [(1, .int r_2), (0, .int x0)]) (st' := [.int 26, .int r_2]) rfl ?_
    by_cases hc_5 : (26 : Int32) < r_2
    · have h := Eq.mp (if_pos hc_5) h
      refine st_icmp (t := 16) (b := false) rfl (decide_eq_false (Int32.not_le.mpr hc_5)) rfl ?_
      refine vmWp.sub (lo' := [(1, .int r_2)]) ⟨rfl, trivial⟩ ?_
      exact tTokens_beginsName_16 hQ r_2 d_1 h
    · have h := Eq.mp (if_neg hc_5) h
      refine st_icmp (t := 22) (b := true) rfl (decide_eq_true (Int32.not_lt.mp hc_5)) rfl ?_
      refine st_go 2 (pc' := 27) (lo' := [(1, .int r_2), (0, .int x0)]) (st' := [.int 1]) rfl ?_
      exact st_retZ rfl rfl (Or.inr rfl) (hQ _ _ h)
set_option maxRecDepth 100000 in
def Tokens_nameEnd_16 (Q : Int32 → vmD → Prop) : Nat → Int32 → vmD → Prop
  | 0, _, _ => False
  | n + 1, x2, d => Text_length_src d fun r_7 d_6 =>
  if x2 < r_7 then
  (Text_at_src x2 d_6 fun r_10 d_9 =>
  Names_digitOf r_10 d_9 fun r_12 d_11 =>
  if (0 : Int32) < r_12 then
  (bnd (x2 + 1) fun x2_14 =>
  (Tokens_nameEnd_16 Q n) x2_14 d_11)
  else
  (Q x2 d_11))
  else
  (Q x2 d_6)
set_option maxRecDepth 100000 in
set_option maxHeartbeats 4000000 in
theorem tTokens_nameEnd_16 {L : Nat} {e : vmD} {Qo : Option Value → vmW → Prop} {Q : Int32 → vmD → Prop} (hQ : ∀ r d, Q r d → Qo (some (.int r)) (wC L d e)) : ∀ (n : Nat) (x2 : Int32) (d : vmD), Tokens_nameEnd_16 Q n x2 d → vmWp 209 16 [(0, .ref 24), (2, .int x2)] [] (wC L d e) Qo := by
  intro n
  induction n with
  | zero => intro x2 d h; exact h.elim
  | succ n ih =>
    intro x2 d h
    unfold Tokens_nameEnd_16 at h
    refine st_go 3 (pc' := 21) (lo' := [(0, .ref 24), (2, .int x2)]) (st' := [.ref 9, .int x2]) rfl ?_
    refine st_calli (k' := 190) (as := [.ref 9]) (rest := [.int x2]) (lo' := [(0, .ref 9)]) (wf := fun d => wC L d e) rfl rfl rfl ?_
    refine tText_length_src (fun r_7 d_6 h => ⟨r_7, d_6, rfl, rfl, ?_⟩) d h
    by_cases hc_8 : x2 < r_7
    · have h := Eq.mp (if_pos hc_8) h
      refine st_icmp (t := 27) (b := false) rfl (decide_eq_false (Int32.not_le.mpr hc_8)) rfl ?_
      refine st_go 3 (pc' := 32) (lo' := [(0, .ref 24), (2, .int x2)]) (st' := [.int x2, .ref 9]) rfl ?_
      refine st_calli (k' := 191) (as := [.ref 9, .int x2]) (rest := []) (lo' := [(0, .ref 9), (1, .int x2)]) (wf := fun d => wC L d e) rfl rfl rfl ?_
      refine tText_at_src (fun r_10 d_9 h => ⟨r_10, d_9, rfl, rfl, ?_⟩) x2 d_6 h
      refine st_calli (k' := 135) (as := [.int r_10]) (rest := []) (lo' := [(0, .int r_10)]) (wf := fun d => wC L d e) rfl rfl rfl ?_
      refine tNames_digitOf (fun r_12 d_11 h => ⟨r_12, d_11, rfl, rfl, ?_⟩) r_10 d_9 h
      by_cases hc_13 : (0 : Int32) < r_12
      · have h := Eq.mp (if_pos hc_13) h
        refine st_if (t := 41) (b := false) rfl (decide_eq_false (Int32.not_le.mpr hc_13)) rfl ?_
        refine st_go 1 (pc' := 44) (lo' := [(2, .int (x2 + 1)), (0, .ref 24)]) (st' := []) rfl ?_
        refine st_locI (fun x2_14 hy_x2_14 => ?_)
        have h := h x2_14 hy_x2_14
        refine st_go 1 (pc' := 16) (lo' := [(2, .int x2_14), (0, .ref 24)]) (st' := []) rfl ?_
        refine vmWp.sub (lo' := [(0, .ref 24), (2, .int x2_14)]) ⟨rfl, rfl, trivial⟩ ?_
        exact ih x2_14 d_11 h
      · have h := Eq.mp (if_neg hc_13) h
        refine st_if (t := 47) (b := true) rfl (decide_eq_true (Int32.not_lt.mp hc_13)) rfl ?_
        refine st_go 1 (pc' := 48) (lo' := [(0, .ref 24), (2, .int x2)]) (st' := [.int x2]) rfl ?_
        exact st_retI rfl rfl (hQ _ _ h)
    · have h := Eq.mp (if_neg hc_8) h
      refine st_icmp (t := 47) (b := true) rfl (decide_eq_true (Int32.not_lt.mp hc_8)) rfl ?_
      refine st_go 1 (pc' := 48) (lo' := [(0, .ref 24), (2, .int x2)]) (st' := [.int x2]) rfl ?_
      exact st_retI rfl rfl (hQ _ _ h)
set_option maxRecDepth 100000 in
def Tokens_nameEnd (x1 : Int32) (d : vmD) (Q : Int32 → vmD → Prop) : Prop :=
  Text_at_src x1 d fun r_2 d_1 =>
  Tokens_beginsName r_2 d_1 fun r_4 d_3 =>
  if r_4 = 0 then
  (Q x1 d_3)
  else
  (∃ m16, Tokens_nameEnd_16 Q m16 x1 d_3)
set_option maxRecDepth 100000 in
set_option maxHeartbeats 4000000 in
theorem tTokens_nameEnd {L : Nat} {e : vmD} {Qo : Option Value → vmW → Prop} {Q : Int32 → vmD → Prop} (hQ : ∀ r d, Q r d → Qo (some (.int r)) (wC L d e)) (x1 : Int32) (d : vmD) (h : Tokens_nameEnd x1 d Q) : vmWp 209 0 [(0, .ref 24), (1, .int x1)] [] (wC L d e) Qo := by
  unfold Tokens_nameEnd at h
  refine st_go 5 (pc' := 7) (lo' := [(2, .int x1), (0, .ref 24), (1, .int x1)]) (st' := [.int x1, .ref 9]) rfl ?_
  refine st_calli (k' := 191) (as := [.ref 9, .int x1]) (rest := []) (lo' := [(0, .ref 9), (1, .int x1)]) (wf := fun d => wC L d e) rfl rfl rfl ?_
  refine tText_at_src (fun r_2 d_1 h => ⟨r_2, d_1, rfl, rfl, ?_⟩) x1 d h
  refine st_calli (k' := 207) (as := [.int r_2]) (rest := []) (lo' := [(0, .int r_2)]) (wf := fun d => wC L d e) rfl rfl rfl ?_
  refine tTokens_beginsName (fun r_4 d_3 h => ⟨r_4, d_3, rfl, rfl, ?_⟩) r_2 d_1 h
  by_cases hc_5 : r_4 = 0
  · have h := Eq.mp (if_pos hc_5) h
    refine st_if (t := 47) (b := true) rfl (decide_eq_true hc_5) rfl ?_
    refine st_go 1 (pc' := 48) (lo' := [(2, .int x1), (0, .ref 24), (1, .int x1)]) (st' := [.int x1]) rfl ?_
    exact st_retI rfl rfl (hQ _ _ h)
  · have h := Eq.mp (if_neg hc_5) h
    refine st_if (t := 16) (b := false) rfl (decide_eq_false hc_5) rfl ?_
    obtain ⟨m16, h⟩ := h
    refine vmWp.sub (lo' := [(0, .ref 24), (2, .int x1)]) ⟨rfl, rfl, trivial⟩ ?_
    exact tTokens_nameEnd_16 hQ m16 x1 d_3 h
set_option maxRecDepth 100000 in
def Tokens_rulingPlace_38 (x2 : Int32) (x3 : Int32) (d : vmD) (Q : Int32 → vmD → Prop) : Prop :=
  if x3 = x2 then
  (Q (-1) d)
  else
  (Q x2 d)
set_option maxRecDepth 100000 in
set_option maxHeartbeats 4000000 in
theorem tTokens_rulingPlace_38 {L : Nat} {e : vmD} {Qo : Option Value → vmW → Prop} {Q : Int32 → vmD → Prop} (hQ : ∀ r d, Q r d → Qo (some (.int r)) (wC L d e)) (x2 : Int32) (x3 : Int32) (d : vmD) (h : Tokens_rulingPlace_38 x2 x3 d Q) : vmWp 211 38 [(2, .int x2), (3, .int x3)] [] (wC L d e) Qo := by
  unfold Tokens_rulingPlace_38 at h
  refine st_go 2 (pc' := 40) (lo' := [(2, .int x2), (3, .int x3)]) (st' := [.int x2, .int x3]) rfl ?_
  by_cases hc_8 : x3 = x2
  · have h := Eq.mp (if_pos hc_8) h
    refine st_icmp (t := 43) (b := false) rfl (decide_eq_false (fun z => z hc_8)) rfl ?_
    refine st_go 2 (pc' := 48) (lo' := [(2, .int x2), (3, .int x3)]) (st' := [.int (-1)]) rfl ?_
    exact st_retI rfl rfl (hQ _ _ h)
  · have h := Eq.mp (if_neg hc_8) h
    refine st_icmp (t := 47) (b := true) rfl (decide_eq_true hc_8) rfl ?_
    refine st_go 1 (pc' := 48) (lo' := [(2, .int x2), (3, .int x3)]) (st' := [.int x2]) rfl ?_
    exact st_retI rfl rfl (hQ _ _ h)
set_option maxRecDepth 100000 in
def Tokens_rulingPlace (x1 : Int32) (d : vmD) (Q : Int32 → vmD → Prop) : Prop :=
  Tokens_skipBlanks x1 d fun r_2 d_1 =>
  Tokens_nameEnd r_2 d_1 fun r_4 d_3 =>
  Tokens_skipBlanks r_4 d_3 fun r_6 d_5 =>
  if r_4 = r_2 then
  (Tokens_rulingPlace_38 r_2 r_4 d_5 Q)
  else
  (Text_at_src r_6 d_5 fun r_10 d_9 =>
  if r_10 = 58 then
  (Tokens_skipBlanks (r_6 + 1) d_9 fun r_13 d_12 =>
  Tokens_nameEnd r_13 d_12 fun r_15 d_14 =>
  if r_15 = r_13 then
  (Q (-1) d_14)
  else
  (Q r_13 d_14))
  else
  (Tokens_rulingPlace_38 r_2 r_4 d_9 Q))
set_option maxRecDepth 100000 in
set_option maxHeartbeats 4000000 in
theorem tTokens_rulingPlace {L : Nat} {e : vmD} {Qo : Option Value → vmW → Prop} {Q : Int32 → vmD → Prop} (hQ : ∀ r d, Q r d → Qo (some (.int r)) (wC L d e)) (x1 : Int32) (d : vmD) (h : Tokens_rulingPlace x1 d Q) : vmWp 211 0 [(0, .ref 24), (1, .int x1)] [] (wC L d e) Qo := by
  unfold Tokens_rulingPlace at h
  refine st_go 2 (pc' := 2) (lo' := [(0, .ref 24), (1, .int x1)]) (st' := [.int x1, .ref 24]) rfl ?_
  refine st_calli (k' := 208) (as := [.ref 24, .int x1]) (rest := []) (lo' := [(0, .ref 24), (1, .int x1)]) (wf := fun d => wC L d e) rfl rfl rfl ?_
  refine tTokens_skipBlanks (fun r_2 d_1 h => ⟨r_2, d_1, rfl, rfl, ?_⟩) x1 d h
  refine st_go 3 (pc' := 8) (lo' := [(2, .int r_2), (0, .ref 24), (1, .int x1)]) (st' := [.int r_2, .ref 24]) rfl ?_
  refine st_calli (k' := 209) (as := [.ref 24, .int r_2]) (rest := []) (lo' := [(0, .ref 24), (1, .int r_2)]) (wf := fun d => wC L d e) rfl rfl rfl ?_
  refine tTokens_nameEnd (fun r_4 d_3 h => ⟨r_4, d_3, rfl, rfl, ?_⟩) r_2 d_1 h
  refine st_go 3 (pc' := 14) (lo' := [(3, .int r_4), (2, .int r_2), (0, .ref 24), (1, .int x1)]) (st' := [.int r_4, .ref 24]) rfl ?_
  refine st_calli (k' := 208) (as := [.ref 24, .int r_4]) (rest := []) (lo' := [(0, .ref 24), (1, .int r_4)]) (wf := fun d => wC L d e) rfl rfl rfl ?_
  refine tTokens_skipBlanks (fun r_6 d_5 h => ⟨r_6, d_5, rfl, rfl, ?_⟩) r_4 d_3 h
  refine st_go 3 (pc' := 21) (lo' := [(4, .int r_6), (3, .int r_4), (2, .int r_2), (0, .ref 24), (1, .int x1)]) (st' := [.int r_2, .int r_4]) rfl ?_
  by_cases hc_7 : r_4 = r_2
  · have h := Eq.mp (if_pos hc_7) h
    refine st_icmp (t := 38) (b := true) rfl (decide_eq_true hc_7) rfl ?_
    refine vmWp.sub (lo' := [(2, .int r_2), (3, .int r_4)]) ⟨rfl, rfl, trivial⟩ ?_
    exact tTokens_rulingPlace_38 hQ r_2 r_4 d_5 h
  · have h := Eq.mp (if_neg hc_7) h
    refine st_icmp (t := 24) (b := false) rfl (decide_eq_false hc_7) rfl ?_
    refine st_go 3 (pc' := 30) (lo' := [(4, .int r_6), (3, .int r_4), (2, .int r_2), (0, .ref 24), (1, .int x1)]) (st' := [.int r_6, .ref 9]) rfl ?_
    refine st_calli (k' := 191) (as := [.ref 9, .int r_6]) (rest := []) (lo' := [(0, .ref 9), (1, .int r_6)]) (wf := fun d => wC L d e) rfl rfl rfl ?_
    refine tText_at_src (fun r_10 d_9 h => ⟨r_10, d_9, rfl, rfl, ?_⟩) r_6 d_5 h
    refine st_go 1 (pc' := 35) (lo' := [(4, .int r_6), (3, .int r_4), (2, .int r_2), (0, .ref 24), (1, .int x1)]) (st' := [.int 58, .int r_10]) rfl ?_
    by_cases hc_11 : r_10 = 58
    · have h := Eq.mp (if_pos hc_11) h
      refine st_icmp (t := 49) (b := true) rfl (decide_eq_true hc_11) rfl ?_
      refine st_go 4 (pc' := 54) (lo' := [(4, .int r_6), (3, .int r_4), (2, .int r_2), (0, .ref 24), (1, .int x1)]) (st' := [.int (r_6 + 1), .ref 24]) rfl ?_
      refine st_calli (k' := 208) (as := [.ref 24, .int (r_6 + 1)]) (rest := []) (lo' := [(0, .ref 24), (1, .int (r_6 + 1))]) (wf := fun d => wC L d e) rfl rfl rfl ?_
      refine tTokens_skipBlanks (fun r_13 d_12 h => ⟨r_13, d_12, rfl, rfl, ?_⟩) (r_6 + 1) d_9 h
      refine st_go 3 (pc' := 62) (lo' := [(5, .int r_13), (4, .int r_6), (3, .int r_4), (2, .int r_2), (0, .ref 24), (1, .int x1)]) (st' := [.int r_13, .ref 24]) rfl ?_
      refine st_calli (k' := 209) (as := [.ref 24, .int r_13]) (rest := []) (lo' := [(0, .ref 24), (1, .int r_13)]) (wf := fun d => wC L d e) rfl rfl rfl ?_
      refine tTokens_nameEnd (fun r_15 d_14 h => ⟨r_15, d_14, rfl, rfl, ?_⟩) r_13 d_12 h
      refine st_go 1 (pc' := 67) (lo' := [(5, .int r_13), (4, .int r_6), (3, .int r_4), (2, .int r_2), (0, .ref 24), (1, .int x1)]) (st' := [.int r_13, .int r_15]) rfl ?_
      by_cases hc_16 : r_15 = r_13
      · have h := Eq.mp (if_pos hc_16) h
        refine st_icmp (t := 70) (b := false) rfl (decide_eq_false (fun z => z hc_16)) rfl ?_
        refine st_go 2 (pc' := 76) (lo' := [(5, .int r_13), (4, .int r_6), (3, .int r_4), (2, .int r_2), (0, .ref 24), (1, .int x1)]) (st' := [.int (-1)]) rfl ?_
        exact st_retI rfl rfl (hQ _ _ h)
      · have h := Eq.mp (if_neg hc_16) h
        refine st_icmp (t := 74) (b := true) rfl (decide_eq_true hc_16) rfl ?_
        refine st_go 1 (pc' := 76) (lo' := [(5, .int r_13), (4, .int r_6), (3, .int r_4), (2, .int r_2), (0, .ref 24), (1, .int x1)]) (st' := [.int r_13]) rfl ?_
        exact st_retI rfl rfl (hQ _ _ h)
    · have h := Eq.mp (if_neg hc_11) h
      refine st_icmp (t := 38) (b := false) rfl (decide_eq_false hc_11) rfl ?_
      refine vmWp.sub (lo' := [(2, .int r_2), (3, .int r_4)]) ⟨rfl, rfl, trivial⟩ ?_
      exact tTokens_rulingPlace_38 hQ r_2 r_4 d_9 h
set_option maxRecDepth 100000 in
def Conditions_allows (x1 : Int32) (d : vmD) (Q : Int32 → vmD → Prop) : Prop :=
  if x1 = 104 then
  (if (gF d 22 1) < 8 then
  (Q 1 d)
  else
  (Q 0 d))
  else
  (if (0 : Int32) < (gF d 22 1) then
  (if x1 = 106 then
  (Q 1 d)
  else
  (Conditions_latest d fun r_6 d_5 =>
  if (r_6 &&& 2) = 0 then
  (Q 1 d_5)
  else
  (Q 0 d_5)))
  else
  (Q 0 d))
set_option maxRecDepth 100000 in
set_option maxHeartbeats 4000000 in
theorem tConditions_allows {L : Nat} {e : vmD} {Qo : Option Value → vmW → Prop} {Q : Int32 → vmD → Prop} (hQ : ∀ r d, Q r d → Qo (some (.int r)) (wC L d e)) (x1 : Int32) (d : vmD) (h : Conditions_allows x1 d Q) : vmWp 5 0 [(0, .ref 22), (1, .int x1)] [] (wC L d e) Qo := by
  unfold Conditions_allows at h
  refine st_go 2 (pc' := 3) (lo' := [(0, .ref 22), (1, .int x1)]) (st' := [.int 104, .int x1]) rfl ?_
  by_cases hc_1 : x1 = 104
  · have h := Eq.mp (if_pos hc_1) h
    refine st_icmp (t := 6) (b := false) rfl (decide_eq_false (fun z => z hc_1)) rfl ?_
    refine st_go 3 (pc' := 12) (lo' := [(0, .ref 22), (1, .int x1)]) (st' := [.int 8, .int (gF d 22 1)]) rfl ?_
    by_cases hc_2 : (gF d 22 1) < 8
    · have h := Eq.mp (if_pos hc_2) h
      refine st_icmp (t := 15) (b := false) rfl (decide_eq_false (Int32.not_le.mpr hc_2)) rfl ?_
      refine st_go 2 (pc' := 20) (lo' := [(0, .ref 22), (1, .int x1)]) (st' := [.int 1]) rfl ?_
      exact st_retZ rfl rfl (Or.inr rfl) (hQ _ _ h)
    · have h := Eq.mp (if_neg hc_2) h
      refine st_icmp (t := 19) (b := true) rfl (decide_eq_true (Int32.not_lt.mp hc_2)) rfl ?_
      refine st_go 1 (pc' := 20) (lo' := [(0, .ref 22), (1, .int x1)]) (st' := [.int 0]) rfl ?_
      exact st_retZ rfl rfl (Or.inl rfl) (hQ _ _ h)
  · have h := Eq.mp (if_neg hc_1) h
    refine st_icmp (t := 21) (b := true) rfl (decide_eq_true hc_1) rfl ?_
    refine st_go 2 (pc' := 25) (lo' := [(0, .ref 22), (1, .int x1)]) (st' := [.int (gF d 22 1)]) rfl ?_
    by_cases hc_3 : (0 : Int32) < (gF d 22 1)
    · have h := Eq.mp (if_pos hc_3) h
      refine st_if (t := 28) (b := false) rfl (decide_eq_false (Int32.not_le.mpr hc_3)) rfl ?_
      refine st_go 2 (pc' := 31) (lo' := [(0, .ref 22), (1, .int x1)]) (st' := [.int 106, .int x1]) rfl ?_
      by_cases hc_4 : x1 = 106
      · have h := Eq.mp (if_pos hc_4) h
        refine st_icmp (t := 43) (b := true) rfl (decide_eq_true hc_4) rfl ?_
        refine st_go 2 (pc' := 48) (lo' := [(0, .ref 22), (1, .int x1)]) (st' := [.int 1]) rfl ?_
        exact st_retZ rfl rfl (Or.inr rfl) (hQ _ _ h)
      · have h := Eq.mp (if_neg hc_4) h
        refine st_icmp (t := 34) (b := false) rfl (decide_eq_false hc_4) rfl ?_
        refine st_go 1 (pc' := 35) (lo' := [(0, .ref 22), (1, .int x1)]) (st' := [.ref 22]) rfl ?_
        refine st_calli (k' := 3) (as := [.ref 22]) (rest := []) (lo' := [(0, .ref 22)]) (wf := fun d => wC L d e) rfl rfl rfl ?_
        refine tConditions_latest (fun r_6 d_5 h => ⟨r_6, d_5, rfl, rfl, ?_⟩) d h
        refine st_go 2 (pc' := 40) (lo' := [(0, .ref 22), (1, .int x1)]) (st' := [.int (r_6 &&& 2)]) rfl ?_
        by_cases hc_7 : (r_6 &&& 2) = 0
        · have h := Eq.mp (if_pos hc_7) h
          refine st_if (t := 43) (b := false) rfl (decide_eq_false (fun z => z hc_7)) rfl ?_
          refine st_go 2 (pc' := 48) (lo' := [(0, .ref 22), (1, .int x1)]) (st' := [.int 1]) rfl ?_
          exact st_retZ rfl rfl (Or.inr rfl) (hQ _ _ h)
        · have h := Eq.mp (if_neg hc_7) h
          refine st_if (t := 47) (b := true) rfl (decide_eq_true hc_7) rfl ?_
          refine st_go 1 (pc' := 48) (lo' := [(0, .ref 22), (1, .int x1)]) (st' := [.int 0]) rfl ?_
          exact st_retZ rfl rfl (Or.inl rfl) (hQ _ _ h)
    · have h := Eq.mp (if_neg hc_3) h
      refine st_if (t := 47) (b := true) rfl (decide_eq_true (Int32.not_lt.mp hc_3)) rfl ?_
      refine st_go 1 (pc' := 48) (lo' := [(0, .ref 22), (1, .int x1)]) (st' := [.int 0]) rfl ?_
      exact st_retZ rfl rfl (Or.inl rfl) (hQ _ _ h)
set_option maxRecDepth 100000 in
def Conditions_change (x1 : Int32) (d : vmD) (Q : vmD → Prop) : Prop :=
  if (0 : Int32) < (gF d 22 1) then
  (if (8 : Int32) < (gF d 22 1) then
  (Q d)
  else
  (ixOk ((gF d 22 1) - 1) 8 ∧
  bnd (sA d 23 ((gF d 22 1) - 1).toNatClampNeg x1) fun d_4 =>
  Q d_4))
  else
  (Q d)
set_option maxRecDepth 100000 in
set_option maxHeartbeats 4000000 in
theorem tConditions_change {L : Nat} {e : vmD} {Qo : Option Value → vmW → Prop} {Q : vmD → Prop} (hQ : ∀ d, Q d → Qo none (wC L d e)) (x1 : Int32) (d : vmD) (h : Conditions_change x1 d Q) : vmWp 7 0 [(0, .ref 22), (1, .int x1)] [] (wC L d e) Qo := by
  unfold Conditions_change at h
  refine st_go 2 (pc' := 4) (lo' := [(0, .ref 22), (1, .int x1)]) (st' := [.int (gF d 22 1)]) rfl ?_
  by_cases hc_1 : (0 : Int32) < (gF d 22 1)
  · have h := Eq.mp (if_pos hc_1) h
    refine st_if (t := 7) (b := false) rfl (decide_eq_false (Int32.not_le.mpr hc_1)) rfl ?_
    refine st_go 3 (pc' := 13) (lo' := [(0, .ref 22), (1, .int x1)]) (st' := [.int 8, .int (gF d 22 1)]) rfl ?_
    by_cases hc_2 : (8 : Int32) < (gF d 22 1)
    · have h := Eq.mp (if_pos hc_2) h
      refine st_icmp (t := 28) (b := true) rfl (decide_eq_true hc_2) rfl ?_
      exact st_retV rfl rfl (hQ _ h)
    · have h := Eq.mp (if_neg hc_2) h
      refine st_icmp (t := 16) (b := false) rfl (decide_eq_false hc_2) rfl ?_
      refine st_go 7 (pc' := 27) (lo' := [(0, .ref 22), (1, .int x1)]) (st' := [.int x1, .int ((gF d 22 1) - 1), .ref 23]) rfl ?_
      obtain ⟨hj_3, h⟩ := h
      refine st_iastC (o := 23) rfl rfl hj_3 rfl (fun d_4 hy_d_4 => ?_)
      have h := h d_4 hy_d_4
      exact st_retV rfl rfl (hQ _ h)
  · have h := Eq.mp (if_neg hc_1) h
    refine st_if (t := 28) (b := true) rfl (decide_eq_true (Int32.not_lt.mp hc_1)) rfl ?_
    exact st_retV rfl rfl (hQ _ h)
set_option maxRecDepth 100000 in
def Conditions_pass_53 (s0 : Int32) (s1 : Int32) (d : vmD) (Q : vmD → Prop) : Prop :=
  Conditions_change (s1 ||| s0) d fun d_10 =>
  Q d_10
set_option maxRecDepth 100000 in
set_option maxHeartbeats 4000000 in
theorem tConditions_pass_53 {L : Nat} {e : vmD} {Qo : Option Value → vmW → Prop} {Q : vmD → Prop} (hQ : ∀ d, Q d → Qo none (wC L d e)) (s0 : Int32) (s1 : Int32) (d : vmD) (h : Conditions_pass_53 s0 s1 d Q) : vmWp 6 53 [] [.int s0, .int s1, .ref 22] (wC L d e) Qo := by
  unfold Conditions_pass_53 at h
  refine st_go 1 (pc' := 54) (lo' := []) (st' := [.int (s1 ||| s0), .ref 22]) rfl ?_
  refine st_callv (k' := 7) (as := [.ref 22, .int (s1 ||| s0)]) (rest := []) (lo' := [(0, .ref 22), (1, .int (s1 ||| s0))]) (wf := fun d => wC L d e) rfl rfl rfl ?_
  refine tConditions_change (fun d_10 h => ⟨d_10, rfl, rfl, ?_⟩) (s1 ||| s0) d h
  refine st_go 1 (pc' := 117) (lo' := []) (st' := []) rfl ?_
  exact st_retV rfl rfl (hQ _ h)
set_option maxRecDepth 100000 in
def Conditions_pass_52 (s0 : Int32) (d : vmD) (Q : vmD → Prop) : Prop :=
  Conditions_pass_53 0 s0 d Q
set_option maxRecDepth 100000 in
set_option maxHeartbeats 4000000 in
theorem tConditions_pass_52 {L : Nat} {e : vmD} {Qo : Option Value → vmW → Prop} {Q : vmD → Prop} (hQ : ∀ d, Q d → Qo none (wC L d e)) (s0 : Int32) (d : vmD) (h : Conditions_pass_52 s0 d Q) : vmWp 6 52 [] [.int s0, .ref 22] (wC L d e) Qo := by
  unfold Conditions_pass_52 at h
  refine st_go 1 (pc' := 53) (lo' := []) (st' := [.int 0, .int s0, .ref 22]) rfl ?_
  refine vmWp.sub (lo' := []) trivial ?_
  exact tConditions_pass_53 hQ 0 s0 d h
set_option maxRecDepth 100000 in
def Conditions_pass_27 (x2 : Int32) (s0 : Int32) (d : vmD) (Q : vmD → Prop) : Prop :=
  bnd (sF d 22 1 ((gF d 22 1) + 1)) fun d_8 =>
  if s0 = 0 then
  (Conditions_pass_52 s0 d_8 Q)
  else
  (if x2 = 0 then
  (Conditions_pass_52 s0 d_8 Q)
  else
  (Conditions_pass_53 1 s0 d_8 Q))
set_option maxRecDepth 100000 in
set_option maxHeartbeats 4000000 in
theorem tConditions_pass_27 {L : Nat} {e : vmD} {Qo : Option Value → vmW → Prop} {Q : vmD → Prop} (hQ : ∀ d, Q d → Qo none (wC L d e)) (x2 : Int32) (s0 : Int32) (d : vmD) (h : Conditions_pass_27 x2 s0 d Q) : vmWp 6 27 [(0, .ref 22), (2, .int x2)] [.int s0] (wC L d e) Qo := by
  unfold Conditions_pass_27 at h
  refine st_go 6 (pc' := 35) (lo' := [(3, .int s0), (0, .ref 22), (2, .int x2)]) (st' := [.int ((gF d 22 1) + 1), .ref 22]) rfl ?_
  refine st_putIC (o := 22) (f := 1) rfl rfl rfl rfl rfl (fun d_8 hy_d_8 => ?_)
  have h := h d_8 hy_d_8
  refine st_go 3 (pc' := 41) (lo' := [(3, .int s0), (0, .ref 22), (2, .int x2)]) (st' := [.int s0, .int s0, .ref 22]) rfl ?_
  by_cases hc_9 : s0 = 0
  · have h := Eq.mp (if_pos hc_9) h
    refine st_if (t := 52) (b := true) rfl (decide_eq_true hc_9) rfl ?_
    refine vmWp.sub (lo' := []) trivial ?_
    exact tConditions_pass_52 hQ s0 d_8 h
  · have h := Eq.mp (if_neg hc_9) h
    refine st_if (t := 44) (b := false) rfl (decide_eq_false hc_9) rfl ?_
    refine st_go 1 (pc' := 45) (lo' := [(3, .int s0), (0, .ref 22), (2, .int x2)]) (st' := [.int x2, .int s0, .ref 22]) rfl ?_
    by_cases hc_11 : x2 = 0
    · have h := Eq.mp (if_pos hc_11) h
      refine st_if (t := 52) (b := true) rfl (decide_eq_true hc_11) rfl ?_
      refine vmWp.sub (lo' := []) trivial ?_
      exact tConditions_pass_52 hQ s0 d_8 h
    · have h := Eq.mp (if_neg hc_11) h
      refine st_if (t := 48) (b := false) rfl (decide_eq_false hc_11) rfl ?_
      refine st_go 2 (pc' := 53) (lo' := [(3, .int s0), (0, .ref 22), (2, .int x2)]) (st' := [.int 1, .int s0, .ref 22]) rfl ?_
      refine vmWp.sub (lo' := []) trivial ?_
      exact tConditions_pass_53 hQ 1 s0 d_8 h
set_option maxRecDepth 100000 in
def Conditions_pass_112 (s0 : Int32) (d : vmD) (Q : vmD → Prop) : Prop :=
  Conditions_change (s0 ||| 2) d fun d_20 =>
  Q d_20
set_option maxRecDepth 100000 in
set_option maxHeartbeats 4000000 in
theorem tConditions_pass_112 {L : Nat} {e : vmD} {Qo : Option Value → vmW → Prop} {Q : vmD → Prop} (hQ : ∀ d, Q d → Qo none (wC L d e)) (s0 : Int32) (d : vmD) (h : Conditions_pass_112 s0 d Q) : vmWp 6 112 [] [.int s0, .ref 22] (wC L d e) Qo := by
  unfold Conditions_pass_112 at h
  refine st_go 2 (pc' := 114) (lo' := []) (st' := [.int (s0 ||| 2), .ref 22]) rfl ?_
  refine st_callv (k' := 7) (as := [.ref 22, .int (s0 ||| 2)]) (rest := []) (lo' := [(0, .ref 22), (1, .int (s0 ||| 2))]) (wf := fun d => wC L d e) rfl rfl rfl ?_
  refine tConditions_change (fun d_20 h => ⟨d_20, rfl, rfl, ?_⟩) (s0 ||| 2) d h
  exact st_retV rfl rfl (hQ _ h)
set_option maxRecDepth 100000 in
def Conditions_pass_93 (s0 : Int32) (d : vmD) (Q : vmD → Prop) : Prop :=
  if s0 = 0 then
  (Conditions_latest d fun r_19 d_18 =>
  Conditions_pass_112 r_19 d_18 Q)
  else
  (Conditions_latest d fun r_22 d_21 =>
  Conditions_pass_112 (r_22 ^^^ 1) d_21 Q)
set_option maxRecDepth 100000 in
set_option maxHeartbeats 4000000 in
theorem tConditions_pass_93 {L : Nat} {e : vmD} {Qo : Option Value → vmW → Prop} {Q : vmD → Prop} (hQ : ∀ d, Q d → Qo none (wC L d e)) (s0 : Int32) (d : vmD) (h : Conditions_pass_93 s0 d Q) : vmWp 6 93 [(0, .ref 22)] [.int s0] (wC L d e) Qo := by
  unfold Conditions_pass_93 at h
  refine st_go 3 (pc' := 96) (lo' := [(3, .int s0), (0, .ref 22)]) (st' := [.int s0, .ref 22]) rfl ?_
  by_cases hc_17 : s0 = 0
  · have h := Eq.mp (if_pos hc_17) h
    refine st_if (t := 108) (b := true) rfl (decide_eq_true hc_17) rfl ?_
    refine st_go 1 (pc' := 109) (lo' := [(3, .int s0), (0, .ref 22)]) (st' := [.ref 22, .ref 22]) rfl ?_
    refine st_calli (k' := 3) (as := [.ref 22]) (rest := [.ref 22]) (lo' := [(0, .ref 22)]) (wf := fun d => wC L d e) rfl rfl rfl ?_
    refine tConditions_latest (fun r_19 d_18 h => ⟨r_19, d_18, rfl, rfl, ?_⟩) d h
    refine vmWp.sub (lo' := []) trivial ?_
    exact tConditions_pass_112 hQ r_19 d_18 h
  · have h := Eq.mp (if_neg hc_17) h
    refine st_if (t := 99) (b := false) rfl (decide_eq_false hc_17) rfl ?_
    refine st_go 1 (pc' := 100) (lo' := [(3, .int s0), (0, .ref 22)]) (st' := [.ref 22, .ref 22]) rfl ?_
    refine st_calli (k' := 3) (as := [.ref 22]) (rest := [.ref 22]) (lo' := [(0, .ref 22)]) (wf := fun d => wC L d e) rfl rfl rfl ?_
    refine tConditions_latest (fun r_22 d_21 h => ⟨r_22, d_21, rfl, rfl, ?_⟩) d h
    refine st_go 3 (pc' := 112) (lo' := [(3, .int s0), (0, .ref 22)]) (st' := [.int (r_22 ^^^ 1), .ref 22]) rfl ?_
    refine vmWp.sub (lo' := []) trivial ?_
    exact tConditions_pass_112 hQ (r_22 ^^^ 1) d_21 h
set_option maxRecDepth 100000 in
def Conditions_pass (x1 : Int32) (x2 : Int32) (d : vmD) (Q : vmD → Prop) : Prop :=
  Conditions_allows x1 d fun r_2 d_1 =>
  if r_2 = 0 then
  (Q d_1)
  else
  (if x1 = 104 then
  (Conditions_done d_1 fun r_6 d_5 =>
  if r_6 = 0 then
  (Conditions_pass_27 x2 0 d_5 Q)
  else
  (Conditions_pass_27 x2 4 d_5 Q))
  else
  (if x1 = 106 then
  (bnd (sF d_1 22 1 ((gF d_1 22 1) - 1)) fun d_13 =>
  Q d_13)
  else
  (Conditions_latest d_1 fun r_15 d_14 =>
  if (r_15 &&& 4) = 0 then
  (Conditions_pass_93 0 d_14 Q)
  else
  (Conditions_pass_93 1 d_14 Q))))
set_option maxRecDepth 100000 in
set_option maxHeartbeats 4000000 in
theorem tConditions_pass {L : Nat} {e : vmD} {Qo : Option Value → vmW → Prop} {Q : vmD → Prop} (hQ : ∀ d, Q d → Qo none (wC L d e)) (x1 : Int32) (x2 : Int32) (d : vmD) (h : Conditions_pass x1 x2 d Q) : vmWp 6 0 [(0, .ref 22), (1, .int x1), (2, .int x2)] [] (wC L d e) Qo := by
  unfold Conditions_pass at h
  refine st_go 2 (pc' := 2) (lo' := [(0, .ref 22), (1, .int x1), (2, .int x2)]) (st' := [.int x1, .ref 22]) rfl ?_
  refine st_calli (k' := 5) (as := [.ref 22, .int x1]) (rest := []) (lo' := [(0, .ref 22), (1, .int x1)]) (wf := fun d => wC L d e) rfl rfl rfl ?_
  refine tConditions_allows (fun r_2 d_1 h => ⟨r_2, d_1, rfl, rfl, ?_⟩) x1 d h
  by_cases hc_3 : r_2 = 0
  · have h := Eq.mp (if_pos hc_3) h
    refine st_if (t := 8) (b := false) rfl (decide_eq_false (fun z => z hc_3)) rfl ?_
    exact st_retV rfl rfl (hQ _ h)
  · have h := Eq.mp (if_neg hc_3) h
    refine st_if (t := 9) (b := true) rfl (decide_eq_true hc_3) rfl ?_
    refine st_go 2 (pc' := 12) (lo' := [(0, .ref 22), (1, .int x1), (2, .int x2)]) (st' := [.int 104, .int x1]) rfl ?_
    by_cases hc_4 : x1 = 104
    · have h := Eq.mp (if_pos hc_4) h
      refine st_icmp (t := 15) (b := false) rfl (decide_eq_false (fun z => z hc_4)) rfl ?_
      refine st_go 1 (pc' := 16) (lo' := [(0, .ref 22), (1, .int x1), (2, .int x2)]) (st' := [.ref 22]) rfl ?_
      refine st_calli (k' := 4) (as := [.ref 22]) (rest := []) (lo' := [(0, .ref 22)]) (wf := fun d => wC L d e) rfl rfl rfl ?_
      refine tConditions_done (fun r_6 d_5 h => ⟨r_6, d_5, rfl, rfl, ?_⟩) d_1 h
      by_cases hc_7 : r_6 = 0
      · have h := Eq.mp (if_pos hc_7) h
        refine st_if (t := 26) (b := true) rfl (decide_eq_true hc_7) rfl ?_
        refine st_go 1 (pc' := 27) (lo' := [(0, .ref 22), (1, .int x1), (2, .int x2)]) (st' := [.int 0]) rfl ?_
        refine vmWp.sub (lo' := [(0, .ref 22), (2, .int x2)]) ⟨rfl, rfl, trivial⟩ ?_
        exact tConditions_pass_27 hQ x2 0 d_5 h
      · have h := Eq.mp (if_neg hc_7) h
        refine st_if (t := 22) (b := false) rfl (decide_eq_false hc_7) rfl ?_
        refine st_go 2 (pc' := 27) (lo' := [(0, .ref 22), (1, .int x1), (2, .int x2)]) (st' := [.int 4]) rfl ?_
        refine vmWp.sub (lo' := [(0, .ref 22), (2, .int x2)]) ⟨rfl, rfl, trivial⟩ ?_
        exact tConditions_pass_27 hQ x2 4 d_5 h
    · have h := Eq.mp (if_neg hc_4) h
      refine st_icmp (t := 60) (b := true) rfl (decide_eq_true hc_4) rfl ?_
      refine st_go 2 (pc' := 63) (lo' := [(0, .ref 22), (1, .int x1), (2, .int x2)]) (st' := [.int 106, .int x1]) rfl ?_
      by_cases hc_12 : x1 = 106
      · have h := Eq.mp (if_pos hc_12) h
        refine st_icmp (t := 66) (b := false) rfl (decide_eq_false (fun z => z hc_12)) rfl ?_
        refine st_go 5 (pc' := 73) (lo' := [(0, .ref 22), (1, .int x1), (2, .int x2)]) (st' := [.int ((gF d_1 22 1) - 1), .ref 22]) rfl ?_
        refine st_putIC (o := 22) (f := 1) rfl rfl rfl rfl rfl (fun d_13 hy_d_13 => ?_)
        have h := h d_13 hy_d_13
        refine st_go 1 (pc' := 117) (lo' := [(0, .ref 22), (1, .int x1), (2, .int x2)]) (st' := []) rfl ?_
        exact st_retV rfl rfl (hQ _ h)
      · have h := Eq.mp (if_neg hc_12) h
        refine st_icmp (t := 79) (b := true) rfl (decide_eq_true hc_12) rfl ?_
        refine st_go 1 (pc' := 80) (lo' := [(0, .ref 22), (1, .int x1), (2, .int x2)]) (st' := [.ref 22]) rfl ?_
        refine st_calli (k' := 3) (as := [.ref 22]) (rest := []) (lo' := [(0, .ref 22)]) (wf := fun d => wC L d e) rfl rfl rfl ?_
        refine tConditions_latest (fun r_15 d_14 h => ⟨r_15, d_14, rfl, rfl, ?_⟩) d_1 h
        refine st_go 2 (pc' := 85) (lo' := [(0, .ref 22), (1, .int x1), (2, .int x2)]) (st' := [.int (r_15 &&& 4)]) rfl ?_
        by_cases hc_16 : (r_15 &&& 4) = 0
        · have h := Eq.mp (if_pos hc_16) h
          refine st_if (t := 92) (b := true) rfl (decide_eq_true hc_16) rfl ?_
          refine st_go 1 (pc' := 93) (lo' := [(0, .ref 22), (1, .int x1), (2, .int x2)]) (st' := [.int 0]) rfl ?_
          refine vmWp.sub (lo' := [(0, .ref 22)]) ⟨rfl, trivial⟩ ?_
          exact tConditions_pass_93 hQ 0 d_14 h
        · have h := Eq.mp (if_neg hc_16) h
          refine st_if (t := 88) (b := false) rfl (decide_eq_false hc_16) rfl ?_
          refine st_go 2 (pc' := 93) (lo' := [(0, .ref 22), (1, .int x1), (2, .int x2)]) (st' := [.int 1]) rfl ?_
          refine vmWp.sub (lo' := [(0, .ref 22)]) ⟨rfl, trivial⟩ ?_
          exact tConditions_pass_93 hQ 1 d_14 h
set_option maxRecDepth 100000 in
def Names_longer (x0 : Int64) (x2 : Int32) (d : vmD) (Q : Int64 → vmD → Prop) : Prop :=
  Names_digitOf x2 d fun r_2 d_1 =>
  Q ((x0 * 38) + (Int32.toInt64 (if r_2 < 0 then 0 else r_2))) d_1
set_option maxRecDepth 100000 in
set_option maxHeartbeats 4000000 in
theorem tNames_longer {L : Nat} {e : vmD} {Qo : Option Value → vmW → Prop} {Q : Int64 → vmD → Prop} (hQ : ∀ r d, Q r d → Qo (some (.long r)) (wC L d e)) (x0 : Int64) (x2 : Int32) (d : vmD) (h : Names_longer x0 x2 d Q) : vmWp 136 0 [(0, .long x0), (2, .int x2)] [] (wC L d e) Qo := by
  unfold Names_longer at h
  refine st_go 4 (pc' := 6) (lo' := [(0, .long x0), (2, .int x2)]) (st' := [.int x2, .long (x0 * 38)]) rfl ?_
  refine st_calli (k' := 135) (as := [.int x2]) (rest := [.long (x0 * 38)]) (lo' := [(0, .int x2)]) (wf := fun d => wC L d e) rfl rfl rfl ?_
  refine tNames_digitOf (fun r_2 d_1 h => ⟨r_2, d_1, rfl, rfl, ?_⟩) x2 d h
  refine st_go 4 (pc' := 15) (lo' := [(0, .long x0), (2, .int x2)]) (st' := [.long ((x0 * 38) + (Int32.toInt64 (if r_2 < 0 then 0 else r_2)))]) rfl ?_
  exact st_retJ rfl rfl (hQ _ _ h)
set_option maxRecDepth 100000 in
def Tokens_keyOf_39 (x3 : Int64) (d : vmD) (Q : Int64 → vmD → Prop) : Prop :=
  Q x3 d
set_option maxRecDepth 100000 in
set_option maxHeartbeats 4000000 in
theorem tTokens_keyOf_39 {L : Nat} {e : vmD} {Qo : Option Value → vmW → Prop} {Q : Int64 → vmD → Prop} (hQ : ∀ r d, Q r d → Qo (some (.long r)) (wC L d e)) (x3 : Int64) (d : vmD) (h : Tokens_keyOf_39 x3 d Q) : vmWp 210 39 [(3, .long x3)] [] (wC L d e) Qo := by
  unfold Tokens_keyOf_39 at h
  refine st_go 1 (pc' := 40) (lo' := [(3, .long x3)]) (st' := [.long x3]) rfl ?_
  exact st_retJ rfl rfl (hQ _ _ h)
set_option maxRecDepth 100000 in
def Tokens_keyOf_13 (Q : Int64 → vmD → Prop) : Nat → Int32 → Int64 → Int32 → vmD → Prop
  | 0, _, _, _, _ => False
  | n + 1, x2, x3, x5, d => if x5 < x2 then
  (Text_at_src x5 d fun r_4 d_3 =>
  Names_longer x3 r_4 d_3 fun r_6 d_5 =>
  bnd (x5 + 1) fun x5_7 =>
  (Tokens_keyOf_13 Q n) x2 r_6 x5_7 d_5)
  else
  (Tokens_keyOf_39 x3 d Q)
set_option maxRecDepth 100000 in
set_option maxHeartbeats 4000000 in
theorem tTokens_keyOf_13 {L : Nat} {e : vmD} {Qo : Option Value → vmW → Prop} {Q : Int64 → vmD → Prop} (hQ : ∀ r d, Q r d → Qo (some (.long r)) (wC L d e)) : ∀ (n : Nat) (x2 : Int32) (x3 : Int64) (x5 : Int32) (d : vmD), Tokens_keyOf_13 Q n x2 x3 x5 d → vmWp 210 13 [(0, .ref 24), (2, .int x2), (3, .long x3), (5, .int x5)] [] (wC L d e) Qo := by
  intro n
  induction n with
  | zero => intro x2 x3 x5 d h; exact h.elim
  | succ n ih =>
    intro x2 x3 x5 d h
    unfold Tokens_keyOf_13 at h
    refine st_go 2 (pc' := 16) (lo' := [(0, .ref 24), (2, .int x2), (3, .long x3), (5, .int x5)]) (st' := [.int x2, .int x5]) rfl ?_
    by_cases hc_2 : x5 < x2
    · have h := Eq.mp (if_pos hc_2) h
      refine st_icmp (t := 19) (b := false) rfl (decide_eq_false (Int32.not_le.mpr hc_2)) rfl ?_
      refine st_go 4 (pc' := 26) (lo' := [(0, .ref 24), (2, .int x2), (3, .long x3), (5, .int x5)]) (st' := [.int x5, .ref 9, .long x3]) rfl ?_
      refine st_calli (k' := 191) (as := [.ref 9, .int x5]) (rest := [.long x3]) (lo' := [(0, .ref 9), (1, .int x5)]) (wf := fun d => wC L d e) rfl rfl rfl ?_
      refine tText_at_src (fun r_4 d_3 h => ⟨r_4, d_3, rfl, rfl, ?_⟩) x5 d h
      refine st_calll (k' := 136) (as := [.long x3, .int r_4]) (rest := []) (lo' := [(0, .long x3), (2, .int r_4)]) (wf := fun d => wC L d e) rfl rfl rfl ?_
      refine tNames_longer (fun r_6 d_5 h => ⟨r_6, d_5, rfl, rfl, ?_⟩) x3 r_4 d_3 h
      refine st_go 2 (pc' := 36) (lo' := [(5, .int (x5 + 1)), (3, .long r_6), (0, .ref 24), (2, .int x2)]) (st' := []) rfl ?_
      refine st_locI (fun x5_7 hy_x5_7 => ?_)
      have h := h x5_7 hy_x5_7
      refine st_go 1 (pc' := 13) (lo' := [(5, .int x5_7), (3, .long r_6), (0, .ref 24), (2, .int x2)]) (st' := []) rfl ?_
      refine vmWp.sub (lo' := [(0, .ref 24), (2, .int x2), (3, .long r_6), (5, .int x5_7)]) ⟨rfl, rfl, rfl, rfl, trivial⟩ ?_
      exact ih x2 r_6 x5_7 d_5 h
    · have h := Eq.mp (if_neg hc_2) h
      refine st_icmp (t := 39) (b := true) rfl (decide_eq_true (Int32.not_lt.mp hc_2)) rfl ?_
      refine vmWp.sub (lo' := [(3, .long x3)]) ⟨rfl, trivial⟩ ?_
      exact tTokens_keyOf_39 hQ x3 d h
set_option maxRecDepth 100000 in
def Tokens_keyOf (x1 : Int32) (x2 : Int32) (d : vmD) (Q : Int64 → vmD → Prop) : Prop :=
  if (12 : Int32) < (x2 - x1) then
  (Tokens_keyOf_39 0 d Q)
  else
  (∃ m13, Tokens_keyOf_13 Q m13 x2 0 x1 d)
set_option maxRecDepth 100000 in
set_option maxHeartbeats 4000000 in
theorem tTokens_keyOf {L : Nat} {e : vmD} {Qo : Option Value → vmW → Prop} {Q : Int64 → vmD → Prop} (hQ : ∀ r d, Q r d → Qo (some (.long r)) (wC L d e)) (x1 : Int32) (x2 : Int32) (d : vmD) (h : Tokens_keyOf x1 x2 d Q) : vmWp 210 0 [(0, .ref 24), (1, .int x1), (2, .int x2)] [] (wC L d e) Qo := by
  unfold Tokens_keyOf at h
  refine st_go 6 (pc' := 7) (lo' := [(3, .long 0), (0, .ref 24), (1, .int x1), (2, .int x2)]) (st' := [.int 12, .int (x2 - x1)]) rfl ?_
  by_cases hc_1 : (12 : Int32) < (x2 - x1)
  · have h := Eq.mp (if_pos hc_1) h
    refine st_icmp (t := 39) (b := true) rfl (decide_eq_true hc_1) rfl ?_
    refine vmWp.sub (lo' := [(3, .long 0)]) ⟨rfl, trivial⟩ ?_
    exact tTokens_keyOf_39 hQ 0 d h
  · have h := Eq.mp (if_neg hc_1) h
    refine st_icmp (t := 10) (b := false) rfl (decide_eq_false hc_1) rfl ?_
    refine st_go 2 (pc' := 13) (lo' := [(5, .int x1), (3, .long 0), (0, .ref 24), (1, .int x1), (2, .int x2)]) (st' := []) rfl ?_
    obtain ⟨m13, h⟩ := h
    refine vmWp.sub (lo' := [(0, .ref 24), (2, .int x2), (3, .long 0), (5, .int x1)]) ⟨rfl, rfl, rfl, rfl, trivial⟩ ?_
    exact tTokens_keyOf_13 hQ m13 x2 0 x1 d h
set_option maxRecDepth 100000 in
def Tokens_keyAt (x1 : Int32) (d : vmD) (Q : Int64 → vmD → Prop) : Prop :=
  Tokens_nameEnd x1 d fun r_2 d_1 =>
  Tokens_keyOf x1 r_2 d_1 fun r_4 d_3 =>
  Q r_4 d_3
set_option maxRecDepth 100000 in
set_option maxHeartbeats 4000000 in
theorem tTokens_keyAt {L : Nat} {e : vmD} {Qo : Option Value → vmW → Prop} {Q : Int64 → vmD → Prop} (hQ : ∀ r d, Q r d → Qo (some (.long r)) (wC L d e)) (x1 : Int32) (d : vmD) (h : Tokens_keyAt x1 d Q) : vmWp 212 0 [(0, .ref 24), (1, .int x1)] [] (wC L d e) Qo := by
  unfold Tokens_keyAt at h
  refine st_go 4 (pc' := 4) (lo' := [(0, .ref 24), (1, .int x1)]) (st' := [.int x1, .ref 24, .int x1, .ref 24]) rfl ?_
  refine st_calli (k' := 209) (as := [.ref 24, .int x1]) (rest := [.int x1, .ref 24]) (lo' := [(0, .ref 24), (1, .int x1)]) (wf := fun d => wC L d e) rfl rfl rfl ?_
  refine tTokens_nameEnd (fun r_2 d_1 h => ⟨r_2, d_1, rfl, rfl, ?_⟩) x1 d h
  refine st_calll (k' := 210) (as := [.ref 24, .int x1, .int r_2]) (rest := []) (lo' := [(0, .ref 24), (1, .int x1), (2, .int r_2)]) (wf := fun d => wC L d e) rfl rfl rfl ?_
  refine tTokens_keyOf (fun r_4 d_3 h => ⟨r_4, d_3, rfl, rfl, ?_⟩) x1 r_2 d_1 h
  exact st_retJ rfl rfl (hQ _ _ h)
set_option maxRecDepth 100000 in
def Names_idOf_8 (Q : Int32 → vmD → Prop) : Nat → Int64 → Int32 → vmD → Prop
  | 0, _, _, _ => False
  | n + 1, x1, x3, d => if x3 < 107 then
  (ixOk x3 107 ∧
  bnd (gL d 4 x3.toNatClampNeg) fun y_4 =>
  if (lg_cmp y_4 x1) = 0 then
  (Q x3 d)
  else
  (bnd (x3 + 1) fun x3_6 =>
  (Names_idOf_8 Q n) x1 x3_6 d))
  else
  (Q 0 d)
set_option maxRecDepth 100000 in
set_option maxHeartbeats 4000000 in
theorem tNames_idOf_8 {L : Nat} {e : vmD} {Qo : Option Value → vmW → Prop} {Q : Int32 → vmD → Prop} (hQ : ∀ r d, Q r d → Qo (some (.int r)) (wC L d e)) : ∀ (n : Nat) (x1 : Int64) (x3 : Int32) (d : vmD), Names_idOf_8 Q n x1 x3 d → vmWp 139 8 [(0, .ref 3), (1, .long x1), (3, .int x3)] [] (wC L d e) Qo := by
  intro n
  induction n with
  | zero => intro x1 x3 d h; exact h.elim
  | succ n ih =>
    intro x1 x3 d h
    unfold Names_idOf_8 at h
    refine st_go 4 (pc' := 14) (lo' := [(0, .ref 3), (1, .long x1), (3, .int x3)]) (st' := [.int 107, .int x3]) rfl ?_
    by_cases hc_2 : x3 < 107
    · have h := Eq.mp (if_pos hc_2) h
      refine st_icmp (t := 17) (b := false) rfl (decide_eq_false (Int32.not_le.mpr hc_2)) rfl ?_
      refine st_go 3 (pc' := 22) (lo' := [(0, .ref 3), (1, .long x1), (3, .int x3)]) (st' := [.int x3, .ref 4]) rfl ?_
      obtain ⟨hj_3, h⟩ := h
      refine st_laldC (o := 4) rfl rfl hj_3 rfl (fun y_4 hy_y_4 => ?_)
      have h := h y_4 hy_y_4
      refine st_go 2 (pc' := 25) (lo' := [(0, .ref 3), (1, .long x1), (3, .int x3)]) (st' := [.int (lg_cmp y_4 x1)]) rfl ?_
      by_cases hc_5 : (lg_cmp y_4 x1) = 0
      · have h := Eq.mp (if_pos hc_5) h
        refine st_if (t := 28) (b := false) rfl (decide_eq_false (fun z => z hc_5)) rfl ?_
        refine st_go 1 (pc' := 29) (lo' := [(0, .ref 3), (1, .long x1), (3, .int x3)]) (st' := [.int x3]) rfl ?_
        exact st_retI rfl rfl (hQ _ _ h)
      · have h := Eq.mp (if_neg hc_5) h
        refine st_if (t := 30) (b := true) rfl (decide_eq_true hc_5) rfl ?_
        refine st_go 1 (pc' := 33) (lo' := [(3, .int (x3 + 1)), (0, .ref 3), (1, .long x1)]) (st' := []) rfl ?_
        refine st_locI (fun x3_6 hy_x3_6 => ?_)
        have h := h x3_6 hy_x3_6
        refine st_go 1 (pc' := 8) (lo' := [(3, .int x3_6), (0, .ref 3), (1, .long x1)]) (st' := []) rfl ?_
        refine vmWp.sub (lo' := [(0, .ref 3), (1, .long x1), (3, .int x3_6)]) ⟨rfl, rfl, rfl, trivial⟩ ?_
        exact ih x1 x3_6 d h
    · have h := Eq.mp (if_neg hc_2) h
      refine st_icmp (t := 36) (b := true) rfl (decide_eq_true (Int32.not_lt.mp hc_2)) rfl ?_
      refine st_go 1 (pc' := 37) (lo' := [(0, .ref 3), (1, .long x1), (3, .int x3)]) (st' := [.int 0]) rfl ?_
      exact st_retI rfl rfl (hQ _ _ h)
set_option maxRecDepth 100000 in
def Names_idOf (x1 : Int64) (d : vmD) (Q : Int32 → vmD → Prop) : Prop :=
  if (0 : Int32) < (lg_cmp x1 0) then
  (∃ m8, Names_idOf_8 Q m8 x1 1 d)
  else
  (Q 0 d)
set_option maxRecDepth 100000 in
set_option maxHeartbeats 4000000 in
theorem tNames_idOf {L : Nat} {e : vmD} {Qo : Option Value → vmW → Prop} {Q : Int32 → vmD → Prop} (hQ : ∀ r d, Q r d → Qo (some (.int r)) (wC L d e)) (x1 : Int64) (d : vmD) (h : Names_idOf x1 d Q) : vmWp 139 0 [(0, .ref 3), (1, .long x1)] [] (wC L d e) Qo := by
  unfold Names_idOf at h
  refine st_go 3 (pc' := 3) (lo' := [(0, .ref 3), (1, .long x1)]) (st' := [.int (lg_cmp x1 0)]) rfl ?_
  by_cases hc_1 : (0 : Int32) < (lg_cmp x1 0)
  · have h := Eq.mp (if_pos hc_1) h
    refine st_if (t := 6) (b := false) rfl (decide_eq_false (Int32.not_le.mpr hc_1)) rfl ?_
    refine st_go 2 (pc' := 8) (lo' := [(3, .int 1), (0, .ref 3), (1, .long x1)]) (st' := []) rfl ?_
    obtain ⟨m8, h⟩ := h
    refine vmWp.sub (lo' := [(0, .ref 3), (1, .long x1), (3, .int 1)]) ⟨rfl, rfl, rfl, trivial⟩ ?_
    exact tNames_idOf_8 hQ m8 x1 1 d h
  · have h := Eq.mp (if_neg hc_1) h
    refine st_if (t := 36) (b := true) rfl (decide_eq_true (Int32.not_lt.mp hc_1)) rfl ?_
    refine st_go 1 (pc' := 37) (lo' := [(0, .ref 3), (1, .long x1)]) (st' := [.int 0]) rfl ?_
    exact st_retI rfl rfl (hQ _ _ h)
set_option maxRecDepth 100000 in
def Forger_passOver_73 (x3 : Int32) (d : vmD) (Q : vmD → Prop) : Prop :=
  Conditions_pass x3 0 d fun d_9 =>
  Q d_9
set_option maxRecDepth 100000 in
set_option maxHeartbeats 4000000 in
theorem tForger_passOver_73 {L : Nat} {e : vmD} {Qo : Option Value → vmW → Prop} {Q : vmD → Prop} (hQ : ∀ d, Q d → Qo none (wC L d e)) (x3 : Int32) (d : vmD) (h : Forger_passOver_73 x3 d Q) : vmWp 34 73 [(0, .ref 20), (3, .int x3)] [] (wC L d e) Qo := by
  unfold Forger_passOver_73 at h
  refine st_go 4 (pc' := 79) (lo' := [(0, .ref 20), (3, .int x3)]) (st' := [.int 0, .int x3, .ref 22]) rfl ?_
  refine st_callv (k' := 6) (as := [.ref 22, .int x3, .int 0]) (rest := []) (lo' := [(0, .ref 22), (1, .int x3), (2, .int 0)]) (wf := fun d => wC L d e) rfl rfl rfl ?_
  refine tConditions_pass (fun d_9 h => ⟨d_9, rfl, rfl, ?_⟩) x3 0 d h
  exact st_retV rfl rfl (hQ _ h)
set_option maxRecDepth 100000 in
def Forger_passOver_52 (x2 : Int32) (x3 : Int32) (d : vmD) (Q : vmD → Prop) : Prop :=
  Conditions_allows x3 d fun r_6 d_5 =>
  if r_6 = 0 then
  (Tokens_blamePlace x2 7 d_5 fun d_8 =>
  Forger_passOver_73 x3 d_8 Q)
  else
  (Forger_passOver_73 x3 d_5 Q)
set_option maxRecDepth 100000 in
set_option maxHeartbeats 4000000 in
theorem tForger_passOver_52 {L : Nat} {e : vmD} {Qo : Option Value → vmW → Prop} {Q : vmD → Prop} (hQ : ∀ d, Q d → Qo none (wC L d e)) (x2 : Int32) (x3 : Int32) (d : vmD) (h : Forger_passOver_52 x2 x3 d Q) : vmWp 34 52 [(0, .ref 20), (2, .int x2), (3, .int x3)] [] (wC L d e) Qo := by
  unfold Forger_passOver_52 at h
  refine st_go 3 (pc' := 57) (lo' := [(0, .ref 20), (2, .int x2), (3, .int x3)]) (st' := [.int x3, .ref 22]) rfl ?_
  refine st_calli (k' := 5) (as := [.ref 22, .int x3]) (rest := []) (lo' := [(0, .ref 22), (1, .int x3)]) (wf := fun d => wC L d e) rfl rfl rfl ?_
  refine tConditions_allows (fun r_6 d_5 h => ⟨r_6, d_5, rfl, rfl, ?_⟩) x3 d h
  by_cases hc_7 : r_6 = 0
  · have h := Eq.mp (if_pos hc_7) h
    refine st_if (t := 63) (b := false) rfl (decide_eq_false (fun z => z hc_7)) rfl ?_
    refine st_go 4 (pc' := 70) (lo' := [(0, .ref 20), (2, .int x2), (3, .int x3)]) (st' := [.int 7, .int x2, .ref 24]) rfl ?_
    refine st_callv (k' := 219) (as := [.ref 24, .int x2, .int 7]) (rest := []) (lo' := [(0, .ref 24), (1, .int x2), (2, .int 7)]) (wf := fun d => wC L d e) rfl rfl rfl ?_
    refine tTokens_blamePlace (fun d_8 h => ⟨d_8, rfl, rfl, ?_⟩) x2 7 d_5 h
    refine vmWp.sub (lo' := [(0, .ref 20), (3, .int x3)]) ⟨rfl, rfl, trivial⟩ ?_
    exact tForger_passOver_73 hQ x3 d_8 h
  · have h := Eq.mp (if_neg hc_7) h
    refine st_if (t := 73) (b := true) rfl (decide_eq_true hc_7) rfl ?_
    refine vmWp.sub (lo' := [(0, .ref 20), (3, .int x3)]) ⟨rfl, rfl, trivial⟩ ?_
    exact tForger_passOver_73 hQ x3 d_5 h
set_option maxRecDepth 100000 in
def Forger_passOver_32 (x2 : Int32) (s0 : Int32) (d : vmD) (Q : vmD → Prop) : Prop :=
  if s0 = 104 then
  (Forger_passOver_52 x2 s0 d Q)
  else
  (if s0 = 105 then
  (Forger_passOver_52 x2 s0 d Q)
  else
  (if s0 = 106 then
  (Forger_passOver_52 x2 s0 d Q)
  else
  (Q d)))
set_option maxRecDepth 100000 in
set_option maxHeartbeats 4000000 in
theorem tForger_passOver_32 {L : Nat} {e : vmD} {Qo : Option Value → vmW → Prop} {Q : vmD → Prop} (hQ : ∀ d, Q d → Qo none (wC L d e)) (x2 : Int32) (s0 : Int32) (d : vmD) (h : Forger_passOver_32 x2 s0 d Q) : vmWp 34 32 [(0, .ref 20), (2, .int x2)] [.int s0] (wC L d e) Qo := by
  unfold Forger_passOver_32 at h
  refine st_go 3 (pc' := 36) (lo' := [(3, .int s0), (0, .ref 20), (2, .int x2)]) (st' := [.int 104, .int s0]) rfl ?_
  by_cases hc_4 : s0 = 104
  · have h := Eq.mp (if_pos hc_4) h
    refine st_icmp (t := 52) (b := true) rfl (decide_eq_true hc_4) rfl ?_
    refine vmWp.sub (lo' := [(0, .ref 20), (2, .int x2), (3, .int s0)]) ⟨rfl, rfl, rfl, trivial⟩ ?_
    exact tForger_passOver_52 hQ x2 s0 d h
  · have h := Eq.mp (if_neg hc_4) h
    refine st_icmp (t := 39) (b := false) rfl (decide_eq_false hc_4) rfl ?_
    refine st_go 2 (pc' := 42) (lo' := [(3, .int s0), (0, .ref 20), (2, .int x2)]) (st' := [.int 105, .int s0]) rfl ?_
    by_cases hc_10 : s0 = 105
    · have h := Eq.mp (if_pos hc_10) h
      refine st_icmp (t := 52) (b := true) rfl (decide_eq_true hc_10) rfl ?_
      refine vmWp.sub (lo' := [(0, .ref 20), (2, .int x2), (3, .int s0)]) ⟨rfl, rfl, rfl, trivial⟩ ?_
      exact tForger_passOver_52 hQ x2 s0 d h
    · have h := Eq.mp (if_neg hc_10) h
      refine st_icmp (t := 45) (b := false) rfl (decide_eq_false hc_10) rfl ?_
      refine st_go 2 (pc' := 48) (lo' := [(3, .int s0), (0, .ref 20), (2, .int x2)]) (st' := [.int 106, .int s0]) rfl ?_
      by_cases hc_11 : s0 = 106
      · have h := Eq.mp (if_pos hc_11) h
        refine st_icmp (t := 52) (b := true) rfl (decide_eq_true hc_11) rfl ?_
        refine vmWp.sub (lo' := [(0, .ref 20), (2, .int x2), (3, .int s0)]) ⟨rfl, rfl, rfl, trivial⟩ ?_
        exact tForger_passOver_52 hQ x2 s0 d h
      · have h := Eq.mp (if_neg hc_11) h
        refine st_icmp (t := 51) (b := false) rfl (decide_eq_false hc_11) rfl ?_
        exact st_retV rfl rfl (hQ _ h)
set_option maxRecDepth 100000 in
def Forger_passOver (x1 : Int32) (d : vmD) (Q : vmD → Prop) : Prop :=
  Tokens_rulingPlace x1 d fun r_2 d_1 =>
  if r_2 < 0 then
  (Forger_passOver_32 r_2 0 d_1 Q)
  else
  (Tokens_keyAt r_2 d_1 fun r_13 d_12 =>
  Names_idOf r_13 d_12 fun r_15 d_14 =>
  Forger_passOver_32 r_2 r_15 d_14 Q)
set_option maxRecDepth 100000 in
set_option maxHeartbeats 4000000 in
theorem tForger_passOver {L : Nat} {e : vmD} {Qo : Option Value → vmW → Prop} {Q : vmD → Prop} (hQ : ∀ d, Q d → Qo none (wC L d e)) (x1 : Int32) (d : vmD) (h : Forger_passOver x1 d Q) : vmWp 34 0 [(0, .ref 20), (1, .int x1)] [] (wC L d e) Qo := by
  unfold Forger_passOver at h
  refine st_go 3 (pc' := 5) (lo' := [(0, .ref 20), (1, .int x1)]) (st' := [.int x1, .ref 24]) rfl ?_
  refine st_calli (k' := 211) (as := [.ref 24, .int x1]) (rest := []) (lo' := [(0, .ref 24), (1, .int x1)]) (wf := fun d => wC L d e) rfl rfl rfl ?_
  refine tTokens_rulingPlace (fun r_2 d_1 h => ⟨r_2, d_1, rfl, rfl, ?_⟩) x1 d h
  refine st_go 2 (pc' := 10) (lo' := [(2, .int r_2), (0, .ref 20), (1, .int x1)]) (st' := [.int r_2]) rfl ?_
  by_cases hc_3 : r_2 < 0
  · have h := Eq.mp (if_pos hc_3) h
    refine st_if (t := 13) (b := false) rfl (decide_eq_false (Int32.not_le.mpr hc_3)) rfl ?_
    refine st_go 2 (pc' := 32) (lo' := [(2, .int r_2), (0, .ref 20), (1, .int x1)]) (st' := [.int 0]) rfl ?_
    refine vmWp.sub (lo' := [(0, .ref 20), (2, .int r_2)]) ⟨rfl, rfl, trivial⟩ ?_
    exact tForger_passOver_32 hQ r_2 0 d_1 h
  · have h := Eq.mp (if_neg hc_3) h
    refine st_if (t := 17) (b := true) rfl (decide_eq_true (Int32.not_lt.mp hc_3)) rfl ?_
    refine st_go 5 (pc' := 26) (lo' := [(2, .int r_2), (0, .ref 20), (1, .int x1)]) (st' := [.int r_2, .ref 24, .ref 3]) rfl ?_
    refine st_calll (k' := 212) (as := [.ref 24, .int r_2]) (rest := [.ref 3]) (lo' := [(0, .ref 24), (1, .int r_2)]) (wf := fun d => wC L d e) rfl rfl rfl ?_
    refine tTokens_keyAt (fun r_13 d_12 h => ⟨r_13, d_12, rfl, rfl, ?_⟩) r_2 d_1 h
    refine st_calli (k' := 139) (as := [.ref 3, .long r_13]) (rest := []) (lo' := [(0, .ref 3), (1, .long r_13)]) (wf := fun d => wC L d e) rfl rfl rfl ?_
    refine tNames_idOf (fun r_15 d_14 h => ⟨r_15, d_14, rfl, rfl, ?_⟩) r_13 d_12 h
    refine vmWp.sub (lo' := [(0, .ref 20), (2, .int r_2)]) ⟨rfl, rfl, trivial⟩ ?_
    exact tForger_passOver_32 hQ r_2 r_15 d_14 h
set_option maxRecDepth 100000 in
def Tokens_append (x1 : Int32) (x2 : Int32) (x3 : Int64) (d : vmD) (Q : vmD → Prop) : Prop :=
  if (gF d 24 5) < 0 then
  (Q d)
  else
  (if (gF d 24 5) < 6001 then
  (if (gF d 24 5) < 6001 then
  (if (gF d 24 5) < 6001 then
  (ixOk (gF d 24 5) 6001 ∧
  bnd (sA d 25 (gF d 24 5).toNatClampNeg ((Int8.toInt32 (Int32.toInt8 x1)).toInt8.toInt32)) fun d_6 =>
  ixOk (gF d_6 24 5) 6001 ∧
  bnd (sA d_6 26 (gF d_6 24 5).toNatClampNeg x2) fun d_8 =>
  ixOk (gF d_8 24 5) 6001 ∧
  bnd (sL d_8 27 (gF d_8 24 5).toNatClampNeg x3) fun d_10 =>
  bnd (sF d_10 24 5 ((gF d_10 24 5) + 1)) fun d_11 =>
  Q d_11)
  else
  (Q d))
  else
  (Q d))
  else
  (Q d))
set_option maxRecDepth 100000 in
set_option maxHeartbeats 4000000 in
theorem tTokens_append {L : Nat} {e : vmD} {Qo : Option Value → vmW → Prop} {Q : vmD → Prop} (hQ : ∀ d, Q d → Qo none (wC L d e)) (x1 : Int32) (x2 : Int32) (x3 : Int64) (d : vmD) (h : Tokens_append x1 x2 x3 d Q) : vmWp 199 0 [(0, .ref 24), (1, .int x1), (2, .int x2), (3, .long x3)] [] (wC L d e) Qo := by
  unfold Tokens_append at h
  refine st_go 2 (pc' := 4) (lo' := [(0, .ref 24), (1, .int x1), (2, .int x2), (3, .long x3)]) (st' := [.int (gF d 24 5)]) rfl ?_
  by_cases hc_1 : (gF d 24 5) < 0
  · have h := Eq.mp (if_pos hc_1) h
    refine st_if (t := 84) (b := true) rfl (decide_eq_true hc_1) rfl ?_
    exact st_retV rfl rfl (hQ _ h)
  · have h := Eq.mp (if_neg hc_1) h
    refine st_if (t := 7) (b := false) rfl (decide_eq_false hc_1) rfl ?_
    refine st_go 5 (pc' := 16) (lo' := [(0, .ref 24), (1, .int x1), (2, .int x2), (3, .long x3)]) (st' := [.int 6001, .int (gF d 24 5)]) rfl ?_
    by_cases hc_2 : (gF d 24 5) < 6001
    · have h := Eq.mp (if_pos hc_2) h
      refine st_icmp (t := 19) (b := false) rfl (decide_eq_false (Int32.not_le.mpr hc_2)) rfl ?_
      refine st_go 5 (pc' := 28) (lo' := [(0, .ref 24), (1, .int x1), (2, .int x2), (3, .long x3)]) (st' := [.int 6001, .int (gF d 24 5)]) rfl ?_
      by_cases hc_3 : (gF d 24 5) < 6001
      · have h := Eq.mp (if_pos hc_3) h
        refine st_icmp (t := 31) (b := false) rfl (decide_eq_false (Int32.not_le.mpr hc_3)) rfl ?_
        refine st_go 5 (pc' := 40) (lo' := [(0, .ref 24), (1, .int x1), (2, .int x2), (3, .long x3)]) (st' := [.int 6001, .int (gF d 24 5)]) rfl ?_
        by_cases hc_4 : (gF d 24 5) < 6001
        · have h := Eq.mp (if_pos hc_4) h
          refine st_icmp (t := 43) (b := false) rfl (decide_eq_false (Int32.not_le.mpr hc_4)) rfl ?_
          refine st_go 6 (pc' := 53) (lo' := [(0, .ref 24), (1, .int x1), (2, .int x2), (3, .long x3)]) (st' := [.int (Int8.toInt32 (Int32.toInt8 x1)), .int (gF d 24 5), .ref 25]) rfl ?_
          obtain ⟨hj_5, h⟩ := h
          refine st_bastC (o := 25) rfl rfl hj_5 rfl (fun d_6 hy_d_6 => ?_)
          have h := h d_6 hy_d_6
          refine st_go 5 (pc' := 63) (lo' := [(0, .ref 24), (1, .int x1), (2, .int x2), (3, .long x3)]) (st' := [.int x2, .int (gF d_6 24 5), .ref 26]) rfl ?_
          obtain ⟨hj_7, h⟩ := h
          refine st_iastC (o := 26) rfl rfl hj_7 rfl (fun d_8 hy_d_8 => ?_)
          have h := h d_8 hy_d_8
          refine st_go 5 (pc' := 73) (lo' := [(0, .ref 24), (1, .int x1), (2, .int x2), (3, .long x3)]) (st' := [.long x3, .int (gF d_8 24 5), .ref 27]) rfl ?_
          obtain ⟨hj_9, h⟩ := h
          refine st_lastC (o := 27) rfl rfl hj_9 rfl (fun d_10 hy_d_10 => ?_)
          have h := h d_10 hy_d_10
          refine st_go 5 (pc' := 81) (lo' := [(0, .ref 24), (1, .int x1), (2, .int x2), (3, .long x3)]) (st' := [.int ((gF d_10 24 5) + 1), .ref 24]) rfl ?_
          refine st_putIC (o := 24) (f := 5) rfl rfl rfl rfl rfl (fun d_11 hy_d_11 => ?_)
          have h := h d_11 hy_d_11
          exact st_retV rfl rfl (hQ _ h)
        · have h := Eq.mp (if_neg hc_4) h
          refine st_icmp (t := 84) (b := true) rfl (decide_eq_true (Int32.not_lt.mp hc_4)) rfl ?_
          exact st_retV rfl rfl (hQ _ h)
      · have h := Eq.mp (if_neg hc_3) h
        refine st_icmp (t := 84) (b := true) rfl (decide_eq_true (Int32.not_lt.mp hc_3)) rfl ?_
        exact st_retV rfl rfl (hQ _ h)
    · have h := Eq.mp (if_neg hc_2) h
      refine st_icmp (t := 84) (b := true) rfl (decide_eq_true (Int32.not_lt.mp hc_2)) rfl ?_
      exact st_retV rfl rfl (hQ _ h)
set_option maxRecDepth 100000 in
def Tokens_takeText_60 (x1 : Int32) (x2 : Int32) (d : vmD) (Q : Int32 → vmD → Prop) : Prop :=
  Text_at_src x2 d fun r_9 d_8 =>
  if r_9 = 34 then
  (Tokens_append 4 x1 (Int32.toInt64 ((x2 - x1) - 1)) d_8 fun d_11 =>
  Q (x2 + 1) d_11)
  else
  (Q (-1) d_8)
set_option maxRecDepth 100000 in
set_option maxHeartbeats 4000000 in
theorem tTokens_takeText_60 {L : Nat} {e : vmD} {Qo : Option Value → vmW → Prop} {Q : Int32 → vmD → Prop} (hQ : ∀ r d, Q r d → Qo (some (.int r)) (wC L d e)) (x1 : Int32) (x2 : Int32) (d : vmD) (h : Tokens_takeText_60 x1 x2 d Q) : vmWp 205 60 [(0, .ref 24), (1, .int x1), (2, .int x2)] [] (wC L d e) Qo := by
  unfold Tokens_takeText_60 at h
  refine st_go 3 (pc' := 65) (lo' := [(0, .ref 24), (1, .int x1), (2, .int x2)]) (st' := [.int x2, .ref 9]) rfl ?_
  refine st_calli (k' := 191) (as := [.ref 9, .int x2]) (rest := []) (lo' := [(0, .ref 9), (1, .int x2)]) (wf := fun d => wC L d e) rfl rfl rfl ?_
  refine tText_at_src (fun r_9 d_8 h => ⟨r_9, d_8, rfl, rfl, ?_⟩) x2 d h
  refine st_go 1 (pc' := 70) (lo' := [(0, .ref 24), (1, .int x1), (2, .int x2)]) (st' := [.int 34, .int r_9]) rfl ?_
  by_cases hc_10 : r_9 = 34
  · have h := Eq.mp (if_pos hc_10) h
    refine st_icmp (t := 75) (b := true) rfl (decide_eq_true hc_10) rfl ?_
    refine st_go 9 (pc' := 84) (lo' := [(0, .ref 24), (1, .int x1), (2, .int x2)]) (st' := [.long (Int32.toInt64 ((x2 - x1) - 1)), .int x1, .int 4, .ref 24]) rfl ?_
    refine st_callv (k' := 199) (as := [.ref 24, .int 4, .int x1, .long (Int32.toInt64 ((x2 - x1) - 1))]) (rest := []) (lo' := [(0, .ref 24), (1, .int 4), (2, .int x1), (3, .long (Int32.toInt64 ((x2 - x1) - 1)))]) (wf := fun d => wC L d e) rfl rfl rfl ?_
    refine tTokens_append (fun d_11 h => ⟨d_11, rfl, rfl, ?_⟩) 4 x1 (Int32.toInt64 ((x2 - x1) - 1)) d_8 h
    refine st_go 3 (pc' := 90) (lo' := [(0, .ref 24), (1, .int x1), (2, .int x2)]) (st' := [.int (x2 + 1)]) rfl ?_
    exact st_retI rfl rfl (hQ _ _ h)
  · have h := Eq.mp (if_neg hc_10) h
    refine st_icmp (t := 73) (b := false) rfl (decide_eq_false hc_10) rfl ?_
    refine st_go 1 (pc' := 74) (lo' := [(0, .ref 24), (1, .int x1), (2, .int x2)]) (st' := [.int (-1)]) rfl ?_
    exact st_retI rfl rfl (hQ _ _ h)
set_option maxRecDepth 100000 in
def Tokens_takeText_4 (Q : Int32 → vmD → Prop) : Nat → Int32 → Int32 → vmD → Prop
  | 0, _, _, _ => False
  | n + 1, x1, x2, d => Text_length_src d fun r_3 d_2 =>
  if x2 < r_3 then
  (Text_at_src x2 d_2 fun r_6 d_5 =>
  if r_6 < 32 then
  (Tokens_takeText_60 x1 x2 d_5 Q)
  else
  (Text_at_src x2 d_5 fun r_13 d_12 =>
  if (126 : Int32) < r_13 then
  (Tokens_takeText_60 x1 x2 d_12 Q)
  else
  (Text_at_src x2 d_12 fun r_16 d_15 =>
  if r_16 = 34 then
  (Tokens_takeText_60 x1 x2 d_15 Q)
  else
  (bnd (x2 + 1) fun x2_18 =>
  (Tokens_takeText_4 Q n) x1 x2_18 d_15))))
  else
  (Tokens_takeText_60 x1 x2 d_2 Q)
set_option maxRecDepth 100000 in
set_option maxHeartbeats 4000000 in
theorem tTokens_takeText_4 {L : Nat} {e : vmD} {Qo : Option Value → vmW → Prop} {Q : Int32 → vmD → Prop} (hQ : ∀ r d, Q r d → Qo (some (.int r)) (wC L d e)) : ∀ (n : Nat) (x1 : Int32) (x2 : Int32) (d : vmD), Tokens_takeText_4 Q n x1 x2 d → vmWp 205 4 [(0, .ref 24), (1, .int x1), (2, .int x2)] [] (wC L d e) Qo := by
  intro n
  induction n with
  | zero => intro x1 x2 d h; exact h.elim
  | succ n ih =>
    intro x1 x2 d h
    unfold Tokens_takeText_4 at h
    refine st_go 3 (pc' := 9) (lo' := [(0, .ref 24), (1, .int x1), (2, .int x2)]) (st' := [.ref 9, .int x2]) rfl ?_
    refine st_calli (k' := 190) (as := [.ref 9]) (rest := [.int x2]) (lo' := [(0, .ref 9)]) (wf := fun d => wC L d e) rfl rfl rfl ?_
    refine tText_length_src (fun r_3 d_2 h => ⟨r_3, d_2, rfl, rfl, ?_⟩) d h
    by_cases hc_4 : x2 < r_3
    · have h := Eq.mp (if_pos hc_4) h
      refine st_icmp (t := 15) (b := false) rfl (decide_eq_false (Int32.not_le.mpr hc_4)) rfl ?_
      refine st_go 3 (pc' := 20) (lo' := [(0, .ref 24), (1, .int x1), (2, .int x2)]) (st' := [.int x2, .ref 9]) rfl ?_
      refine st_calli (k' := 191) (as := [.ref 9, .int x2]) (rest := []) (lo' := [(0, .ref 9), (1, .int x2)]) (wf := fun d => wC L d e) rfl rfl rfl ?_
      refine tText_at_src (fun r_6 d_5 h => ⟨r_6, d_5, rfl, rfl, ?_⟩) x2 d_2 h
      refine st_go 1 (pc' := 25) (lo' := [(0, .ref 24), (1, .int x1), (2, .int x2)]) (st' := [.int 32, .int r_6]) rfl ?_
      by_cases hc_7 : r_6 < 32
      · have h := Eq.mp (if_pos hc_7) h
        refine st_icmp (t := 60) (b := true) rfl (decide_eq_true hc_7) rfl ?_
        refine vmWp.sub (lo' := [(0, .ref 24), (1, .int x1), (2, .int x2)]) ⟨rfl, rfl, rfl, trivial⟩ ?_
        exact tTokens_takeText_60 hQ x1 x2 d_5 h
      · have h := Eq.mp (if_neg hc_7) h
        refine st_icmp (t := 28) (b := false) rfl (decide_eq_false hc_7) rfl ?_
        refine st_go 3 (pc' := 33) (lo' := [(0, .ref 24), (1, .int x1), (2, .int x2)]) (st' := [.int x2, .ref 9]) rfl ?_
        refine st_calli (k' := 191) (as := [.ref 9, .int x2]) (rest := []) (lo' := [(0, .ref 9), (1, .int x2)]) (wf := fun d => wC L d e) rfl rfl rfl ?_
        refine tText_at_src (fun r_13 d_12 h => ⟨r_13, d_12, rfl, rfl, ?_⟩) x2 d_5 h
        refine st_go 1 (pc' := 38) (lo' := [(0, .ref 24), (1, .int x1), (2, .int x2)]) (st' := [.int 126, .int r_13]) rfl ?_
        by_cases hc_14 : (126 : Int32) < r_13
        · have h := Eq.mp (if_pos hc_14) h
          refine st_icmp (t := 60) (b := true) rfl (decide_eq_true hc_14) rfl ?_
          refine vmWp.sub (lo' := [(0, .ref 24), (1, .int x1), (2, .int x2)]) ⟨rfl, rfl, rfl, trivial⟩ ?_
          exact tTokens_takeText_60 hQ x1 x2 d_12 h
        · have h := Eq.mp (if_neg hc_14) h
          refine st_icmp (t := 41) (b := false) rfl (decide_eq_false hc_14) rfl ?_
          refine st_go 3 (pc' := 46) (lo' := [(0, .ref 24), (1, .int x1), (2, .int x2)]) (st' := [.int x2, .ref 9]) rfl ?_
          refine st_calli (k' := 191) (as := [.ref 9, .int x2]) (rest := []) (lo' := [(0, .ref 9), (1, .int x2)]) (wf := fun d => wC L d e) rfl rfl rfl ?_
          refine tText_at_src (fun r_16 d_15 h => ⟨r_16, d_15, rfl, rfl, ?_⟩) x2 d_12 h
          refine st_go 1 (pc' := 51) (lo' := [(0, .ref 24), (1, .int x1), (2, .int x2)]) (st' := [.int 34, .int r_16]) rfl ?_
          by_cases hc_17 : r_16 = 34
          · have h := Eq.mp (if_pos hc_17) h
            refine st_icmp (t := 60) (b := true) rfl (decide_eq_true hc_17) rfl ?_
            refine vmWp.sub (lo' := [(0, .ref 24), (1, .int x1), (2, .int x2)]) ⟨rfl, rfl, rfl, trivial⟩ ?_
            exact tTokens_takeText_60 hQ x1 x2 d_15 h
          · have h := Eq.mp (if_neg hc_17) h
            refine st_icmp (t := 54) (b := false) rfl (decide_eq_false hc_17) rfl ?_
            refine st_go 1 (pc' := 57) (lo' := [(2, .int (x2 + 1)), (0, .ref 24), (1, .int x1)]) (st' := []) rfl ?_
            refine st_locI (fun x2_18 hy_x2_18 => ?_)
            have h := h x2_18 hy_x2_18
            refine st_go 1 (pc' := 4) (lo' := [(2, .int x2_18), (0, .ref 24), (1, .int x1)]) (st' := []) rfl ?_
            refine vmWp.sub (lo' := [(0, .ref 24), (1, .int x1), (2, .int x2_18)]) ⟨rfl, rfl, rfl, trivial⟩ ?_
            exact ih x1 x2_18 d_15 h
    · have h := Eq.mp (if_neg hc_4) h
      refine st_icmp (t := 60) (b := true) rfl (decide_eq_true (Int32.not_lt.mp hc_4)) rfl ?_
      refine vmWp.sub (lo' := [(0, .ref 24), (1, .int x1), (2, .int x2)]) ⟨rfl, rfl, rfl, trivial⟩ ?_
      exact tTokens_takeText_60 hQ x1 x2 d_2 h
set_option maxRecDepth 100000 in
def Tokens_takeText (x1 : Int32) (d : vmD) (Q : Int32 → vmD → Prop) : Prop :=
  bnd (x1 + 1) fun x2_1 =>
  ∃ m4, Tokens_takeText_4 Q m4 x1 x2_1 d
set_option maxRecDepth 100000 in
set_option maxHeartbeats 4000000 in
theorem tTokens_takeText {L : Nat} {e : vmD} {Qo : Option Value → vmW → Prop} {Q : Int32 → vmD → Prop} (hQ : ∀ r d, Q r d → Qo (some (.int r)) (wC L d e)) (x1 : Int32) (d : vmD) (h : Tokens_takeText x1 d Q) : vmWp 205 0 [(0, .ref 24), (1, .int x1)] [] (wC L d e) Qo := by
  unfold Tokens_takeText at h
  refine st_go 4 (pc' := 4) (lo' := [(2, .int (x1 + 1)), (0, .ref 24), (1, .int x1)]) (st' := []) rfl ?_
  refine st_locI (fun x2_1 hy_x2_1 => ?_)
  have h := h x2_1 hy_x2_1
  obtain ⟨m4, h⟩ := h
  refine vmWp.sub (lo' := [(0, .ref 24), (1, .int x1), (2, .int x2_1)]) ⟨rfl, rfl, rfl, trivial⟩ ?_
  exact tTokens_takeText_4 hQ m4 x1 x2_1 d h
set_option maxRecDepth 100000 in
def Tokens_digitAt_29 (x2 : Int32) (d : vmD) (Q : Int32 → vmD → Prop) : Prop :=
  if x2 < 1 then
  (Q (-1) d)
  else
  (if (6 : Int32) < x2 then
  (Q (-1) d)
  else
  (Q (x2 + 9) d))
set_option maxRecDepth 100000 in
set_option maxHeartbeats 4000000 in
theorem tTokens_digitAt_29 {L : Nat} {e : vmD} {Qo : Option Value → vmW → Prop} {Q : Int32 → vmD → Prop} (hQ : ∀ r d, Q r d → Qo (some (.int r)) (wC L d e)) (x2 : Int32) (d : vmD) (h : Tokens_digitAt_29 x2 d Q) : vmWp 203 29 [(2, .int x2)] [] (wC L d e) Qo := by
  unfold Tokens_digitAt_29 at h
  refine st_go 2 (pc' := 31) (lo' := [(2, .int x2)]) (st' := [.int 1, .int x2]) rfl ?_
  by_cases hc_6 : x2 < 1
  · have h := Eq.mp (if_pos hc_6) h
    refine st_icmp (t := 47) (b := true) rfl (decide_eq_true hc_6) rfl ?_
    refine st_go 1 (pc' := 48) (lo' := [(2, .int x2)]) (st' := [.int (-1)]) rfl ?_
    exact st_retI rfl rfl (hQ _ _ h)
  · have h := Eq.mp (if_neg hc_6) h
    refine st_icmp (t := 34) (b := false) rfl (decide_eq_false hc_6) rfl ?_
    refine st_go 2 (pc' := 37) (lo' := [(2, .int x2)]) (st' := [.int 6, .int x2]) rfl ?_
    by_cases hc_7 : (6 : Int32) < x2
    · have h := Eq.mp (if_pos hc_7) h
      refine st_icmp (t := 47) (b := true) rfl (decide_eq_true hc_7) rfl ?_
      refine st_go 1 (pc' := 48) (lo' := [(2, .int x2)]) (st' := [.int (-1)]) rfl ?_
      exact st_retI rfl rfl (hQ _ _ h)
    · have h := Eq.mp (if_neg hc_7) h
      refine st_icmp (t := 40) (b := false) rfl (decide_eq_false hc_7) rfl ?_
      refine st_go 4 (pc' := 48) (lo' := [(2, .int x2)]) (st' := [.int (x2 + 9)]) rfl ?_
      exact st_retI rfl rfl (hQ _ _ h)
set_option maxRecDepth 100000 in
def Tokens_digitAt (x1 : Int32) (d : vmD) (Q : Int32 → vmD → Prop) : Prop :=
  Text_at_src x1 d fun r_2 d_1 =>
  Names_digitOf r_2 d_1 fun r_4 d_3 =>
  if r_4 < 27 then
  (Tokens_digitAt_29 r_4 d_3 Q)
  else
  (if (36 : Int32) < r_4 then
  (Tokens_digitAt_29 r_4 d_3 Q)
  else
  (Q (r_4 - 27) d_3))
set_option maxRecDepth 100000 in
set_option maxHeartbeats 4000000 in
theorem tTokens_digitAt {L : Nat} {e : vmD} {Qo : Option Value → vmW → Prop} {Q : Int32 → vmD → Prop} (hQ : ∀ r d, Q r d → Qo (some (.int r)) (wC L d e)) (x1 : Int32) (d : vmD) (h : Tokens_digitAt x1 d Q) : vmWp 203 0 [(0, .ref 24), (1, .int x1)] [] (wC L d e) Qo := by
  unfold Tokens_digitAt at h
  refine st_go 3 (pc' := 5) (lo' := [(0, .ref 24), (1, .int x1)]) (st' := [.int x1, .ref 9]) rfl ?_
  refine st_calli (k' := 191) (as := [.ref 9, .int x1]) (rest := []) (lo' := [(0, .ref 9), (1, .int x1)]) (wf := fun d => wC L d e) rfl rfl rfl ?_
  refine tText_at_src (fun r_2 d_1 h => ⟨r_2, d_1, rfl, rfl, ?_⟩) x1 d h
  refine st_calli (k' := 135) (as := [.int r_2]) (rest := []) (lo' := [(0, .int r_2)]) (wf := fun d => wC L d e) rfl rfl rfl ?_
  refine tNames_digitOf (fun r_4 d_3 h => ⟨r_4, d_3, rfl, rfl, ?_⟩) r_2 d_1 h
  refine st_go 3 (pc' := 15) (lo' := [(2, .int r_4), (0, .ref 24), (1, .int x1)]) (st' := [.int 27, .int r_4]) rfl ?_
  by_cases hc_5 : r_4 < 27
  · have h := Eq.mp (if_pos hc_5) h
    refine st_icmp (t := 29) (b := true) rfl (decide_eq_true hc_5) rfl ?_
    refine vmWp.sub (lo' := [(2, .int r_4)]) ⟨rfl, trivial⟩ ?_
    exact tTokens_digitAt_29 hQ r_4 d_3 h
  · have h := Eq.mp (if_neg hc_5) h
    refine st_icmp (t := 18) (b := false) rfl (decide_eq_false hc_5) rfl ?_
    refine st_go 2 (pc' := 21) (lo' := [(2, .int r_4), (0, .ref 24), (1, .int x1)]) (st' := [.int 36, .int r_4]) rfl ?_
    by_cases hc_8 : (36 : Int32) < r_4
    · have h := Eq.mp (if_pos hc_8) h
      refine st_icmp (t := 29) (b := true) rfl (decide_eq_true hc_8) rfl ?_
      refine vmWp.sub (lo' := [(2, .int r_4)]) ⟨rfl, trivial⟩ ?_
      exact tTokens_digitAt_29 hQ r_4 d_3 h
    · have h := Eq.mp (if_neg hc_8) h
      refine st_icmp (t := 24) (b := false) rfl (decide_eq_false hc_8) rfl ?_
      refine st_go 3 (pc' := 28) (lo' := [(2, .int r_4), (0, .ref 24), (1, .int x1)]) (st' := [.int (r_4 - 27)]) rfl ?_
      exact st_retI rfl rfl (hQ _ _ h)
set_option maxRecDepth 100000 in
def Tokens_takeNumber_65 (x1 : Int32) (x2 : Int32) (x4 : Int32) (x5 : Int32) (d : vmD) (Q : Int32 → vmD → Prop) : Prop :=
  if x5 = x2 then
  (Q (-1) d)
  else
  (if x4 < 65536 then
  (Tokens_append 3 x1 (Int32.toInt64 x4) d fun d_9 =>
  Q x5 d_9)
  else
  (Q (-1) d))
set_option maxRecDepth 100000 in
set_option maxHeartbeats 4000000 in
theorem tTokens_takeNumber_65 {L : Nat} {e : vmD} {Qo : Option Value → vmW → Prop} {Q : Int32 → vmD → Prop} (hQ : ∀ r d, Q r d → Qo (some (.int r)) (wC L d e)) (x1 : Int32) (x2 : Int32) (x4 : Int32) (x5 : Int32) (d : vmD) (h : Tokens_takeNumber_65 x1 x2 x4 x5 d Q) : vmWp 202 65 [(0, .ref 24), (1, .int x1), (2, .int x2), (4, .int x4), (5, .int x5)] [] (wC L d e) Qo := by
  unfold Tokens_takeNumber_65 at h
  refine st_go 2 (pc' := 68) (lo' := [(0, .ref 24), (1, .int x1), (2, .int x2), (4, .int x4), (5, .int x5)]) (st' := [.int x2, .int x5]) rfl ?_
  by_cases hc_7 : x5 = x2
  · have h := Eq.mp (if_pos hc_7) h
    refine st_icmp (t := 78) (b := true) rfl (decide_eq_true hc_7) rfl ?_
    refine st_go 1 (pc' := 79) (lo' := [(0, .ref 24), (1, .int x1), (2, .int x2), (4, .int x4), (5, .int x5)]) (st' := [.int (-1)]) rfl ?_
    exact st_retI rfl rfl (hQ _ _ h)
  · have h := Eq.mp (if_neg hc_7) h
    refine st_icmp (t := 71) (b := false) rfl (decide_eq_false hc_7) rfl ?_
    refine st_go 2 (pc' := 75) (lo' := [(0, .ref 24), (1, .int x1), (2, .int x2), (4, .int x4), (5, .int x5)]) (st' := [.int 65536, .int x4]) rfl ?_
    by_cases hc_8 : x4 < 65536
    · have h := Eq.mp (if_pos hc_8) h
      refine st_icmp (t := 80) (b := true) rfl (decide_eq_true hc_8) rfl ?_
      refine st_go 5 (pc' := 86) (lo' := [(0, .ref 24), (1, .int x1), (2, .int x2), (4, .int x4), (5, .int x5)]) (st' := [.long (Int32.toInt64 x4), .int x1, .int 3, .ref 24]) rfl ?_
      refine st_callv (k' := 199) (as := [.ref 24, .int 3, .int x1, .long (Int32.toInt64 x4)]) (rest := []) (lo' := [(0, .ref 24), (1, .int 3), (2, .int x1), (3, .long (Int32.toInt64 x4))]) (wf := fun d => wC L d e) rfl rfl rfl ?_
      refine tTokens_append (fun d_9 h => ⟨d_9, rfl, rfl, ?_⟩) 3 x1 (Int32.toInt64 x4) d h
      refine st_go 1 (pc' := 91) (lo' := [(0, .ref 24), (1, .int x1), (2, .int x2), (4, .int x4), (5, .int x5)]) (st' := [.int x5]) rfl ?_
      exact st_retI rfl rfl (hQ _ _ h)
    · have h := Eq.mp (if_neg hc_8) h
      refine st_icmp (t := 78) (b := false) rfl (decide_eq_false hc_8) rfl ?_
      refine st_go 1 (pc' := 79) (lo' := [(0, .ref 24), (1, .int x1), (2, .int x2), (4, .int x4), (5, .int x5)]) (st' := [.int (-1)]) rfl ?_
      exact st_retI rfl rfl (hQ _ _ h)
set_option maxRecDepth 100000 in
def Tokens_takeNumber_14 (Q : Int32 → vmD → Prop) : Nat → Int32 → Int32 → Int32 → Int32 → Int32 → Int32 → vmD → Prop
  | 0, _, _, _, _, _, _, _ => False
  | n + 1, x1, x2, x3, x4, x5, x6, d => Text_length_src d fun r_4 d_3 =>
  if x5 < r_4 then
  (if x6 < 0 then
  (Tokens_takeNumber_65 x1 x2 x4 x5 d_3 Q)
  else
  (if x6 < x3 then
  (bnd (if 65536 < ((x4 * x3) + x6) then 65536 else ((x4 * x3) + x6)) fun x4_11 =>
  bnd (x5 + 1) fun x5_12 =>
  Tokens_digitAt x5_12 d_3 fun r_14 d_13 =>
  (Tokens_takeNumber_14 Q n) x1 x2 x3 x4_11 x5_12 r_14 d_13)
  else
  (Tokens_takeNumber_65 x1 x2 x4 x5 d_3 Q)))
  else
  (Tokens_takeNumber_65 x1 x2 x4 x5 d_3 Q)
set_option maxRecDepth 100000 in
set_option maxHeartbeats 4000000 in
theorem tTokens_takeNumber_14 {L : Nat} {e : vmD} {Qo : Option Value → vmW → Prop} {Q : Int32 → vmD → Prop} (hQ : ∀ r d, Q r d → Qo (some (.int r)) (wC L d e)) : ∀ (n : Nat) (x1 : Int32) (x2 : Int32) (x3 : Int32) (x4 : Int32) (x5 : Int32) (x6 : Int32) (d : vmD), Tokens_takeNumber_14 Q n x1 x2 x3 x4 x5 x6 d → vmWp 202 14 [(0, .ref 24), (1, .int x1), (2, .int x2), (3, .int x3), (4, .int x4), (5, .int x5), (6, .int x6)] [] (wC L d e) Qo := by
  intro n
  induction n with
  | zero => intro x1 x2 x3 x4 x5 x6 d h; exact h.elim
  | succ n ih =>
    intro x1 x2 x3 x4 x5 x6 d h
    unfold Tokens_takeNumber_14 at h
    refine st_go 3 (pc' := 20) (lo' := [(0, .ref 24), (1, .int x1), (2, .int x2), (3, .int x3), (4, .int x4), (5, .int x5), (6, .int x6)]) (st' := [.ref 9, .int x5]) rfl ?_
    refine st_calli (k' := 190) (as := [.ref 9]) (rest := [.int x5]) (lo' := [(0, .ref 9)]) (wf := fun d => wC L d e) rfl rfl rfl ?_
    refine tText_length_src (fun r_4 d_3 h => ⟨r_4, d_3, rfl, rfl, ?_⟩) d h
    by_cases hc_5 : x5 < r_4
    · have h := Eq.mp (if_pos hc_5) h
      refine st_icmp (t := 26) (b := false) rfl (decide_eq_false (Int32.not_le.mpr hc_5)) rfl ?_
      refine st_go 1 (pc' := 28) (lo' := [(0, .ref 24), (1, .int x1), (2, .int x2), (3, .int x3), (4, .int x4), (5, .int x5), (6, .int x6)]) (st' := [.int x6]) rfl ?_
      by_cases hc_6 : x6 < 0
      · have h := Eq.mp (if_pos hc_6) h
        refine st_if (t := 65) (b := true) rfl (decide_eq_true hc_6) rfl ?_
        refine vmWp.sub (lo' := [(0, .ref 24), (1, .int x1), (2, .int x2), (4, .int x4), (5, .int x5)]) ⟨rfl, rfl, rfl, rfl, rfl, trivial⟩ ?_
        exact tTokens_takeNumber_65 hQ x1 x2 x4 x5 d_3 h
      · have h := Eq.mp (if_neg hc_6) h
        refine st_if (t := 31) (b := false) rfl (decide_eq_false hc_6) rfl ?_
        refine st_go 2 (pc' := 34) (lo' := [(0, .ref 24), (1, .int x1), (2, .int x2), (3, .int x3), (4, .int x4), (5, .int x5), (6, .int x6)]) (st' := [.int x3, .int x6]) rfl ?_
        by_cases hc_10 : x6 < x3
        · have h := Eq.mp (if_pos hc_10) h
          refine st_icmp (t := 37) (b := false) rfl (decide_eq_false (Int32.not_le.mpr hc_10)) rfl ?_
          refine st_go 8 (pc' := 51) (lo' := [(4, .int (if 65536 < ((x4 * x3) + x6) then 65536 else ((x4 * x3) + x6))), (0, .ref 24), (1, .int x1), (2, .int x2), (3, .int x3), (5, .int x5), (6, .int x6)]) (st' := []) rfl ?_
          refine st_locI (fun x4_11 hy_x4_11 => ?_)
          have h := h x4_11 hy_x4_11
          refine st_go 1 (pc' := 54) (lo' := [(5, .int (x5 + 1)), (4, .int x4_11), (0, .ref 24), (1, .int x1), (2, .int x2), (3, .int x3), (6, .int x6)]) (st' := []) rfl ?_
          refine st_locI (fun x5_12 hy_x5_12 => ?_)
          have h := h x5_12 hy_x5_12
          refine st_go 2 (pc' := 57) (lo' := [(5, .int x5_12), (4, .int x4_11), (0, .ref 24), (1, .int x1), (2, .int x2), (3, .int x3), (6, .int x6)]) (st' := [.int x5_12, .ref 24]) rfl ?_
          refine st_calli (k' := 203) (as := [.ref 24, .int x5_12]) (rest := []) (lo' := [(0, .ref 24), (1, .int x5_12)]) (wf := fun d => wC L d e) rfl rfl rfl ?_
          refine tTokens_digitAt (fun r_14 d_13 h => ⟨r_14, d_13, rfl, rfl, ?_⟩) x5_12 d_3 h
          refine st_go 2 (pc' := 14) (lo' := [(6, .int r_14), (5, .int x5_12), (4, .int x4_11), (0, .ref 24), (1, .int x1), (2, .int x2), (3, .int x3)]) (st' := []) rfl ?_
          refine vmWp.sub (lo' := [(0, .ref 24), (1, .int x1), (2, .int x2), (3, .int x3), (4, .int x4_11), (5, .int x5_12), (6, .int r_14)]) ⟨rfl, rfl, rfl, rfl, rfl, rfl, rfl, trivial⟩ ?_
          exact ih x1 x2 x3 x4_11 x5_12 r_14 d_13 h
        · have h := Eq.mp (if_neg hc_10) h
          refine st_icmp (t := 65) (b := true) rfl (decide_eq_true (Int32.not_lt.mp hc_10)) rfl ?_
          refine vmWp.sub (lo' := [(0, .ref 24), (1, .int x1), (2, .int x2), (4, .int x4), (5, .int x5)]) ⟨rfl, rfl, rfl, rfl, rfl, trivial⟩ ?_
          exact tTokens_takeNumber_65 hQ x1 x2 x4 x5 d_3 h
    · have h := Eq.mp (if_neg hc_5) h
      refine st_icmp (t := 65) (b := true) rfl (decide_eq_true (Int32.not_lt.mp hc_5)) rfl ?_
      refine vmWp.sub (lo' := [(0, .ref 24), (1, .int x1), (2, .int x2), (4, .int x4), (5, .int x5)]) ⟨rfl, rfl, rfl, rfl, rfl, trivial⟩ ?_
      exact tTokens_takeNumber_65 hQ x1 x2 x4 x5 d_3 h
set_option maxRecDepth 100000 in
def Tokens_takeNumber (x1 : Int32) (x2 : Int32) (x3 : Int32) (d : vmD) (Q : Int32 → vmD → Prop) : Prop :=
  Tokens_digitAt x2 d fun r_2 d_1 =>
  ∃ m14, Tokens_takeNumber_14 Q m14 x1 x2 x3 0 x2 r_2 d_1
set_option maxRecDepth 100000 in
set_option maxHeartbeats 4000000 in
theorem tTokens_takeNumber {L : Nat} {e : vmD} {Qo : Option Value → vmW → Prop} {Q : Int32 → vmD → Prop} (hQ : ∀ r d, Q r d → Qo (some (.int r)) (wC L d e)) (x1 : Int32) (x2 : Int32) (x3 : Int32) (d : vmD) (h : Tokens_takeNumber x1 x2 x3 d Q) : vmWp 202 0 [(0, .ref 24), (1, .int x1), (2, .int x2), (3, .int x3)] [] (wC L d e) Qo := by
  unfold Tokens_takeNumber at h
  refine st_go 6 (pc' := 9) (lo' := [(5, .int x2), (4, .int 0), (0, .ref 24), (1, .int x1), (2, .int x2), (3, .int x3)]) (st' := [.int x2, .ref 24]) rfl ?_
  refine st_calli (k' := 203) (as := [.ref 24, .int x2]) (rest := []) (lo' := [(0, .ref 24), (1, .int x2)]) (wf := fun d => wC L d e) rfl rfl rfl ?_
  refine tTokens_digitAt (fun r_2 d_1 h => ⟨r_2, d_1, rfl, rfl, ?_⟩) x2 d h
  refine st_go 1 (pc' := 14) (lo' := [(6, .int r_2), (5, .int x2), (4, .int 0), (0, .ref 24), (1, .int x1), (2, .int x2), (3, .int x3)]) (st' := []) rfl ?_
  obtain ⟨m14, h⟩ := h
  refine vmWp.sub (lo' := [(0, .ref 24), (1, .int x1), (2, .int x2), (3, .int x3), (4, .int 0), (5, .int x2), (6, .int r_2)]) ⟨rfl, rfl, rfl, rfl, rfl, rfl, rfl, trivial⟩ ?_
  exact tTokens_takeNumber_14 hQ m14 x1 x2 x3 0 x2 r_2 d_1 h
set_option maxRecDepth 100000 in
def Tokens_takeQuoted (x1 : Int32) (d : vmD) (Q : Int32 → vmD → Prop) : Prop :=
  Text_at_src (x1 + 1) d fun r_2 d_1 =>
  if r_2 < 32 then
  (Q (-1) d_1)
  else
  (if (126 : Int32) < r_2 then
  (Q (-1) d_1)
  else
  (Text_at_src (x1 + 2) d_1 fun r_6 d_5 =>
  if r_6 = 39 then
  (Tokens_append 3 x1 (Int32.toInt64 r_2) d_5 fun d_8 =>
  Q (x1 + 3) d_8)
  else
  (Q (-1) d_5)))
set_option maxRecDepth 100000 in
set_option maxHeartbeats 4000000 in
theorem tTokens_takeQuoted {L : Nat} {e : vmD} {Qo : Option Value → vmW → Prop} {Q : Int32 → vmD → Prop} (hQ : ∀ r d, Q r d → Qo (some (.int r)) (wC L d e)) (x1 : Int32) (d : vmD) (h : Tokens_takeQuoted x1 d Q) : vmWp 204 0 [(0, .ref 24), (1, .int x1)] [] (wC L d e) Qo := by
  unfold Tokens_takeQuoted at h
  refine st_go 5 (pc' := 7) (lo' := [(0, .ref 24), (1, .int x1)]) (st' := [.int (x1 + 1), .ref 9]) rfl ?_
  refine st_calli (k' := 191) (as := [.ref 9, .int (x1 + 1)]) (rest := []) (lo' := [(0, .ref 9), (1, .int (x1 + 1))]) (wf := fun d => wC L d e) rfl rfl rfl ?_
  refine tText_at_src (fun r_2 d_1 h => ⟨r_2, d_1, rfl, rfl, ?_⟩) (x1 + 1) d h
  refine st_go 3 (pc' := 14) (lo' := [(2, .int r_2), (0, .ref 24), (1, .int x1)]) (st' := [.int 32, .int r_2]) rfl ?_
  by_cases hc_3 : r_2 < 32
  · have h := Eq.mp (if_pos hc_3) h
    refine st_icmp (t := 38) (b := true) rfl (decide_eq_true hc_3) rfl ?_
    refine st_go 1 (pc' := 39) (lo' := [(2, .int r_2), (0, .ref 24), (1, .int x1)]) (st' := [.int (-1)]) rfl ?_
    exact st_retI rfl rfl (hQ _ _ h)
  · have h := Eq.mp (if_neg hc_3) h
    refine st_icmp (t := 17) (b := false) rfl (decide_eq_false hc_3) rfl ?_
    refine st_go 2 (pc' := 20) (lo' := [(2, .int r_2), (0, .ref 24), (1, .int x1)]) (st' := [.int 126, .int r_2]) rfl ?_
    by_cases hc_4 : (126 : Int32) < r_2
    · have h := Eq.mp (if_pos hc_4) h
      refine st_icmp (t := 38) (b := true) rfl (decide_eq_true hc_4) rfl ?_
      refine st_go 1 (pc' := 39) (lo' := [(2, .int r_2), (0, .ref 24), (1, .int x1)]) (st' := [.int (-1)]) rfl ?_
      exact st_retI rfl rfl (hQ _ _ h)
    · have h := Eq.mp (if_neg hc_4) h
      refine st_icmp (t := 23) (b := false) rfl (decide_eq_false hc_4) rfl ?_
      refine st_go 5 (pc' := 30) (lo' := [(2, .int r_2), (0, .ref 24), (1, .int x1)]) (st' := [.int (x1 + 2), .ref 9]) rfl ?_
      refine st_calli (k' := 191) (as := [.ref 9, .int (x1 + 2)]) (rest := []) (lo' := [(0, .ref 9), (1, .int (x1 + 2))]) (wf := fun d => wC L d e) rfl rfl rfl ?_
      refine tText_at_src (fun r_6 d_5 h => ⟨r_6, d_5, rfl, rfl, ?_⟩) (x1 + 2) d_1 h
      refine st_go 1 (pc' := 35) (lo' := [(2, .int r_2), (0, .ref 24), (1, .int x1)]) (st' := [.int 39, .int r_6]) rfl ?_
      by_cases hc_7 : r_6 = 39
      · have h := Eq.mp (if_pos hc_7) h
        refine st_icmp (t := 40) (b := true) rfl (decide_eq_true hc_7) rfl ?_
        refine st_go 5 (pc' := 45) (lo' := [(2, .int r_2), (0, .ref 24), (1, .int x1)]) (st' := [.long (Int32.toInt64 r_2), .int x1, .int 3, .ref 24]) rfl ?_
        refine st_callv (k' := 199) (as := [.ref 24, .int 3, .int x1, .long (Int32.toInt64 r_2)]) (rest := []) (lo' := [(0, .ref 24), (1, .int 3), (2, .int x1), (3, .long (Int32.toInt64 r_2))]) (wf := fun d => wC L d e) rfl rfl rfl ?_
        refine tTokens_append (fun d_8 h => ⟨d_8, rfl, rfl, ?_⟩) 3 x1 (Int32.toInt64 r_2) d_5 h
        refine st_go 3 (pc' := 51) (lo' := [(2, .int r_2), (0, .ref 24), (1, .int x1)]) (st' := [.int (x1 + 3)]) rfl ?_
        exact st_retI rfl rfl (hQ _ _ h)
      · have h := Eq.mp (if_neg hc_7) h
        refine st_icmp (t := 38) (b := false) rfl (decide_eq_false hc_7) rfl ?_
        refine st_go 1 (pc' := 39) (lo' := [(2, .int r_2), (0, .ref 24), (1, .int x1)]) (st' := [.int (-1)]) rfl ?_
        exact st_retI rfl rfl (hQ _ _ h)
set_option maxRecDepth 100000 in
def Tokens_takeName_79 (x1 : Int32) (x2 : Int32) (x3 : Int64) (d : vmD) (Q : Int32 → vmD → Prop) : Prop :=
  Tokens_append 2 x1 x3 d fun d_13 =>
  Q x2 d_13
set_option maxRecDepth 100000 in
set_option maxHeartbeats 4000000 in
theorem tTokens_takeName_79 {L : Nat} {e : vmD} {Qo : Option Value → vmW → Prop} {Q : Int32 → vmD → Prop} (hQ : ∀ r d, Q r d → Qo (some (.int r)) (wC L d e)) (x1 : Int32) (x2 : Int32) (x3 : Int64) (d : vmD) (h : Tokens_takeName_79 x1 x2 x3 d Q) : vmWp 201 79 [(0, .ref 24), (1, .int x1), (2, .int x2), (3, .long x3)] [] (wC L d e) Qo := by
  unfold Tokens_takeName_79 at h
  refine st_go 4 (pc' := 83) (lo' := [(0, .ref 24), (1, .int x1), (2, .int x2), (3, .long x3)]) (st' := [.long x3, .int x1, .int 2, .ref 24]) rfl ?_
  refine st_callv (k' := 199) (as := [.ref 24, .int 2, .int x1, .long x3]) (rest := []) (lo' := [(0, .ref 24), (1, .int 2), (2, .int x1), (3, .long x3)]) (wf := fun d => wC L d e) rfl rfl rfl ?_
  refine tTokens_append (fun d_13 h => ⟨d_13, rfl, rfl, ?_⟩) 2 x1 x3 d h
  refine st_go 1 (pc' := 87) (lo' := [(0, .ref 24), (1, .int x1), (2, .int x2), (3, .long x3)]) (st' := [.int x2]) rfl ?_
  exact st_retI rfl rfl (hQ _ _ h)
set_option maxRecDepth 100000 in
def Tokens_takeName_49 (x1 : Int32) (x2 : Int32) (x3 : Int64) (s0 : Int32) (d : vmD) (Q : Int32 → vmD → Prop) : Prop :=
  if s0 = 0 then
  (Tokens_takeName_79 x1 x2 x3 d Q)
  else
  (Text_at_src x2 d fun r_15 d_14 =>
  if r_15 = 39 then
  (Names_longer x3 39 d_14 fun r_18 d_17 =>
  bnd (x2 + 1) fun x2_19 =>
  Tokens_takeName_79 x1 x2_19 r_18 d_17 Q)
  else
  (Tokens_takeName_79 x1 x2 x3 d_14 Q))
set_option maxRecDepth 100000 in
set_option maxHeartbeats 4000000 in
theorem tTokens_takeName_49 {L : Nat} {e : vmD} {Qo : Option Value → vmW → Prop} {Q : Int32 → vmD → Prop} (hQ : ∀ r d, Q r d → Qo (some (.int r)) (wC L d e)) (x1 : Int32) (x2 : Int32) (x3 : Int64) (s0 : Int32) (d : vmD) (h : Tokens_takeName_49 x1 x2 x3 s0 d Q) : vmWp 201 49 [(0, .ref 24), (1, .int x1), (2, .int x2), (3, .long x3)] [.int s0] (wC L d e) Qo := by
  unfold Tokens_takeName_49 at h
  refine st_go 2 (pc' := 53) (lo' := [(5, .int s0), (0, .ref 24), (1, .int x1), (2, .int x2), (3, .long x3)]) (st' := [.int s0]) rfl ?_
  by_cases hc_12 : s0 = 0
  · have h := Eq.mp (if_pos hc_12) h
    refine st_if (t := 79) (b := true) rfl (decide_eq_true hc_12) rfl ?_
    refine vmWp.sub (lo' := [(0, .ref 24), (1, .int x1), (2, .int x2), (3, .long x3)]) ⟨rfl, rfl, rfl, rfl, trivial⟩ ?_
    exact tTokens_takeName_79 hQ x1 x2 x3 d h
  · have h := Eq.mp (if_neg hc_12) h
    refine st_if (t := 56) (b := false) rfl (decide_eq_false hc_12) rfl ?_
    refine st_go 3 (pc' := 61) (lo' := [(5, .int s0), (0, .ref 24), (1, .int x1), (2, .int x2), (3, .long x3)]) (st' := [.int x2, .ref 9]) rfl ?_
    refine st_calli (k' := 191) (as := [.ref 9, .int x2]) (rest := []) (lo' := [(0, .ref 9), (1, .int x2)]) (wf := fun d => wC L d e) rfl rfl rfl ?_
    refine tText_at_src (fun r_15 d_14 h => ⟨r_15, d_14, rfl, rfl, ?_⟩) x2 d h
    refine st_go 1 (pc' := 66) (lo' := [(5, .int s0), (0, .ref 24), (1, .int x1), (2, .int x2), (3, .long x3)]) (st' := [.int 39, .int r_15]) rfl ?_
    by_cases hc_16 : r_15 = 39
    · have h := Eq.mp (if_pos hc_16) h
      refine st_icmp (t := 69) (b := false) rfl (decide_eq_false (fun z => z hc_16)) rfl ?_
      refine st_go 2 (pc' := 72) (lo' := [(5, .int s0), (0, .ref 24), (1, .int x1), (2, .int x2), (3, .long x3)]) (st' := [.int 39, .long x3]) rfl ?_
      refine st_calll (k' := 136) (as := [.long x3, .int 39]) (rest := []) (lo' := [(0, .long x3), (2, .int 39)]) (wf := fun d => wC L d e) rfl rfl rfl ?_
      refine tNames_longer (fun r_18 d_17 h => ⟨r_18, d_17, rfl, rfl, ?_⟩) x3 39 d_14 h
      refine st_go 2 (pc' := 79) (lo' := [(2, .int (x2 + 1)), (3, .long r_18), (5, .int s0), (0, .ref 24), (1, .int x1)]) (st' := []) rfl ?_
      refine st_locI (fun x2_19 hy_x2_19 => ?_)
      have h := h x2_19 hy_x2_19
      refine vmWp.sub (lo' := [(0, .ref 24), (1, .int x1), (2, .int x2_19), (3, .long r_18)]) ⟨rfl, rfl, rfl, rfl, trivial⟩ ?_
      exact tTokens_takeName_79 hQ x1 x2_19 r_18 d_17 h
    · have h := Eq.mp (if_neg hc_16) h
      refine st_icmp (t := 79) (b := true) rfl (decide_eq_true hc_16) rfl ?_
      refine vmWp.sub (lo' := [(0, .ref 24), (1, .int x1), (2, .int x2), (3, .long x3)]) ⟨rfl, rfl, rfl, rfl, trivial⟩ ?_
      exact tTokens_takeName_79 hQ x1 x2 x3 d_14 h
set_option maxRecDepth 100000 in
def Tokens_takeName_48 (x1 : Int32) (x2 : Int32) (x3 : Int64) (d : vmD) (Q : Int32 → vmD → Prop) : Prop :=
  Tokens_takeName_49 x1 x2 x3 0 d Q
set_option maxRecDepth 100000 in
set_option maxHeartbeats 4000000 in
theorem tTokens_takeName_48 {L : Nat} {e : vmD} {Qo : Option Value → vmW → Prop} {Q : Int32 → vmD → Prop} (hQ : ∀ r d, Q r d → Qo (some (.int r)) (wC L d e)) (x1 : Int32) (x2 : Int32) (x3 : Int64) (d : vmD) (h : Tokens_takeName_48 x1 x2 x3 d Q) : vmWp 201 48 [(0, .ref 24), (1, .int x1), (2, .int x2), (3, .long x3)] [] (wC L d e) Qo := by
  unfold Tokens_takeName_48 at h
  refine st_go 1 (pc' := 49) (lo' := [(0, .ref 24), (1, .int x1), (2, .int x2), (3, .long x3)]) (st' := [.int 0]) rfl ?_
  refine vmWp.sub (lo' := [(0, .ref 24), (1, .int x1), (2, .int x2), (3, .long x3)]) ⟨rfl, rfl, rfl, rfl, trivial⟩ ?_
  exact tTokens_takeName_49 hQ x1 x2 x3 0 d h
set_option maxRecDepth 100000 in
def Tokens_takeName (x1 : Int32) (d : vmD) (Q : Int32 → vmD → Prop) : Prop :=
  Tokens_nameEnd x1 d fun r_2 d_1 =>
  Tokens_keyOf x1 r_2 d_1 fun r_4 d_3 =>
  if (lg_cmp r_4 0) = 0 then
  (Q (-1) d_3)
  else
  (if r_2 = (x1 + 2) then
  (Names_longer 0 65 d_3 fun r_8 d_7 =>
  Names_longer r_8 70 d_7 fun r_10 d_9 =>
  if (lg_cmp r_4 r_10) = 0 then
  (Tokens_takeName_49 x1 r_2 r_4 1 d_9 Q)
  else
  (Tokens_takeName_48 x1 r_2 r_4 d_9 Q))
  else
  (Tokens_takeName_48 x1 r_2 r_4 d_3 Q))
set_option maxRecDepth 100000 in
set_option maxHeartbeats 4000000 in
theorem tTokens_takeName {L : Nat} {e : vmD} {Qo : Option Value → vmW → Prop} {Q : Int32 → vmD → Prop} (hQ : ∀ r d, Q r d → Qo (some (.int r)) (wC L d e)) (x1 : Int32) (d : vmD) (h : Tokens_takeName x1 d Q) : vmWp 201 0 [(0, .ref 24), (1, .int x1)] [] (wC L d e) Qo := by
  unfold Tokens_takeName at h
  refine st_go 2 (pc' := 2) (lo' := [(0, .ref 24), (1, .int x1)]) (st' := [.int x1, .ref 24]) rfl ?_
  refine st_calli (k' := 209) (as := [.ref 24, .int x1]) (rest := []) (lo' := [(0, .ref 24), (1, .int x1)]) (wf := fun d => wC L d e) rfl rfl rfl ?_
  refine tTokens_nameEnd (fun r_2 d_1 h => ⟨r_2, d_1, rfl, rfl, ?_⟩) x1 d h
  refine st_go 4 (pc' := 9) (lo' := [(2, .int r_2), (0, .ref 24), (1, .int x1)]) (st' := [.int r_2, .int x1, .ref 24]) rfl ?_
  refine st_calll (k' := 210) (as := [.ref 24, .int x1, .int r_2]) (rest := []) (lo' := [(0, .ref 24), (1, .int x1), (2, .int r_2)]) (wf := fun d => wC L d e) rfl rfl rfl ?_
  refine tTokens_keyOf (fun r_4 d_3 h => ⟨r_4, d_3, rfl, rfl, ?_⟩) x1 r_2 d_1 h
  refine st_go 4 (pc' := 16) (lo' := [(3, .long r_4), (2, .int r_2), (0, .ref 24), (1, .int x1)]) (st' := [.int (lg_cmp r_4 0)]) rfl ?_
  by_cases hc_5 : (lg_cmp r_4 0) = 0
  · have h := Eq.mp (if_pos hc_5) h
    refine st_if (t := 19) (b := false) rfl (decide_eq_false (fun z => z hc_5)) rfl ?_
    refine st_go 1 (pc' := 20) (lo' := [(3, .long r_4), (2, .int r_2), (0, .ref 24), (1, .int x1)]) (st' := [.int (-1)]) rfl ?_
    exact st_retI rfl rfl (hQ _ _ h)
  · have h := Eq.mp (if_neg hc_5) h
    refine st_if (t := 21) (b := true) rfl (decide_eq_true hc_5) rfl ?_
    refine st_go 4 (pc' := 25) (lo' := [(3, .long r_4), (2, .int r_2), (0, .ref 24), (1, .int x1)]) (st' := [.int (x1 + 2), .int r_2]) rfl ?_
    by_cases hc_6 : r_2 = (x1 + 2)
    · have h := Eq.mp (if_pos hc_6) h
      refine st_icmp (t := 28) (b := false) rfl (decide_eq_false (fun z => z hc_6)) rfl ?_
      refine st_go 3 (pc' := 32) (lo' := [(3, .long r_4), (2, .int r_2), (0, .ref 24), (1, .int x1)]) (st' := [.int 65, .long 0, .long r_4]) rfl ?_
      refine st_calll (k' := 136) (as := [.long 0, .int 65]) (rest := [.long r_4]) (lo' := [(0, .long 0), (2, .int 65)]) (wf := fun d => wC L d e) rfl rfl rfl ?_
      refine tNames_longer (fun r_8 d_7 h => ⟨r_8, d_7, rfl, rfl, ?_⟩) 0 65 d_3 h
      refine st_go 1 (pc' := 37) (lo' := [(3, .long r_4), (2, .int r_2), (0, .ref 24), (1, .int x1)]) (st' := [.int 70, .long r_8, .long r_4]) rfl ?_
      refine st_calll (k' := 136) (as := [.long r_8, .int 70]) (rest := [.long r_4]) (lo' := [(0, .long r_8), (2, .int 70)]) (wf := fun d => wC L d e) rfl rfl rfl ?_
      refine tNames_longer (fun r_10 d_9 h => ⟨r_10, d_9, rfl, rfl, ?_⟩) r_8 70 d_7 h
      refine st_go 1 (pc' := 41) (lo' := [(3, .long r_4), (2, .int r_2), (0, .ref 24), (1, .int x1)]) (st' := [.int (lg_cmp r_4 r_10)]) rfl ?_
      by_cases hc_11 : (lg_cmp r_4 r_10) = 0
      · have h := Eq.mp (if_pos hc_11) h
        refine st_if (t := 44) (b := false) rfl (decide_eq_false (fun z => z hc_11)) rfl ?_
        refine st_go 2 (pc' := 49) (lo' := [(3, .long r_4), (2, .int r_2), (0, .ref 24), (1, .int x1)]) (st' := [.int 1]) rfl ?_
        refine vmWp.sub (lo' := [(0, .ref 24), (1, .int x1), (2, .int r_2), (3, .long r_4)]) ⟨rfl, rfl, rfl, rfl, trivial⟩ ?_
        exact tTokens_takeName_49 hQ x1 r_2 r_4 1 d_9 h
      · have h := Eq.mp (if_neg hc_11) h
        refine st_if (t := 48) (b := true) rfl (decide_eq_true hc_11) rfl ?_
        refine vmWp.sub (lo' := [(0, .ref 24), (1, .int x1), (2, .int r_2), (3, .long r_4)]) ⟨rfl, rfl, rfl, rfl, trivial⟩ ?_
        exact tTokens_takeName_48 hQ x1 r_2 r_4 d_9 h
    · have h := Eq.mp (if_neg hc_6) h
      refine st_icmp (t := 48) (b := true) rfl (decide_eq_true hc_6) rfl ?_
      refine vmWp.sub (lo' := [(0, .ref 24), (1, .int x1), (2, .int r_2), (3, .long r_4)]) ⟨rfl, rfl, rfl, rfl, trivial⟩ ?_
      exact tTokens_takeName_48 hQ x1 r_2 r_4 d_3 h
set_option maxRecDepth 100000 in
def Tokens_takeToken_43 (x1 : Int32) (x2 : Int32) (d : vmD) (Q : Int32 → vmD → Prop) : Prop :=
  if x2 = 34 then
  (Tokens_takeText x1 d fun r_9 d_8 =>
  Q r_9 d_8)
  else
  if x2 = 36 then
  (Tokens_takeNumber x1 (x1 + 1) 16 d fun r_12 d_11 =>
  Q r_12 d_11)
  else
  if x2 = 37 then
  (Tokens_takeNumber x1 (x1 + 1) 2 d fun r_15 d_14 =>
  Q r_15 d_14)
  else
  if x2 = 39 then
  (Tokens_takeQuoted x1 d fun r_18 d_17 =>
  Q r_18 d_17)
  else
  if x2 = 60 then
  (Text_at_src (x1 + 1) d fun r_21 d_20 =>
  if r_21 = x2 then
  (Tokens_append x2 x1 0 d_20 fun d_23 =>
  Q (x1 + 2) d_23)
  else
  (Q (-1) d_20))
  else
  if x2 = 62 then
  (Text_at_src (x1 + 1) d fun r_26 d_25 =>
  if r_26 = x2 then
  (Tokens_append x2 x1 0 d_25 fun d_28 =>
  Q (x1 + 2) d_28)
  else
  (Q (-1) d_25))
  else
  (if x2 < 0 then
  (Q (-1) d)
  else
  (if (vmIx (UInt32.toInt32 ((Int32.toUInt32 x2) % 65536)) (sB 6) 0) < 0 then
  (Q (-1) d)
  else
  (Tokens_append x2 x1 0 d fun d_31 =>
  Q (x1 + 1) d_31)))
set_option maxRecDepth 100000 in
set_option maxHeartbeats 4000000 in
theorem tTokens_takeToken_43 {L : Nat} {e : vmD} {Qo : Option Value → vmW → Prop} {Q : Int32 → vmD → Prop} (hQ : ∀ r d, Q r d → Qo (some (.int r)) (wC L d e)) (x1 : Int32) (x2 : Int32) (d : vmD) (h : Tokens_takeToken_43 x1 x2 d Q) : vmWp 200 43 [(0, .ref 24), (1, .int x1), (2, .int x2)] [] (wC L d e) Qo := by
  unfold Tokens_takeToken_43 at h
  refine st_go 1 (pc' := 44) (lo' := [(0, .ref 24), (1, .int x1), (2, .int x2)]) (st' := [.int x2]) rfl ?_
  by_cases hc_7 : x2 = 34
  · have h := Eq.mp (if_pos hc_7) h
    refine st_look (t := 131) rfl (by rw [hc_7]; rfl) ?_
    refine st_go 2 (pc' := 133) (lo' := [(0, .ref 24), (1, .int x1), (2, .int x2)]) (st' := [.int x1, .ref 24]) rfl ?_
    refine st_calli (k' := 205) (as := [.ref 24, .int x1]) (rest := []) (lo' := [(0, .ref 24), (1, .int x1)]) (wf := fun d => wC L d e) rfl rfl rfl ?_
    refine tTokens_takeText (fun r_9 d_8 h => ⟨r_9, d_8, rfl, rfl, ?_⟩) x1 d h
    exact st_retI rfl rfl (hQ _ _ h)
  · have h := Eq.mp (if_neg hc_7) h
    by_cases hc_10 : x2 = 36
    · have h := Eq.mp (if_pos hc_10) h
      refine st_look (t := 104) rfl (by rw [hc_10]; rfl) ?_
      refine st_go 6 (pc' := 111) (lo' := [(0, .ref 24), (1, .int x1), (2, .int x2)]) (st' := [.int 16, .int (x1 + 1), .int x1, .ref 24]) rfl ?_
      refine st_calli (k' := 202) (as := [.ref 24, .int x1, .int (x1 + 1), .int 16]) (rest := []) (lo' := [(0, .ref 24), (1, .int x1), (2, .int (x1 + 1)), (3, .int 16)]) (wf := fun d => wC L d e) rfl rfl rfl ?_
      refine tTokens_takeNumber (fun r_12 d_11 h => ⟨r_12, d_11, rfl, rfl, ?_⟩) x1 (x1 + 1) 16 d h
      exact st_retI rfl rfl (hQ _ _ h)
    · have h := Eq.mp (if_neg hc_10) h
      by_cases hc_13 : x2 = 37
      · have h := Eq.mp (if_pos hc_13) h
        refine st_look (t := 115) rfl (by rw [hc_13]; rfl) ?_
        refine st_go 6 (pc' := 121) (lo' := [(0, .ref 24), (1, .int x1), (2, .int x2)]) (st' := [.int 2, .int (x1 + 1), .int x1, .ref 24]) rfl ?_
        refine st_calli (k' := 202) (as := [.ref 24, .int x1, .int (x1 + 1), .int 2]) (rest := []) (lo' := [(0, .ref 24), (1, .int x1), (2, .int (x1 + 1)), (3, .int 2)]) (wf := fun d => wC L d e) rfl rfl rfl ?_
        refine tTokens_takeNumber (fun r_15 d_14 h => ⟨r_15, d_14, rfl, rfl, ?_⟩) x1 (x1 + 1) 2 d h
        exact st_retI rfl rfl (hQ _ _ h)
      · have h := Eq.mp (if_neg hc_13) h
        by_cases hc_16 : x2 = 39
        · have h := Eq.mp (if_pos hc_16) h
          refine st_look (t := 125) rfl (by rw [hc_16]; rfl) ?_
          refine st_go 2 (pc' := 127) (lo' := [(0, .ref 24), (1, .int x1), (2, .int x2)]) (st' := [.int x1, .ref 24]) rfl ?_
          refine st_calli (k' := 204) (as := [.ref 24, .int x1]) (rest := []) (lo' := [(0, .ref 24), (1, .int x1)]) (wf := fun d => wC L d e) rfl rfl rfl ?_
          refine tTokens_takeQuoted (fun r_18 d_17 h => ⟨r_18, d_17, rfl, rfl, ?_⟩) x1 d h
          exact st_retI rfl rfl (hQ _ _ h)
        · have h := Eq.mp (if_neg hc_16) h
          by_cases hc_19 : x2 = 60
          · have h := Eq.mp (if_pos hc_19) h
            refine st_look (t := 137) rfl (by rw [hc_19]; rfl) ?_
            refine st_go 5 (pc' := 144) (lo' := [(0, .ref 24), (1, .int x1), (2, .int x2)]) (st' := [.int (x1 + 1), .ref 9]) rfl ?_
            refine st_calli (k' := 191) (as := [.ref 9, .int (x1 + 1)]) (rest := []) (lo' := [(0, .ref 9), (1, .int (x1 + 1))]) (wf := fun d => wC L d e) rfl rfl rfl ?_
            refine tText_at_src (fun r_21 d_20 h => ⟨r_21, d_20, rfl, rfl, ?_⟩) (x1 + 1) d h
            refine st_go 1 (pc' := 148) (lo' := [(0, .ref 24), (1, .int x1), (2, .int x2)]) (st' := [.int x2, .int r_21]) rfl ?_
            by_cases hc_22 : r_21 = x2
            · have h := Eq.mp (if_pos hc_22) h
              refine st_icmp (t := 153) (b := true) rfl (decide_eq_true hc_22) rfl ?_
              refine st_go 4 (pc' := 157) (lo' := [(0, .ref 24), (1, .int x1), (2, .int x2)]) (st' := [.long 0, .int x1, .int x2, .ref 24]) rfl ?_
              refine st_callv (k' := 199) (as := [.ref 24, .int x2, .int x1, .long 0]) (rest := []) (lo' := [(0, .ref 24), (1, .int x2), (2, .int x1), (3, .long 0)]) (wf := fun d => wC L d e) rfl rfl rfl ?_
              refine tTokens_append (fun d_23 h => ⟨d_23, rfl, rfl, ?_⟩) x2 x1 0 d_20 h
              refine st_go 3 (pc' := 163) (lo' := [(0, .ref 24), (1, .int x1), (2, .int x2)]) (st' := [.int (x1 + 2)]) rfl ?_
              exact st_retI rfl rfl (hQ _ _ h)
            · have h := Eq.mp (if_neg hc_22) h
              refine st_icmp (t := 151) (b := false) rfl (decide_eq_false hc_22) rfl ?_
              refine st_go 1 (pc' := 152) (lo' := [(0, .ref 24), (1, .int x1), (2, .int x2)]) (st' := [.int (-1)]) rfl ?_
              exact st_retI rfl rfl (hQ _ _ h)
          · have h := Eq.mp (if_neg hc_19) h
            by_cases hc_24 : x2 = 62
            · have h := Eq.mp (if_pos hc_24) h
              refine st_look (t := 137) rfl (by rw [hc_24]; rfl) ?_
              refine st_go 5 (pc' := 144) (lo' := [(0, .ref 24), (1, .int x1), (2, .int x2)]) (st' := [.int (x1 + 1), .ref 9]) rfl ?_
              refine st_calli (k' := 191) (as := [.ref 9, .int (x1 + 1)]) (rest := []) (lo' := [(0, .ref 9), (1, .int (x1 + 1))]) (wf := fun d => wC L d e) rfl rfl rfl ?_
              refine tText_at_src (fun r_26 d_25 h => ⟨r_26, d_25, rfl, rfl, ?_⟩) (x1 + 1) d h
              refine st_go 1 (pc' := 148) (lo' := [(0, .ref 24), (1, .int x1), (2, .int x2)]) (st' := [.int x2, .int r_26]) rfl ?_
              by_cases hc_27 : r_26 = x2
              · have h := Eq.mp (if_pos hc_27) h
                refine st_icmp (t := 153) (b := true) rfl (decide_eq_true hc_27) rfl ?_
                refine st_go 4 (pc' := 157) (lo' := [(0, .ref 24), (1, .int x1), (2, .int x2)]) (st' := [.long 0, .int x1, .int x2, .ref 24]) rfl ?_
                refine st_callv (k' := 199) (as := [.ref 24, .int x2, .int x1, .long 0]) (rest := []) (lo' := [(0, .ref 24), (1, .int x2), (2, .int x1), (3, .long 0)]) (wf := fun d => wC L d e) rfl rfl rfl ?_
                refine tTokens_append (fun d_28 h => ⟨d_28, rfl, rfl, ?_⟩) x2 x1 0 d_25 h
                refine st_go 3 (pc' := 163) (lo' := [(0, .ref 24), (1, .int x1), (2, .int x2)]) (st' := [.int (x1 + 2)]) rfl ?_
                exact st_retI rfl rfl (hQ _ _ h)
              · have h := Eq.mp (if_neg hc_27) h
                refine st_icmp (t := 151) (b := false) rfl (decide_eq_false hc_27) rfl ?_
                refine st_go 1 (pc' := 152) (lo' := [(0, .ref 24), (1, .int x1), (2, .int x2)]) (st' := [.int (-1)]) rfl ?_
                exact st_retI rfl rfl (hQ _ _ h)
            · have h := Eq.mp (if_neg hc_24) h
              refine st_look (t := 164) rfl (look_def (by
                intro q hq hx
                simp only [List.mem_cons, List.not_mem_nil, or_false] at hq
                rcases hq with rfl | rfl | rfl | rfl | rfl | rfl <;> first | rfl | exact absurd (Int32.toInt_inj.mp hx.symm) hc_7 | exact absurd (Int32.toInt_inj.mp hx.symm) hc_10 | exact absurd (Int32.toInt_inj.mp hx.symm) hc_13 | exact absurd (Int32.toInt_inj.mp hx.symm) hc_16 | exact absurd (Int32.toInt_inj.mp hx.symm) hc_19 | exact absurd (Int32.toInt_inj.mp hx.symm) hc_24) rfl) ?_
              refine st_go 1 (pc' := 165) (lo' := [(0, .ref 24), (1, .int x1), (2, .int x2)]) (st' := [.int x2]) rfl ?_
              by_cases hc_29 : x2 < 0
              · have h := Eq.mp (if_pos hc_29) h
                refine st_if (t := 178) (b := true) rfl (decide_eq_true hc_29) rfl ?_
                refine st_go 1 (pc' := 179) (lo' := [(0, .ref 24), (1, .int x1), (2, .int x2)]) (st' := [.int (-1)]) rfl ?_
                exact st_retI rfl rfl (hQ _ _ h)
              · have h := Eq.mp (if_neg hc_29) h
                refine st_if (t := 168) (b := false) rfl (decide_eq_false hc_29) rfl ?_
                refine st_go 4 (pc' := 175) (lo' := [(0, .ref 24), (1, .int x1), (2, .int x2)]) (st' := [.int (vmIx (UInt32.toInt32 ((Int32.toUInt32 x2) % 65536)) (sB 6) 0)]) rfl ?_
                by_cases hc_30 : (vmIx (UInt32.toInt32 ((Int32.toUInt32 x2) % 65536)) (sB 6) 0) < 0
                · have h := Eq.mp (if_pos hc_30) h
                  refine st_if (t := 178) (b := false) rfl (decide_eq_false (Int32.not_le.mpr hc_30)) rfl ?_
                  refine st_go 1 (pc' := 179) (lo' := [(0, .ref 24), (1, .int x1), (2, .int x2)]) (st' := [.int (-1)]) rfl ?_
                  exact st_retI rfl rfl (hQ _ _ h)
                · have h := Eq.mp (if_neg hc_30) h
                  refine st_if (t := 180) (b := true) rfl (decide_eq_true (Int32.not_lt.mp hc_30)) rfl ?_
                  refine st_go 4 (pc' := 184) (lo' := [(0, .ref 24), (1, .int x1), (2, .int x2)]) (st' := [.long 0, .int x1, .int x2, .ref 24]) rfl ?_
                  refine st_callv (k' := 199) (as := [.ref 24, .int x2, .int x1, .long 0]) (rest := []) (lo' := [(0, .ref 24), (1, .int x2), (2, .int x1), (3, .long 0)]) (wf := fun d => wC L d e) rfl rfl rfl ?_
                  refine tTokens_append (fun d_31 h => ⟨d_31, rfl, rfl, ?_⟩) x2 x1 0 d h
                  refine st_go 3 (pc' := 190) (lo' := [(0, .ref 24), (1, .int x1), (2, .int x2)]) (st' := [.int (x1 + 1)]) rfl ?_
                  exact st_retI rfl rfl (hQ _ _ h)
set_option maxRecDepth 100000 in
def Tokens_takeToken (x1 : Int32) (d : vmD) (Q : Int32 → vmD → Prop) : Prop :=
  Text_at_src x1 d fun r_2 d_1 =>
  Tokens_beginsName r_2 d_1 fun r_4 d_3 =>
  if r_4 = 0 then
  (if r_2 < 48 then
  (Tokens_takeToken_43 x1 r_2 d_3 Q)
  else
  (if (57 : Int32) < r_2 then
  (Tokens_takeToken_43 x1 r_2 d_3 Q)
  else
  (Tokens_takeNumber x1 x1 10 d_3 fun r_34 d_33 =>
  Q r_34 d_33)))
  else
  (Tokens_takeName x1 d_3 fun r_36 d_35 =>
  Q r_36 d_35)
set_option maxRecDepth 100000 in
set_option maxHeartbeats 4000000 in
theorem tTokens_takeToken {L : Nat} {e : vmD} {Qo : Option Value → vmW → Prop} {Q : Int32 → vmD → Prop} (hQ : ∀ r d, Q r d → Qo (some (.int r)) (wC L d e)) (x1 : Int32) (d : vmD) (h : Tokens_takeToken x1 d Q) : vmWp 200 0 [(0, .ref 24), (1, .int x1)] [] (wC L d e) Qo := by
  unfold Tokens_takeToken at h
  refine st_go 3 (pc' := 5) (lo' := [(0, .ref 24), (1, .int x1)]) (st' := [.int x1, .ref 9]) rfl ?_
  refine st_calli (k' := 191) (as := [.ref 9, .int x1]) (rest := []) (lo' := [(0, .ref 9), (1, .int x1)]) (wf := fun d => wC L d e) rfl rfl rfl ?_
  refine tText_at_src (fun r_2 d_1 h => ⟨r_2, d_1, rfl, rfl, ?_⟩) x1 d h
  refine st_go 2 (pc' := 10) (lo' := [(2, .int r_2), (0, .ref 24), (1, .int x1)]) (st' := [.int r_2]) rfl ?_
  refine st_calli (k' := 207) (as := [.int r_2]) (rest := []) (lo' := [(0, .int r_2)]) (wf := fun d => wC L d e) rfl rfl rfl ?_
  refine tTokens_beginsName (fun r_4 d_3 h => ⟨r_4, d_3, rfl, rfl, ?_⟩) r_2 d_1 h
  by_cases hc_5 : r_4 = 0
  · have h := Eq.mp (if_pos hc_5) h
    refine st_if (t := 22) (b := true) rfl (decide_eq_true hc_5) rfl ?_
    refine st_go 2 (pc' := 25) (lo' := [(2, .int r_2), (0, .ref 24), (1, .int x1)]) (st' := [.int 48, .int r_2]) rfl ?_
    by_cases hc_6 : r_2 < 48
    · have h := Eq.mp (if_pos hc_6) h
      refine st_icmp (t := 43) (b := true) rfl (decide_eq_true hc_6) rfl ?_
      refine vmWp.sub (lo' := [(0, .ref 24), (1, .int x1), (2, .int r_2)]) ⟨rfl, rfl, rfl, trivial⟩ ?_
      exact tTokens_takeToken_43 hQ x1 r_2 d_3 h
    · have h := Eq.mp (if_neg hc_6) h
      refine st_icmp (t := 28) (b := false) rfl (decide_eq_false hc_6) rfl ?_
      refine st_go 2 (pc' := 31) (lo' := [(2, .int r_2), (0, .ref 24), (1, .int x1)]) (st' := [.int 57, .int r_2]) rfl ?_
      by_cases hc_32 : (57 : Int32) < r_2
      · have h := Eq.mp (if_pos hc_32) h
        refine st_icmp (t := 43) (b := true) rfl (decide_eq_true hc_32) rfl ?_
        refine vmWp.sub (lo' := [(0, .ref 24), (1, .int x1), (2, .int r_2)]) ⟨rfl, rfl, rfl, trivial⟩ ?_
        exact tTokens_takeToken_43 hQ x1 r_2 d_3 h
      · have h := Eq.mp (if_neg hc_32) h
        refine st_icmp (t := 34) (b := false) rfl (decide_eq_false hc_32) rfl ?_
        refine st_go 4 (pc' := 39) (lo' := [(2, .int r_2), (0, .ref 24), (1, .int x1)]) (st' := [.int 10, .int x1, .int x1, .ref 24]) rfl ?_
        refine st_calli (k' := 202) (as := [.ref 24, .int x1, .int x1, .int 10]) (rest := []) (lo' := [(0, .ref 24), (1, .int x1), (2, .int x1), (3, .int 10)]) (wf := fun d => wC L d e) rfl rfl rfl ?_
        refine tTokens_takeNumber (fun r_34 d_33 h => ⟨r_34, d_33, rfl, rfl, ?_⟩) x1 x1 10 d_3 h
        exact st_retI rfl rfl (hQ _ _ h)
  · have h := Eq.mp (if_neg hc_5) h
    refine st_if (t := 16) (b := false) rfl (decide_eq_false hc_5) rfl ?_
    refine st_go 2 (pc' := 18) (lo' := [(2, .int r_2), (0, .ref 24), (1, .int x1)]) (st' := [.int x1, .ref 24]) rfl ?_
    refine st_calli (k' := 201) (as := [.ref 24, .int x1]) (rest := []) (lo' := [(0, .ref 24), (1, .int x1)]) (wf := fun d => wC L d e) rfl rfl rfl ?_
    refine tTokens_takeName (fun r_36 d_35 h => ⟨r_36, d_35, rfl, rfl, ?_⟩) x1 d_3 h
    exact st_retI rfl rfl (hQ _ _ h)
set_option maxRecDepth 100000 in
def Tokens_cut_72 (x2 : Int32) (d : vmD) (Q : vmD → Prop) : Prop :=
  Tokens_append 0 x2 0 d fun d_6 =>
  Q d_6
set_option maxRecDepth 100000 in
set_option maxHeartbeats 4000000 in
theorem tTokens_cut_72 {L : Nat} {e : vmD} {Qo : Option Value → vmW → Prop} {Q : vmD → Prop} (hQ : ∀ d, Q d → Qo none (wC L d e)) (x2 : Int32) (d : vmD) (h : Tokens_cut_72 x2 d Q) : vmWp 198 72 [(0, .ref 24), (2, .int x2)] [] (wC L d e) Qo := by
  unfold Tokens_cut_72 at h
  refine st_go 4 (pc' := 76) (lo' := [(0, .ref 24), (2, .int x2)]) (st' := [.long 0, .int x2, .int 0, .ref 24]) rfl ?_
  refine st_callv (k' := 199) (as := [.ref 24, .int 0, .int x2, .long 0]) (rest := []) (lo' := [(0, .ref 24), (1, .int 0), (2, .int x2), (3, .long 0)]) (wf := fun d => wC L d e) rfl rfl rfl ?_
  refine tTokens_append (fun d_6 h => ⟨d_6, rfl, rfl, ?_⟩) 0 x2 0 d h
  exact st_retV rfl rfl (hQ _ h)
set_option maxRecDepth 100000 in
def Tokens_cut_50 (b7 : Int32 → Int32 → vmD → Prop) (x2 : Int32) (x3 : Int32) (s0 : Int32) (d : vmD) (Q : vmD → Prop) : Prop :=
  if x3 < s0 then
  (b7 x2 s0 d)
  else
  (Tokens_append 1 x3 0 d fun d_15 =>
  Q d_15)
set_option maxRecDepth 100000 in
set_option maxHeartbeats 4000000 in
theorem tTokens_cut_50 {L : Nat} {e : vmD} {Qo : Option Value → vmW → Prop} {b7 : Int32 → Int32 → vmD → Prop} {Q : vmD → Prop} (hb7 : ∀ x2 x3 d, b7 x2 x3 d → vmWp 198 7 [(0, .ref 24), (2, .int x2), (3, .int x3)] [] (wC L d e) Qo) (hQ : ∀ d, Q d → Qo none (wC L d e)) (x2 : Int32) (x3 : Int32) (s0 : Int32) (d : vmD) (h : Tokens_cut_50 b7 x2 x3 s0 d Q) : vmWp 198 50 [(0, .ref 24), (2, .int x2), (3, .int x3)] [.int s0] (wC L d e) Qo := by
  unfold Tokens_cut_50 at h
  refine st_go 3 (pc' := 55) (lo' := [(4, .int s0), (0, .ref 24), (2, .int x2), (3, .int x3)]) (st' := [.int x3, .int s0]) rfl ?_
  by_cases hc_14 : x3 < s0
  · have h := Eq.mp (if_pos hc_14) h
    refine st_icmp (t := 66) (b := true) rfl (decide_eq_true hc_14) rfl ?_
    refine st_go 3 (pc' := 7) (lo' := [(3, .int s0), (4, .int s0), (0, .ref 24), (2, .int x2)]) (st' := []) rfl ?_
    refine vmWp.sub (lo' := [(0, .ref 24), (2, .int x2), (3, .int s0)]) ⟨rfl, rfl, rfl, trivial⟩ ?_
    exact hb7 x2 s0 d h
  · have h := Eq.mp (if_neg hc_14) h
    refine st_icmp (t := 58) (b := false) rfl (decide_eq_false hc_14) rfl ?_
    refine st_go 4 (pc' := 62) (lo' := [(4, .int s0), (0, .ref 24), (2, .int x2), (3, .int x3)]) (st' := [.long 0, .int x3, .int 1, .ref 24]) rfl ?_
    refine st_callv (k' := 199) (as := [.ref 24, .int 1, .int x3, .long 0]) (rest := []) (lo' := [(0, .ref 24), (1, .int 1), (2, .int x3), (3, .long 0)]) (wf := fun d => wC L d e) rfl rfl rfl ?_
    refine tTokens_append (fun d_15 h => ⟨d_15, rfl, rfl, ?_⟩) 1 x3 0 d h
    exact st_retV rfl rfl (hQ _ h)
set_option maxRecDepth 100000 in
def Tokens_cut_7 (Q : vmD → Prop) : Nat → Int32 → Int32 → vmD → Prop
  | 0, _, _, _ => False
  | n + 1, x2, x3, d => if x3 < x2 then
  (Text_at_src x3 d fun r_4 d_3 =>
  if r_4 = 59 then
  (Tokens_cut_72 x2 d_3 Q)
  else
  (Text_at_src x3 d_3 fun r_8 d_7 =>
  Tokens_isBlank r_8 d_7 fun r_10 d_9 =>
  if r_10 = 0 then
  (Tokens_takeToken x3 d_9 fun r_13 d_12 =>
  Tokens_cut_50 (Tokens_cut_7 Q n) x2 x3 r_13 d_12 Q)
  else
  (Tokens_cut_50 (Tokens_cut_7 Q n) x2 x3 (x3 + 1) d_9 Q)))
  else
  (Tokens_cut_72 x2 d Q)
set_option maxRecDepth 100000 in
set_option maxHeartbeats 4000000 in
theorem tTokens_cut_7 {L : Nat} {e : vmD} {Qo : Option Value → vmW → Prop} {Q : vmD → Prop} (hQ : ∀ d, Q d → Qo none (wC L d e)) : ∀ (n : Nat) (x2 : Int32) (x3 : Int32) (d : vmD), Tokens_cut_7 Q n x2 x3 d → vmWp 198 7 [(0, .ref 24), (2, .int x2), (3, .int x3)] [] (wC L d e) Qo := by
  intro n
  induction n with
  | zero => intro x2 x3 d h; exact h.elim
  | succ n ih =>
    intro x2 x3 d h
    unfold Tokens_cut_7 at h
    refine st_go 2 (pc' := 9) (lo' := [(0, .ref 24), (2, .int x2), (3, .int x3)]) (st' := [.int x2, .int x3]) rfl ?_
    by_cases hc_2 : x3 < x2
    · have h := Eq.mp (if_pos hc_2) h
      refine st_icmp (t := 12) (b := false) rfl (decide_eq_false (Int32.not_le.mpr hc_2)) rfl ?_
      refine st_go 3 (pc' := 17) (lo' := [(0, .ref 24), (2, .int x2), (3, .int x3)]) (st' := [.int x3, .ref 9]) rfl ?_
      refine st_calli (k' := 191) (as := [.ref 9, .int x3]) (rest := []) (lo' := [(0, .ref 9), (1, .int x3)]) (wf := fun d => wC L d e) rfl rfl rfl ?_
      refine tText_at_src (fun r_4 d_3 h => ⟨r_4, d_3, rfl, rfl, ?_⟩) x3 d h
      refine st_go 1 (pc' := 22) (lo' := [(0, .ref 24), (2, .int x2), (3, .int x3)]) (st' := [.int 59, .int r_4]) rfl ?_
      by_cases hc_5 : r_4 = 59
      · have h := Eq.mp (if_pos hc_5) h
        refine st_icmp (t := 72) (b := true) rfl (decide_eq_true hc_5) rfl ?_
        refine vmWp.sub (lo' := [(0, .ref 24), (2, .int x2)]) ⟨rfl, rfl, trivial⟩ ?_
        exact tTokens_cut_72 hQ x2 d_3 h
      · have h := Eq.mp (if_neg hc_5) h
        refine st_icmp (t := 25) (b := false) rfl (decide_eq_false hc_5) rfl ?_
        refine st_go 3 (pc' := 30) (lo' := [(0, .ref 24), (2, .int x2), (3, .int x3)]) (st' := [.int x3, .ref 9]) rfl ?_
        refine st_calli (k' := 191) (as := [.ref 9, .int x3]) (rest := []) (lo' := [(0, .ref 9), (1, .int x3)]) (wf := fun d => wC L d e) rfl rfl rfl ?_
        refine tText_at_src (fun r_8 d_7 h => ⟨r_8, d_7, rfl, rfl, ?_⟩) x3 d_3 h
        refine st_calli (k' := 206) (as := [.int r_8]) (rest := []) (lo' := [(0, .int r_8)]) (wf := fun d => wC L d e) rfl rfl rfl ?_
        refine tTokens_isBlank (fun r_10 d_9 h => ⟨r_10, d_9, rfl, rfl, ?_⟩) r_8 d_7 h
        by_cases hc_11 : r_10 = 0
        · have h := Eq.mp (if_pos hc_11) h
          refine st_if (t := 45) (b := true) rfl (decide_eq_true hc_11) rfl ?_
          refine st_go 2 (pc' := 47) (lo' := [(0, .ref 24), (2, .int x2), (3, .int x3)]) (st' := [.int x3, .ref 24]) rfl ?_
          refine st_calli (k' := 200) (as := [.ref 24, .int x3]) (rest := []) (lo' := [(0, .ref 24), (1, .int x3)]) (wf := fun d => wC L d e) rfl rfl rfl ?_
          refine tTokens_takeToken (fun r_13 d_12 h => ⟨r_13, d_12, rfl, rfl, ?_⟩) x3 d_9 h
          refine vmWp.sub (lo' := [(0, .ref 24), (2, .int x2), (3, .int x3)]) ⟨rfl, rfl, rfl, trivial⟩ ?_
          exact tTokens_cut_50 ih hQ x2 x3 r_13 d_12 h
        · have h := Eq.mp (if_neg hc_11) h
          refine st_if (t := 39) (b := false) rfl (decide_eq_false hc_11) rfl ?_
          refine st_go 4 (pc' := 50) (lo' := [(0, .ref 24), (2, .int x2), (3, .int x3)]) (st' := [.int (x3 + 1)]) rfl ?_
          refine vmWp.sub (lo' := [(0, .ref 24), (2, .int x2), (3, .int x3)]) ⟨rfl, rfl, rfl, trivial⟩ ?_
          exact tTokens_cut_50 ih hQ x2 x3 (x3 + 1) d_9 h
    · have h := Eq.mp (if_neg hc_2) h
      refine st_icmp (t := 72) (b := true) rfl (decide_eq_true (Int32.not_lt.mp hc_2)) rfl ?_
      refine vmWp.sub (lo' := [(0, .ref 24), (2, .int x2)]) ⟨rfl, rfl, trivial⟩ ?_
      exact tTokens_cut_72 hQ x2 d h
set_option maxRecDepth 100000 in
def Tokens_cut (x1 : Int32) (x2 : Int32) (d : vmD) (Q : vmD → Prop) : Prop :=
  bnd (sF d 24 5 0) fun d_1 =>
  ∃ m7, Tokens_cut_7 Q m7 x2 x1 d_1
set_option maxRecDepth 100000 in
set_option maxHeartbeats 4000000 in
theorem tTokens_cut {L : Nat} {e : vmD} {Qo : Option Value → vmW → Prop} {Q : vmD → Prop} (hQ : ∀ d, Q d → Qo none (wC L d e)) (x1 : Int32) (x2 : Int32) (d : vmD) (h : Tokens_cut x1 x2 d Q) : vmWp 198 0 [(0, .ref 24), (1, .int x1), (2, .int x2)] [] (wC L d e) Qo := by
  unfold Tokens_cut at h
  refine st_go 2 (pc' := 2) (lo' := [(0, .ref 24), (1, .int x1), (2, .int x2)]) (st' := [.int 0, .ref 24]) rfl ?_
  refine st_putIC (o := 24) (f := 5) rfl rfl rfl rfl rfl (fun d_1 hy_d_1 => ?_)
  have h := h d_1 hy_d_1
  refine st_go 2 (pc' := 7) (lo' := [(3, .int x1), (0, .ref 24), (1, .int x1), (2, .int x2)]) (st' := []) rfl ?_
  obtain ⟨m7, h⟩ := h
  refine vmWp.sub (lo' := [(0, .ref 24), (2, .int x2), (3, .int x1)]) ⟨rfl, rfl, rfl, trivial⟩ ?_
  exact tTokens_cut_7 hQ m7 x2 x1 d_1 h
set_option maxRecDepth 100000 in
def Tokens_kind (x1 : Int32) (d : vmD) (Q : Int32 → vmD → Prop) : Prop :=
  if x1 < 0 then
  (Q 0 d)
  else
  (if x1 < (gF d 24 5) then
  (if x1 < 6001 then
  (ixOk x1 6001 ∧
  bnd (gA d 25 x1.toNatClampNeg) fun y_5 =>
  Q y_5 d)
  else
  (Q 0 d))
  else
  (Q 0 d))
set_option maxRecDepth 100000 in
set_option maxHeartbeats 4000000 in
theorem tTokens_kind {L : Nat} {e : vmD} {Qo : Option Value → vmW → Prop} {Q : Int32 → vmD → Prop} (hQ : ∀ r d, Q r d → Qo (some (.int r)) (wC L d e)) (x1 : Int32) (d : vmD) (h : Tokens_kind x1 d Q) : vmWp 213 0 [(0, .ref 24), (1, .int x1)] [] (wC L d e) Qo := by
  unfold Tokens_kind at h
  refine st_go 1 (pc' := 1) (lo' := [(0, .ref 24), (1, .int x1)]) (st' := [.int x1]) rfl ?_
  by_cases hc_1 : x1 < 0
  · have h := Eq.mp (if_pos hc_1) h
    refine st_if (t := 30) (b := true) rfl (decide_eq_true hc_1) rfl ?_
    refine st_go 1 (pc' := 31) (lo' := [(0, .ref 24), (1, .int x1)]) (st' := [.int 0]) rfl ?_
    exact st_retI rfl rfl (hQ _ _ h)
  · have h := Eq.mp (if_neg hc_1) h
    refine st_if (t := 4) (b := false) rfl (decide_eq_false hc_1) rfl ?_
    refine st_go 3 (pc' := 9) (lo' := [(0, .ref 24), (1, .int x1)]) (st' := [.int (gF d 24 5), .int x1]) rfl ?_
    by_cases hc_2 : x1 < (gF d 24 5)
    · have h := Eq.mp (if_pos hc_2) h
      refine st_icmp (t := 12) (b := false) rfl (decide_eq_false (Int32.not_le.mpr hc_2)) rfl ?_
      refine st_go 4 (pc' := 18) (lo' := [(0, .ref 24), (1, .int x1)]) (st' := [.int 6001, .int x1]) rfl ?_
      by_cases hc_3 : x1 < 6001
      · have h := Eq.mp (if_pos hc_3) h
        refine st_icmp (t := 21) (b := false) rfl (decide_eq_false (Int32.not_le.mpr hc_3)) rfl ?_
        refine st_go 3 (pc' := 26) (lo' := [(0, .ref 24), (1, .int x1)]) (st' := [.int x1, .ref 25]) rfl ?_
        obtain ⟨hj_4, h⟩ := h
        refine st_baldC (o := 25) rfl rfl hj_4 rfl (fun y_5 hy_y_5 => ?_)
        have h := h y_5 hy_y_5
        refine st_go 1 (pc' := 31) (lo' := [(0, .ref 24), (1, .int x1)]) (st' := [.int y_5]) rfl ?_
        exact st_retI rfl rfl (hQ _ _ h)
      · have h := Eq.mp (if_neg hc_3) h
        refine st_icmp (t := 30) (b := true) rfl (decide_eq_true (Int32.not_lt.mp hc_3)) rfl ?_
        refine st_go 1 (pc' := 31) (lo' := [(0, .ref 24), (1, .int x1)]) (st' := [.int 0]) rfl ?_
        exact st_retI rfl rfl (hQ _ _ h)
    · have h := Eq.mp (if_neg hc_2) h
      refine st_icmp (t := 30) (b := true) rfl (decide_eq_true (Int32.not_lt.mp hc_2)) rfl ?_
      refine st_go 1 (pc' := 31) (lo' := [(0, .ref 24), (1, .int x1)]) (st' := [.int 0]) rfl ?_
      exact st_retI rfl rfl (hQ _ _ h)
set_option maxRecDepth 100000 in
def Tokens_value_30 (d : vmD) (Q : Int64 → vmD → Prop) : Prop :=
  Q 0 d
set_option maxRecDepth 100000 in
set_option maxHeartbeats 4000000 in
theorem tTokens_value_30 {L : Nat} {e : vmD} {Qo : Option Value → vmW → Prop} {Q : Int64 → vmD → Prop} (hQ : ∀ r d, Q r d → Qo (some (.long r)) (wC L d e)) (d : vmD) (h : Tokens_value_30 d Q) : vmWp 215 30 [] [] (wC L d e) Qo := by
  unfold Tokens_value_30 at h
  refine st_go 1 (pc' := 31) (lo' := []) (st' := [.long 0]) rfl ?_
  exact st_retJ rfl rfl (hQ _ _ h)
set_option maxRecDepth 100000 in
def Tokens_value (x1 : Int32) (d : vmD) (Q : Int64 → vmD → Prop) : Prop :=
  if x1 < 0 then
  (Tokens_value_30 d Q)
  else
  (if x1 < (gF d 24 5) then
  (if x1 < 6001 then
  (ixOk x1 6001 ∧
  bnd (gL d 27 x1.toNatClampNeg) fun y_5 =>
  Q y_5 d)
  else
  (Tokens_value_30 d Q))
  else
  (Tokens_value_30 d Q))
set_option maxRecDepth 100000 in
set_option maxHeartbeats 4000000 in
theorem tTokens_value {L : Nat} {e : vmD} {Qo : Option Value → vmW → Prop} {Q : Int64 → vmD → Prop} (hQ : ∀ r d, Q r d → Qo (some (.long r)) (wC L d e)) (x1 : Int32) (d : vmD) (h : Tokens_value x1 d Q) : vmWp 215 0 [(0, .ref 24), (1, .int x1)] [] (wC L d e) Qo := by
  unfold Tokens_value at h
  refine st_go 1 (pc' := 1) (lo' := [(0, .ref 24), (1, .int x1)]) (st' := [.int x1]) rfl ?_
  by_cases hc_1 : x1 < 0
  · have h := Eq.mp (if_pos hc_1) h
    refine st_if (t := 30) (b := true) rfl (decide_eq_true hc_1) rfl ?_
    refine vmWp.sub (lo' := []) trivial ?_
    exact tTokens_value_30 hQ d h
  · have h := Eq.mp (if_neg hc_1) h
    refine st_if (t := 4) (b := false) rfl (decide_eq_false hc_1) rfl ?_
    refine st_go 3 (pc' := 9) (lo' := [(0, .ref 24), (1, .int x1)]) (st' := [.int (gF d 24 5), .int x1]) rfl ?_
    by_cases hc_2 : x1 < (gF d 24 5)
    · have h := Eq.mp (if_pos hc_2) h
      refine st_icmp (t := 12) (b := false) rfl (decide_eq_false (Int32.not_le.mpr hc_2)) rfl ?_
      refine st_go 4 (pc' := 18) (lo' := [(0, .ref 24), (1, .int x1)]) (st' := [.int 6001, .int x1]) rfl ?_
      by_cases hc_3 : x1 < 6001
      · have h := Eq.mp (if_pos hc_3) h
        refine st_icmp (t := 21) (b := false) rfl (decide_eq_false (Int32.not_le.mpr hc_3)) rfl ?_
        refine st_go 3 (pc' := 26) (lo' := [(0, .ref 24), (1, .int x1)]) (st' := [.int x1, .ref 27]) rfl ?_
        obtain ⟨hj_4, h⟩ := h
        refine st_laldC (o := 27) rfl rfl hj_4 rfl (fun y_5 hy_y_5 => ?_)
        have h := h y_5 hy_y_5
        refine st_go 1 (pc' := 31) (lo' := [(0, .ref 24), (1, .int x1)]) (st' := [.long y_5]) rfl ?_
        exact st_retJ rfl rfl (hQ _ _ h)
      · have h := Eq.mp (if_neg hc_3) h
        refine st_icmp (t := 30) (b := true) rfl (decide_eq_true (Int32.not_lt.mp hc_3)) rfl ?_
        refine vmWp.sub (lo' := []) trivial ?_
        exact tTokens_value_30 hQ d h
    · have h := Eq.mp (if_neg hc_2) h
      refine st_icmp (t := 30) (b := true) rfl (decide_eq_true (Int32.not_lt.mp hc_2)) rfl ?_
      refine vmWp.sub (lo' := []) trivial ?_
      exact tTokens_value_30 hQ d h
set_option maxRecDepth 100000 in
def Names_find_2 (Q : Int32 → vmD → Prop) : Nat → Int64 → Int32 → vmD → Prop
  | 0, _, _, _ => False
  | n + 1, x1, x3, d => if x3 < (gF d 3 6) then
  (if x3 < 200 then
  (ixOk x3 200 ∧
  bnd (gL d 7 x3.toNatClampNeg) fun y_4 =>
  if (lg_cmp y_4 x1) = 0 then
  (Q x3 d)
  else
  (bnd (x3 + 1) fun x3_6 =>
  (Names_find_2 Q n) x1 x3_6 d))
  else
  (Q (-1) d))
  else
  (Q (-1) d)
set_option maxRecDepth 100000 in
set_option maxHeartbeats 4000000 in
theorem tNames_find_2 {L : Nat} {e : vmD} {Qo : Option Value → vmW → Prop} {Q : Int32 → vmD → Prop} (hQ : ∀ r d, Q r d → Qo (some (.int r)) (wC L d e)) : ∀ (n : Nat) (x1 : Int64) (x3 : Int32) (d : vmD), Names_find_2 Q n x1 x3 d → vmWp 143 2 [(0, .ref 3), (1, .long x1), (3, .int x3)] [] (wC L d e) Qo := by
  intro n
  induction n with
  | zero => intro x1 x3 d h; exact h.elim
  | succ n ih =>
    intro x1 x3 d h
    unfold Names_find_2 at h
    refine st_go 3 (pc' := 7) (lo' := [(0, .ref 3), (1, .long x1), (3, .int x3)]) (st' := [.int (gF d 3 6), .int x3]) rfl ?_
    by_cases hc_1 : x3 < (gF d 3 6)
    · have h := Eq.mp (if_pos hc_1) h
      refine st_icmp (t := 10) (b := false) rfl (decide_eq_false (Int32.not_le.mpr hc_1)) rfl ?_
      refine st_go 2 (pc' := 14) (lo' := [(0, .ref 3), (1, .long x1), (3, .int x3)]) (st' := [.int 200, .int x3]) rfl ?_
      by_cases hc_2 : x3 < 200
      · have h := Eq.mp (if_pos hc_2) h
        refine st_icmp (t := 17) (b := false) rfl (decide_eq_false (Int32.not_le.mpr hc_2)) rfl ?_
        refine st_go 3 (pc' := 22) (lo' := [(0, .ref 3), (1, .long x1), (3, .int x3)]) (st' := [.int x3, .ref 7]) rfl ?_
        obtain ⟨hj_3, h⟩ := h
        refine st_laldC (o := 7) rfl rfl hj_3 rfl (fun y_4 hy_y_4 => ?_)
        have h := h y_4 hy_y_4
        refine st_go 2 (pc' := 25) (lo' := [(0, .ref 3), (1, .long x1), (3, .int x3)]) (st' := [.int (lg_cmp y_4 x1)]) rfl ?_
        by_cases hc_5 : (lg_cmp y_4 x1) = 0
        · have h := Eq.mp (if_pos hc_5) h
          refine st_if (t := 28) (b := false) rfl (decide_eq_false (fun z => z hc_5)) rfl ?_
          refine st_go 1 (pc' := 29) (lo' := [(0, .ref 3), (1, .long x1), (3, .int x3)]) (st' := [.int x3]) rfl ?_
          exact st_retI rfl rfl (hQ _ _ h)
        · have h := Eq.mp (if_neg hc_5) h
          refine st_if (t := 30) (b := true) rfl (decide_eq_true hc_5) rfl ?_
          refine st_go 1 (pc' := 33) (lo' := [(3, .int (x3 + 1)), (0, .ref 3), (1, .long x1)]) (st' := []) rfl ?_
          refine st_locI (fun x3_6 hy_x3_6 => ?_)
          have h := h x3_6 hy_x3_6
          refine st_go 1 (pc' := 2) (lo' := [(3, .int x3_6), (0, .ref 3), (1, .long x1)]) (st' := []) rfl ?_
          refine vmWp.sub (lo' := [(0, .ref 3), (1, .long x1), (3, .int x3_6)]) ⟨rfl, rfl, rfl, trivial⟩ ?_
          exact ih x1 x3_6 d h
      · have h := Eq.mp (if_neg hc_2) h
        refine st_icmp (t := 36) (b := true) rfl (decide_eq_true (Int32.not_lt.mp hc_2)) rfl ?_
        refine st_go 1 (pc' := 37) (lo' := [(0, .ref 3), (1, .long x1), (3, .int x3)]) (st' := [.int (-1)]) rfl ?_
        exact st_retI rfl rfl (hQ _ _ h)
    · have h := Eq.mp (if_neg hc_1) h
      refine st_icmp (t := 36) (b := true) rfl (decide_eq_true (Int32.not_lt.mp hc_1)) rfl ?_
      refine st_go 1 (pc' := 37) (lo' := [(0, .ref 3), (1, .long x1), (3, .int x3)]) (st' := [.int (-1)]) rfl ?_
      exact st_retI rfl rfl (hQ _ _ h)
set_option maxRecDepth 100000 in
def Names_find (x1 : Int64) (d : vmD) (Q : Int32 → vmD → Prop) : Prop :=
  ∃ m2, Names_find_2 Q m2 x1 0 d
set_option maxRecDepth 100000 in
set_option maxHeartbeats 4000000 in
theorem tNames_find {L : Nat} {e : vmD} {Qo : Option Value → vmW → Prop} {Q : Int32 → vmD → Prop} (hQ : ∀ r d, Q r d → Qo (some (.int r)) (wC L d e)) (x1 : Int64) (d : vmD) (h : Names_find x1 d Q) : vmWp 143 0 [(0, .ref 3), (1, .long x1)] [] (wC L d e) Qo := by
  unfold Names_find at h
  refine st_go 2 (pc' := 2) (lo' := [(3, .int 0), (0, .ref 3), (1, .long x1)]) (st' := []) rfl ?_
  obtain ⟨m2, h⟩ := h
  refine vmWp.sub (lo' := [(0, .ref 3), (1, .long x1), (3, .int 0)]) ⟨rfl, rfl, rfl, trivial⟩ ?_
  exact tNames_find_2 hQ m2 x1 0 d h
set_option maxRecDepth 100000 in
def Names_isFree (x1 : Int64) (d : vmD) (Q : Int32 → vmD → Prop) : Prop :=
  Names_idOf x1 d fun r_2 d_1 =>
  if r_2 = 0 then
  (Names_find x1 d_1 fun r_5 d_4 =>
  if r_5 < 0 then
  (if (gF d_4 3 6) < 200 then
  (Q 1 d_4)
  else
  (Q 0 d_4))
  else
  (Q 0 d_4))
  else
  (Q 0 d_1)
set_option maxRecDepth 100000 in
set_option maxHeartbeats 4000000 in
theorem tNames_isFree {L : Nat} {e : vmD} {Qo : Option Value → vmW → Prop} {Q : Int32 → vmD → Prop} (hQ : ∀ r d, Q r d → Qo (some (.int r)) (wC L d e)) (x1 : Int64) (d : vmD) (h : Names_isFree x1 d Q) : vmWp 141 0 [(0, .ref 3), (1, .long x1)] [] (wC L d e) Qo := by
  unfold Names_isFree at h
  refine st_go 2 (pc' := 2) (lo' := [(0, .ref 3), (1, .long x1)]) (st' := [.long x1, .ref 3]) rfl ?_
  refine st_calli (k' := 139) (as := [.ref 3, .long x1]) (rest := []) (lo' := [(0, .ref 3), (1, .long x1)]) (wf := fun d => wC L d e) rfl rfl rfl ?_
  refine tNames_idOf (fun r_2 d_1 h => ⟨r_2, d_1, rfl, rfl, ?_⟩) x1 d h
  by_cases hc_3 : r_2 = 0
  · have h := Eq.mp (if_pos hc_3) h
    refine st_if (t := 8) (b := false) rfl (decide_eq_false (fun z => z hc_3)) rfl ?_
    refine st_go 2 (pc' := 10) (lo' := [(0, .ref 3), (1, .long x1)]) (st' := [.long x1, .ref 3]) rfl ?_
    refine st_calli (k' := 143) (as := [.ref 3, .long x1]) (rest := []) (lo' := [(0, .ref 3), (1, .long x1)]) (wf := fun d => wC L d e) rfl rfl rfl ?_
    refine tNames_find (fun r_5 d_4 h => ⟨r_5, d_4, rfl, rfl, ?_⟩) x1 d_1 h
    by_cases hc_6 : r_5 < 0
    · have h := Eq.mp (if_pos hc_6) h
      refine st_if (t := 16) (b := false) rfl (decide_eq_false (Int32.not_le.mpr hc_6)) rfl ?_
      refine st_go 3 (pc' := 23) (lo' := [(0, .ref 3), (1, .long x1)]) (st' := [.int 200, .int (gF d_4 3 6)]) rfl ?_
      by_cases hc_7 : (gF d_4 3 6) < 200
      · have h := Eq.mp (if_pos hc_7) h
        refine st_icmp (t := 26) (b := false) rfl (decide_eq_false (Int32.not_le.mpr hc_7)) rfl ?_
        refine st_go 2 (pc' := 31) (lo' := [(0, .ref 3), (1, .long x1)]) (st' := [.int 1]) rfl ?_
        exact st_retZ rfl rfl (Or.inr rfl) (hQ _ _ h)
      · have h := Eq.mp (if_neg hc_7) h
        refine st_icmp (t := 30) (b := true) rfl (decide_eq_true (Int32.not_lt.mp hc_7)) rfl ?_
        refine st_go 1 (pc' := 31) (lo' := [(0, .ref 3), (1, .long x1)]) (st' := [.int 0]) rfl ?_
        exact st_retZ rfl rfl (Or.inl rfl) (hQ _ _ h)
    · have h := Eq.mp (if_neg hc_6) h
      refine st_if (t := 30) (b := true) rfl (decide_eq_true (Int32.not_lt.mp hc_6)) rfl ?_
      refine st_go 1 (pc' := 31) (lo' := [(0, .ref 3), (1, .long x1)]) (st' := [.int 0]) rfl ?_
      exact st_retZ rfl rfl (Or.inl rfl) (hQ _ _ h)
  · have h := Eq.mp (if_neg hc_3) h
    refine st_if (t := 30) (b := true) rfl (decide_eq_true hc_3) rfl ?_
    refine st_go 1 (pc' := 31) (lo' := [(0, .ref 3), (1, .long x1)]) (st' := [.int 0]) rfl ?_
    exact st_retZ rfl rfl (Or.inl rfl) (hQ _ _ h)
set_option maxRecDepth 100000 in
def Tokens_place (x1 : Int32) (d : vmD) (Q : Int32 → vmD → Prop) : Prop :=
  if x1 < 0 then
  (Q 0 d)
  else
  (if x1 < (gF d 24 5) then
  (if x1 < 6001 then
  (ixOk x1 6001 ∧
  bnd (gA d 26 x1.toNatClampNeg) fun y_5 =>
  Q y_5 d)
  else
  (Q 0 d))
  else
  (Q 0 d))
set_option maxRecDepth 100000 in
set_option maxHeartbeats 4000000 in
theorem tTokens_place {L : Nat} {e : vmD} {Qo : Option Value → vmW → Prop} {Q : Int32 → vmD → Prop} (hQ : ∀ r d, Q r d → Qo (some (.int r)) (wC L d e)) (x1 : Int32) (d : vmD) (h : Tokens_place x1 d Q) : vmWp 214 0 [(0, .ref 24), (1, .int x1)] [] (wC L d e) Qo := by
  unfold Tokens_place at h
  refine st_go 1 (pc' := 1) (lo' := [(0, .ref 24), (1, .int x1)]) (st' := [.int x1]) rfl ?_
  by_cases hc_1 : x1 < 0
  · have h := Eq.mp (if_pos hc_1) h
    refine st_if (t := 30) (b := true) rfl (decide_eq_true hc_1) rfl ?_
    refine st_go 1 (pc' := 31) (lo' := [(0, .ref 24), (1, .int x1)]) (st' := [.int 0]) rfl ?_
    exact st_retI rfl rfl (hQ _ _ h)
  · have h := Eq.mp (if_neg hc_1) h
    refine st_if (t := 4) (b := false) rfl (decide_eq_false hc_1) rfl ?_
    refine st_go 3 (pc' := 9) (lo' := [(0, .ref 24), (1, .int x1)]) (st' := [.int (gF d 24 5), .int x1]) rfl ?_
    by_cases hc_2 : x1 < (gF d 24 5)
    · have h := Eq.mp (if_pos hc_2) h
      refine st_icmp (t := 12) (b := false) rfl (decide_eq_false (Int32.not_le.mpr hc_2)) rfl ?_
      refine st_go 4 (pc' := 18) (lo' := [(0, .ref 24), (1, .int x1)]) (st' := [.int 6001, .int x1]) rfl ?_
      by_cases hc_3 : x1 < 6001
      · have h := Eq.mp (if_pos hc_3) h
        refine st_icmp (t := 21) (b := false) rfl (decide_eq_false (Int32.not_le.mpr hc_3)) rfl ?_
        refine st_go 3 (pc' := 26) (lo' := [(0, .ref 24), (1, .int x1)]) (st' := [.int x1, .ref 26]) rfl ?_
        obtain ⟨hj_4, h⟩ := h
        refine st_ialdC (o := 26) rfl rfl hj_4 rfl (fun y_5 hy_y_5 => ?_)
        have h := h y_5 hy_y_5
        refine st_go 1 (pc' := 31) (lo' := [(0, .ref 24), (1, .int x1)]) (st' := [.int y_5]) rfl ?_
        exact st_retI rfl rfl (hQ _ _ h)
      · have h := Eq.mp (if_neg hc_3) h
        refine st_icmp (t := 30) (b := true) rfl (decide_eq_true (Int32.not_lt.mp hc_3)) rfl ?_
        refine st_go 1 (pc' := 31) (lo' := [(0, .ref 24), (1, .int x1)]) (st' := [.int 0]) rfl ?_
        exact st_retI rfl rfl (hQ _ _ h)
    · have h := Eq.mp (if_neg hc_2) h
      refine st_icmp (t := 30) (b := true) rfl (decide_eq_true (Int32.not_lt.mp hc_2)) rfl ?_
      refine st_go 1 (pc' := 31) (lo' := [(0, .ref 24), (1, .int x1)]) (st' := [.int 0]) rfl ?_
      exact st_retI rfl rfl (hQ _ _ h)
set_option maxRecDepth 100000 in
def Tokens_blame (x1 : Int32) (x2 : Int32) (d : vmD) (Q : vmD → Prop) : Prop :=
  Tokens_place x1 d fun r_2 d_1 =>
  Faults_add (gF d 24 6) r_2 x2 d_1 fun d_3 =>
  Q d_3
set_option maxRecDepth 100000 in
set_option maxHeartbeats 4000000 in
theorem tTokens_blame {L : Nat} {e : vmD} {Qo : Option Value → vmW → Prop} {Q : vmD → Prop} (hQ : ∀ d, Q d → Qo none (wC L d e)) (x1 : Int32) (x2 : Int32) (d : vmD) (h : Tokens_blame x1 x2 d Q) : vmWp 218 0 [(0, .ref 24), (1, .int x1), (2, .int x2)] [] (wC L d e) Qo := by
  unfold Tokens_blame at h
  refine st_go 6 (pc' := 10) (lo' := [(0, .ref 24), (1, .int x1), (2, .int x2)]) (st' := [.int x1, .ref 24, .int (gF d 24 6), .ref 21]) rfl ?_
  refine st_calli (k' := 214) (as := [.ref 24, .int x1]) (rest := [.int (gF d 24 6), .ref 21]) (lo' := [(0, .ref 24), (1, .int x1)]) (wf := fun d => wC L d e) rfl rfl rfl ?_
  refine tTokens_place (fun r_2 d_1 h => ⟨r_2, d_1, rfl, rfl, ?_⟩) x1 d h
  refine st_go 1 (pc' := 14) (lo' := [(0, .ref 24), (1, .int x1), (2, .int x2)]) (st' := [.int x2, .int r_2, .int (gF d 24 6), .ref 21]) rfl ?_
  refine st_callv (k' := 23) (as := [.ref 21, .int (gF d 24 6), .int r_2, .int x2]) (rest := []) (lo' := [(0, .ref 21), (1, .int (gF d 24 6)), (2, .int r_2), (3, .int x2)]) (wf := fun d => wC L d e) rfl rfl rfl ?_
  refine tFaults_add (fun d_3 h => ⟨d_3, rfl, rfl, ?_⟩) (gF d 24 6) r_2 x2 d_1 h
  exact st_retV rfl rfl (hQ _ h)
set_option maxRecDepth 100000 in
def Forger_canTell_31 (x1 : Int32) (s0 : Int32) (d : vmD) (Q : Int32 → vmD → Prop) : Prop :=
  if s0 = 0 then
  (Tokens_blame x1 3 d fun d_8 =>
  (s0 = 0 ∨ s0 = 1) ∧ Q s0 d_8)
  else
  ((s0 = 0 ∨ s0 = 1) ∧ Q s0 d)
set_option maxRecDepth 100000 in
set_option maxHeartbeats 4000000 in
theorem tForger_canTell_31 {L : Nat} {e : vmD} {Qo : Option Value → vmW → Prop} {Q : Int32 → vmD → Prop} (hQ : ∀ r d, Q r d → Qo (some (.int r)) (wC L d e)) (x1 : Int32) (s0 : Int32) (d : vmD) (h : Forger_canTell_31 x1 s0 d Q) : vmWp 37 31 [(0, .ref 20), (1, .int x1)] [.int s0] (wC L d e) Qo := by
  unfold Forger_canTell_31 at h
  refine st_go 2 (pc' := 33) (lo' := [(2, .int s0), (0, .ref 20), (1, .int x1)]) (st' := [.int s0]) rfl ?_
  by_cases hc_7 : s0 = 0
  · have h := Eq.mp (if_pos hc_7) h
    refine st_if (t := 36) (b := false) rfl (decide_eq_false (fun z => z hc_7)) rfl ?_
    refine st_go 4 (pc' := 42) (lo' := [(2, .int s0), (0, .ref 20), (1, .int x1)]) (st' := [.int 3, .int x1, .ref 24]) rfl ?_
    refine st_callv (k' := 218) (as := [.ref 24, .int x1, .int 3]) (rest := []) (lo' := [(0, .ref 24), (1, .int x1), (2, .int 3)]) (wf := fun d => wC L d e) rfl rfl rfl ?_
    refine tTokens_blame (fun d_8 h => ⟨d_8, rfl, rfl, ?_⟩) x1 3 d h
    refine st_go 1 (pc' := 46) (lo' := [(2, .int s0), (0, .ref 20), (1, .int x1)]) (st' := [.int s0]) rfl ?_
    exact st_retZ rfl rfl h.1 (hQ _ _ h.2)
  · have h := Eq.mp (if_neg hc_7) h
    refine st_if (t := 45) (b := true) rfl (decide_eq_true hc_7) rfl ?_
    refine st_go 1 (pc' := 46) (lo' := [(2, .int s0), (0, .ref 20), (1, .int x1)]) (st' := [.int s0]) rfl ?_
    exact st_retZ rfl rfl h.1 (hQ _ _ h.2)
set_option maxRecDepth 100000 in
def Forger_canTell_26 (x1 : Int32) (d : vmD) (Q : Int32 → vmD → Prop) : Prop :=
  Forger_canTell_31 x1 1 d Q
set_option maxRecDepth 100000 in
set_option maxHeartbeats 4000000 in
theorem tForger_canTell_26 {L : Nat} {e : vmD} {Qo : Option Value → vmW → Prop} {Q : Int32 → vmD → Prop} (hQ : ∀ r d, Q r d → Qo (some (.int r)) (wC L d e)) (x1 : Int32) (d : vmD) (h : Forger_canTell_26 x1 d Q) : vmWp 37 26 [(0, .ref 20), (1, .int x1)] [] (wC L d e) Qo := by
  unfold Forger_canTell_26 at h
  refine st_go 2 (pc' := 31) (lo' := [(0, .ref 20), (1, .int x1)]) (st' := [.int 1]) rfl ?_
  refine vmWp.sub (lo' := [(0, .ref 20), (1, .int x1)]) ⟨rfl, rfl, trivial⟩ ?_
  exact tForger_canTell_31 hQ x1 1 d h
set_option maxRecDepth 100000 in
def Forger_canTell (x1 : Int32) (d : vmD) (Q : Int32 → vmD → Prop) : Prop :=
  if (gF d 20 9) = 1 then
  (Tokens_value x1 d fun r_3 d_2 =>
  Names_isFree r_3 d_2 fun r_5 d_4 =>
  if r_5 = 0 then
  (Forger_canTell_31 x1 0 d_4 Q)
  else
  (Forger_canTell_26 x1 d_4 Q))
  else
  (Forger_canTell_26 x1 d Q)
set_option maxRecDepth 100000 in
set_option maxHeartbeats 4000000 in
theorem tForger_canTell {L : Nat} {e : vmD} {Qo : Option Value → vmW → Prop} {Q : Int32 → vmD → Prop} (hQ : ∀ r d, Q r d → Qo (some (.int r)) (wC L d e)) (x1 : Int32) (d : vmD) (h : Forger_canTell x1 d Q) : vmWp 37 0 [(0, .ref 20), (1, .int x1)] [] (wC L d e) Qo := by
  unfold Forger_canTell at h
  refine st_go 3 (pc' := 5) (lo' := [(0, .ref 20), (1, .int x1)]) (st' := [.int 1, .int (gF d 20 9)]) rfl ?_
  by_cases hc_1 : (gF d 20 9) = 1
  · have h := Eq.mp (if_pos hc_1) h
    refine st_icmp (t := 8) (b := false) rfl (decide_eq_false (fun z => z hc_1)) rfl ?_
    refine st_go 5 (pc' := 17) (lo' := [(0, .ref 20), (1, .int x1)]) (st' := [.int x1, .ref 24, .ref 3]) rfl ?_
    refine st_calll (k' := 215) (as := [.ref 24, .int x1]) (rest := [.ref 3]) (lo' := [(0, .ref 24), (1, .int x1)]) (wf := fun d => wC L d e) rfl rfl rfl ?_
    refine tTokens_value (fun r_3 d_2 h => ⟨r_3, d_2, rfl, rfl, ?_⟩) x1 d h
    refine st_calli (k' := 141) (as := [.ref 3, .long r_3]) (rest := []) (lo' := [(0, .ref 3), (1, .long r_3)]) (wf := fun d => wC L d e) rfl rfl rfl ?_
    refine tNames_isFree (fun r_5 d_4 h => ⟨r_5, d_4, rfl, rfl, ?_⟩) r_3 d_2 h
    by_cases hc_6 : r_5 = 0
    · have h := Eq.mp (if_pos hc_6) h
      refine st_if (t := 30) (b := true) rfl (decide_eq_true hc_6) rfl ?_
      refine st_go 1 (pc' := 31) (lo' := [(0, .ref 20), (1, .int x1)]) (st' := [.int 0]) rfl ?_
      refine vmWp.sub (lo' := [(0, .ref 20), (1, .int x1)]) ⟨rfl, rfl, trivial⟩ ?_
      exact tForger_canTell_31 hQ x1 0 d_4 h
    · have h := Eq.mp (if_neg hc_6) h
      refine st_if (t := 26) (b := false) rfl (decide_eq_false hc_6) rfl ?_
      refine vmWp.sub (lo' := [(0, .ref 20), (1, .int x1)]) ⟨rfl, rfl, trivial⟩ ?_
      exact tForger_canTell_26 hQ x1 d_4 h
  · have h := Eq.mp (if_neg hc_1) h
    refine st_icmp (t := 26) (b := true) rfl (decide_eq_true hc_1) rfl ?_
    refine vmWp.sub (lo' := [(0, .ref 20), (1, .int x1)]) ⟨rfl, rfl, trivial⟩ ?_
    exact tForger_canTell_26 hQ x1 d h
set_option maxRecDepth 100000 in
def Names_tell (x1 : Int64) (x3 : Int32) (d : vmD) (Q : vmD → Prop) : Prop :=
  if (gF d 3 6) < 0 then
  (Q d)
  else
  (if (gF d 3 6) < 200 then
  (ixOk (gF d 3 6) 200 ∧
  bnd (sL d 7 (gF d 3 6).toNatClampNeg x1) fun d_4 =>
  ixOk (gF d_4 3 6) 200 ∧
  bnd (sA d_4 8 (gF d_4 3 6).toNatClampNeg x3) fun d_6 =>
  bnd (sF d_6 3 6 ((gF d_6 3 6) + 1)) fun d_7 =>
  Q d_7)
  else
  (Q d))
set_option maxRecDepth 100000 in
set_option maxHeartbeats 4000000 in
theorem tNames_tell {L : Nat} {e : vmD} {Qo : Option Value → vmW → Prop} {Q : vmD → Prop} (hQ : ∀ d, Q d → Qo none (wC L d e)) (x1 : Int64) (x3 : Int32) (d : vmD) (h : Names_tell x1 x3 d Q) : vmWp 142 0 [(0, .ref 3), (1, .long x1), (3, .int x3)] [] (wC L d e) Qo := by
  unfold Names_tell at h
  refine st_go 2 (pc' := 4) (lo' := [(0, .ref 3), (1, .long x1), (3, .int x3)]) (st' := [.int (gF d 3 6)]) rfl ?_
  by_cases hc_1 : (gF d 3 6) < 0
  · have h := Eq.mp (if_pos hc_1) h
    refine st_if (t := 47) (b := true) rfl (decide_eq_true hc_1) rfl ?_
    exact st_retV rfl rfl (hQ _ h)
  · have h := Eq.mp (if_neg hc_1) h
    refine st_if (t := 7) (b := false) rfl (decide_eq_false hc_1) rfl ?_
    refine st_go 3 (pc' := 14) (lo' := [(0, .ref 3), (1, .long x1), (3, .int x3)]) (st' := [.int 200, .int (gF d 3 6)]) rfl ?_
    by_cases hc_2 : (gF d 3 6) < 200
    · have h := Eq.mp (if_pos hc_2) h
      refine st_icmp (t := 17) (b := false) rfl (decide_eq_false (Int32.not_le.mpr hc_2)) rfl ?_
      refine st_go 5 (pc' := 26) (lo' := [(0, .ref 3), (1, .long x1), (3, .int x3)]) (st' := [.long x1, .int (gF d 3 6), .ref 7]) rfl ?_
      obtain ⟨hj_3, h⟩ := h
      refine st_lastC (o := 7) rfl rfl hj_3 rfl (fun d_4 hy_d_4 => ?_)
      have h := h d_4 hy_d_4
      refine st_go 5 (pc' := 36) (lo' := [(0, .ref 3), (1, .long x1), (3, .int x3)]) (st' := [.int x3, .int (gF d_4 3 6), .ref 8]) rfl ?_
      obtain ⟨hj_5, h⟩ := h
      refine st_iastC (o := 8) rfl rfl hj_5 rfl (fun d_6 hy_d_6 => ?_)
      have h := h d_6 hy_d_6
      refine st_go 5 (pc' := 44) (lo' := [(0, .ref 3), (1, .long x1), (3, .int x3)]) (st' := [.int ((gF d_6 3 6) + 1), .ref 3]) rfl ?_
      refine st_putIC (o := 3) (f := 6) rfl rfl rfl rfl rfl (fun d_7 hy_d_7 => ?_)
      have h := h d_7 hy_d_7
      exact st_retV rfl rfl (hQ _ h)
    · have h := Eq.mp (if_neg hc_2) h
      refine st_icmp (t := 47) (b := true) rfl (decide_eq_true (Int32.not_lt.mp hc_2)) rfl ?_
      exact st_retV rfl rfl (hQ _ h)
set_option maxRecDepth 100000 in
def Forger_tell (x1 : Int32) (x2 : Int32) (d : vmD) (Q : vmD → Prop) : Prop :=
  if (gF d 20 9) = 1 then
  (Tokens_value x1 d fun r_3 d_2 =>
  Names_tell r_3 x2 d_2 fun d_4 =>
  Q d_4)
  else
  (Q d)
set_option maxRecDepth 100000 in
set_option maxHeartbeats 4000000 in
theorem tForger_tell {L : Nat} {e : vmD} {Qo : Option Value → vmW → Prop} {Q : vmD → Prop} (hQ : ∀ d, Q d → Qo none (wC L d e)) (x1 : Int32) (x2 : Int32) (d : vmD) (h : Forger_tell x1 x2 d Q) : vmWp 38 0 [(0, .ref 20), (1, .int x1), (2, .int x2)] [] (wC L d e) Qo := by
  unfold Forger_tell at h
  refine st_go 3 (pc' := 5) (lo' := [(0, .ref 20), (1, .int x1), (2, .int x2)]) (st' := [.int 1, .int (gF d 20 9)]) rfl ?_
  by_cases hc_1 : (gF d 20 9) = 1
  · have h := Eq.mp (if_pos hc_1) h
    refine st_icmp (t := 8) (b := false) rfl (decide_eq_false (fun z => z hc_1)) rfl ?_
    refine st_go 5 (pc' := 17) (lo' := [(0, .ref 20), (1, .int x1), (2, .int x2)]) (st' := [.int x1, .ref 24, .ref 3]) rfl ?_
    refine st_calll (k' := 215) (as := [.ref 24, .int x1]) (rest := [.ref 3]) (lo' := [(0, .ref 24), (1, .int x1)]) (wf := fun d => wC L d e) rfl rfl rfl ?_
    refine tTokens_value (fun r_3 d_2 h => ⟨r_3, d_2, rfl, rfl, ?_⟩) x1 d h
    refine st_go 1 (pc' := 21) (lo' := [(0, .ref 20), (1, .int x1), (2, .int x2)]) (st' := [.int x2, .long r_3, .ref 3]) rfl ?_
    refine st_callv (k' := 142) (as := [.ref 3, .long r_3, .int x2]) (rest := []) (lo' := [(0, .ref 3), (1, .long r_3), (3, .int x2)]) (wf := fun d => wC L d e) rfl rfl rfl ?_
    refine tNames_tell (fun d_4 h => ⟨d_4, rfl, rfl, ?_⟩) r_3 x2 d_2 h
    exact st_retV rfl rfl (hQ _ h)
  · have h := Eq.mp (if_neg hc_1) h
    refine st_icmp (t := 24) (b := true) rfl (decide_eq_true hc_1) rfl ?_
    exact st_retV rfl rfl (hQ _ h)
set_option maxRecDepth 100000 in
def Forger_tellLabel (d : vmD) (Q : Int32 → vmD → Prop) : Prop :=
  Tokens_kind 0 d fun r_2 d_1 =>
  if r_2 = 2 then
  (Tokens_kind 1 d_1 fun r_5 d_4 =>
  if r_5 = 58 then
  (Forger_canTell 0 d_4 fun r_8 d_7 =>
  if r_8 = 0 then
  (Q (-1) d_7)
  else
  (Forger_tell 0 (gF d_7 20 11) d_7 fun d_10 =>
  Q 2 d_10))
  else
  (Q 0 d_4))
  else
  (Q 0 d_1)
set_option maxRecDepth 100000 in
set_option maxHeartbeats 4000000 in
theorem tForger_tellLabel {L : Nat} {e : vmD} {Qo : Option Value → vmW → Prop} {Q : Int32 → vmD → Prop} (hQ : ∀ r d, Q r d → Qo (some (.int r)) (wC L d e)) (d : vmD) (h : Forger_tellLabel d Q) : vmWp 35 0 [(0, .ref 20)] [] (wC L d e) Qo := by
  unfold Forger_tellLabel at h
  refine st_go 3 (pc' := 5) (lo' := [(0, .ref 20)]) (st' := [.int 0, .ref 24]) rfl ?_
  refine st_calli (k' := 213) (as := [.ref 24, .int 0]) (rest := []) (lo' := [(0, .ref 24), (1, .int 0)]) (wf := fun d => wC L d e) rfl rfl rfl ?_
  refine tTokens_kind (fun r_2 d_1 h => ⟨r_2, d_1, rfl, rfl, ?_⟩) 0 d h
  refine st_go 1 (pc' := 9) (lo' := [(0, .ref 20)]) (st' := [.int 2, .int r_2]) rfl ?_
  by_cases hc_3 : r_2 = 2
  · have h := Eq.mp (if_pos hc_3) h
    refine st_icmp (t := 12) (b := false) rfl (decide_eq_false (fun z => z hc_3)) rfl ?_
    refine st_go 3 (pc' := 17) (lo' := [(0, .ref 20)]) (st' := [.int 1, .ref 24]) rfl ?_
    refine st_calli (k' := 213) (as := [.ref 24, .int 1]) (rest := []) (lo' := [(0, .ref 24), (1, .int 1)]) (wf := fun d => wC L d e) rfl rfl rfl ?_
    refine tTokens_kind (fun r_5 d_4 h => ⟨r_5, d_4, rfl, rfl, ?_⟩) 1 d_1 h
    refine st_go 1 (pc' := 22) (lo' := [(0, .ref 20)]) (st' := [.int 58, .int r_5]) rfl ?_
    by_cases hc_6 : r_5 = 58
    · have h := Eq.mp (if_pos hc_6) h
      refine st_icmp (t := 27) (b := true) rfl (decide_eq_true hc_6) rfl ?_
      refine st_go 2 (pc' := 29) (lo' := [(0, .ref 20)]) (st' := [.int 0, .ref 20]) rfl ?_
      refine st_calli (k' := 37) (as := [.ref 20, .int 0]) (rest := []) (lo' := [(0, .ref 20), (1, .int 0)]) (wf := fun d => wC L d e) rfl rfl rfl ?_
      refine tForger_canTell (fun r_8 d_7 h => ⟨r_8, d_7, rfl, rfl, ?_⟩) 0 d_4 h
      by_cases hc_9 : r_8 = 0
      · have h := Eq.mp (if_pos hc_9) h
        refine st_if (t := 35) (b := false) rfl (decide_eq_false (fun z => z hc_9)) rfl ?_
        refine st_go 1 (pc' := 36) (lo' := [(0, .ref 20)]) (st' := [.int (-1)]) rfl ?_
        exact st_retI rfl rfl (hQ _ _ h)
      · have h := Eq.mp (if_neg hc_9) h
        refine st_if (t := 37) (b := true) rfl (decide_eq_true hc_9) rfl ?_
        refine st_go 4 (pc' := 43) (lo' := [(0, .ref 20)]) (st' := [.int (gF d_7 20 11), .int 0, .ref 20]) rfl ?_
        refine st_callv (k' := 38) (as := [.ref 20, .int 0, .int (gF d_7 20 11)]) (rest := []) (lo' := [(0, .ref 20), (1, .int 0), (2, .int (gF d_7 20 11))]) (wf := fun d => wC L d e) rfl rfl rfl ?_
        refine tForger_tell (fun d_10 h => ⟨d_10, rfl, rfl, ?_⟩) 0 (gF d_7 20 11) d_7 h
        refine st_go 1 (pc' := 47) (lo' := [(0, .ref 20)]) (st' := [.int 2]) rfl ?_
        exact st_retI rfl rfl (hQ _ _ h)
    · have h := Eq.mp (if_neg hc_6) h
      refine st_icmp (t := 25) (b := false) rfl (decide_eq_false hc_6) rfl ?_
      refine st_go 1 (pc' := 26) (lo' := [(0, .ref 20)]) (st' := [.int 0]) rfl ?_
      exact st_retI rfl rfl (hQ _ _ h)
  · have h := Eq.mp (if_neg hc_3) h
    refine st_icmp (t := 25) (b := true) rfl (decide_eq_true hc_3) rfl ?_
    refine st_go 1 (pc' := 26) (lo' := [(0, .ref 20)]) (st' := [.int 0]) rfl ?_
    exact st_retI rfl rfl (hQ _ _ h)
set_option maxRecDepth 100000 in
def Expression_begin (x1 : Int32) (d : vmD) (Q : vmD → Prop) : Prop :=
  bnd (sF d 28 6 0) fun d_1 =>
  bnd (sF d_1 28 7 0) fun d_2 =>
  bnd (sF d_2 28 8 0) fun d_3 =>
  bnd (sF d_3 28 9 0) fun d_4 =>
  bnd (sF d_4 28 10 x1) fun d_5 =>
  bnd (sF d_5 28 11 0) fun d_6 =>
  Q d_6
set_option maxRecDepth 100000 in
set_option maxHeartbeats 4000000 in
theorem tExpression_begin {L : Nat} {e : vmD} {Qo : Option Value → vmW → Prop} {Q : vmD → Prop} (hQ : ∀ d, Q d → Qo none (wC L d e)) (x1 : Int32) (d : vmD) (h : Expression_begin x1 d Q) : vmWp 10 0 [(0, .ref 28), (1, .int x1)] [] (wC L d e) Qo := by
  unfold Expression_begin at h
  refine st_go 2 (pc' := 2) (lo' := [(0, .ref 28), (1, .int x1)]) (st' := [.int 0, .ref 28]) rfl ?_
  refine st_putIC (o := 28) (f := 6) rfl rfl rfl rfl rfl (fun d_1 hy_d_1 => ?_)
  have h := h d_1 hy_d_1
  refine st_go 2 (pc' := 7) (lo' := [(0, .ref 28), (1, .int x1)]) (st' := [.int 0, .ref 28]) rfl ?_
  refine st_putIC (o := 28) (f := 7) rfl rfl rfl rfl rfl (fun d_2 hy_d_2 => ?_)
  have h := h d_2 hy_d_2
  refine st_go 2 (pc' := 12) (lo' := [(0, .ref 28), (1, .int x1)]) (st' := [.int 0, .ref 28]) rfl ?_
  refine st_putIC (o := 28) (f := 8) rfl rfl rfl rfl rfl (fun d_3 hy_d_3 => ?_)
  have h := h d_3 hy_d_3
  refine st_go 2 (pc' := 17) (lo' := [(0, .ref 28), (1, .int x1)]) (st' := [.int 0, .ref 28]) rfl ?_
  refine st_putIC (o := 28) (f := 9) rfl rfl rfl rfl rfl (fun d_4 hy_d_4 => ?_)
  have h := h d_4 hy_d_4
  refine st_go 2 (pc' := 22) (lo' := [(0, .ref 28), (1, .int x1)]) (st' := [.int x1, .ref 28]) rfl ?_
  refine st_putIC (o := 28) (f := 10) rfl rfl rfl rfl rfl (fun d_5 hy_d_5 => ?_)
  have h := h d_5 hy_d_5
  refine st_go 2 (pc' := 27) (lo' := [(0, .ref 28), (1, .int x1)]) (st' := [.int 0, .ref 28]) rfl ?_
  refine st_putIC (o := 28) (f := 11) rfl rfl rfl rfl rfl (fun d_6 hy_d_6 => ?_)
  have h := h d_6 hy_d_6
  exact st_retV rfl rfl (hQ _ h)
set_option maxRecDepth 100000 in
def Tokens_refuse_27 (s0 : Int32) (s1 : Int32) (s2 : Int32) (d : vmD) (Q : vmD → Prop) : Prop :=
  Faults_add s2 s1 s0 d fun d_6 =>
  Q d_6
set_option maxRecDepth 100000 in
set_option maxHeartbeats 4000000 in
theorem tTokens_refuse_27 {L : Nat} {e : vmD} {Qo : Option Value → vmW → Prop} {Q : vmD → Prop} (hQ : ∀ d, Q d → Qo none (wC L d e)) (s0 : Int32) (s1 : Int32) (s2 : Int32) (d : vmD) (h : Tokens_refuse_27 s0 s1 s2 d Q) : vmWp 220 27 [] [.int s0, .int s1, .int s2, .ref 21] (wC L d e) Qo := by
  unfold Tokens_refuse_27 at h
  refine st_callv (k' := 23) (as := [.ref 21, .int s2, .int s1, .int s0]) (rest := []) (lo' := [(0, .ref 21), (1, .int s2), (2, .int s1), (3, .int s0)]) (wf := fun d => wC L d e) rfl rfl rfl ?_
  refine tFaults_add (fun d_6 h => ⟨d_6, rfl, rfl, ?_⟩) s2 s1 s0 d h
  exact st_retV rfl rfl (hQ _ h)
set_option maxRecDepth 100000 in
def Tokens_refuse (x1 : Int32) (d : vmD) (Q : vmD → Prop) : Prop :=
  Tokens_place x1 d fun r_2 d_1 =>
  Tokens_kind x1 d_1 fun r_4 d_3 =>
  if r_4 = 1 then
  (Tokens_refuse_27 1 r_2 (gF d 24 6) d_3 Q)
  else
  (Tokens_refuse_27 2 r_2 (gF d 24 6) d_3 Q)
set_option maxRecDepth 100000 in
set_option maxHeartbeats 4000000 in
theorem tTokens_refuse {L : Nat} {e : vmD} {Qo : Option Value → vmW → Prop} {Q : vmD → Prop} (hQ : ∀ d, Q d → Qo none (wC L d e)) (x1 : Int32) (d : vmD) (h : Tokens_refuse x1 d Q) : vmWp 220 0 [(0, .ref 24), (1, .int x1)] [] (wC L d e) Qo := by
  unfold Tokens_refuse at h
  refine st_go 6 (pc' := 10) (lo' := [(0, .ref 24), (1, .int x1)]) (st' := [.int x1, .ref 24, .int (gF d 24 6), .ref 21]) rfl ?_
  refine st_calli (k' := 214) (as := [.ref 24, .int x1]) (rest := [.int (gF d 24 6), .ref 21]) (lo' := [(0, .ref 24), (1, .int x1)]) (wf := fun d => wC L d e) rfl rfl rfl ?_
  refine tTokens_place (fun r_2 d_1 h => ⟨r_2, d_1, rfl, rfl, ?_⟩) x1 d h
  refine st_go 2 (pc' := 15) (lo' := [(0, .ref 24), (1, .int x1)]) (st' := [.int x1, .ref 24, .int r_2, .int (gF d 24 6), .ref 21]) rfl ?_
  refine st_calli (k' := 213) (as := [.ref 24, .int x1]) (rest := [.int r_2, .int (gF d 24 6), .ref 21]) (lo' := [(0, .ref 24), (1, .int x1)]) (wf := fun d => wC L d e) rfl rfl rfl ?_
  refine tTokens_kind (fun r_4 d_3 h => ⟨r_4, d_3, rfl, rfl, ?_⟩) x1 d_1 h
  refine st_go 1 (pc' := 19) (lo' := [(0, .ref 24), (1, .int x1)]) (st' := [.int 1, .int r_4, .int r_2, .int (gF d 24 6), .ref 21]) rfl ?_
  by_cases hc_5 : r_4 = 1
  · have h := Eq.mp (if_pos hc_5) h
    refine st_icmp (t := 22) (b := false) rfl (decide_eq_false (fun z => z hc_5)) rfl ?_
    refine st_go 2 (pc' := 27) (lo' := [(0, .ref 24), (1, .int x1)]) (st' := [.int 1, .int r_2, .int (gF d 24 6), .ref 21]) rfl ?_
    refine vmWp.sub (lo' := []) trivial ?_
    exact tTokens_refuse_27 hQ 1 r_2 (gF d 24 6) d_3 h
  · have h := Eq.mp (if_neg hc_5) h
    refine st_icmp (t := 26) (b := true) rfl (decide_eq_true hc_5) rfl ?_
    refine st_go 1 (pc' := 27) (lo' := [(0, .ref 24), (1, .int x1)]) (st' := [.int 2, .int r_2, .int (gF d 24 6), .ref 21]) rfl ?_
    refine vmWp.sub (lo' := []) trivial ?_
    exact tTokens_refuse_27 hQ 2 r_2 (gF d 24 6) d_3 h
set_option maxRecDepth 100000 in
def Expression_levelOf (x0 : Int32) (d : vmD) (Q : Int32 → vmD → Prop) : Prop :=
  if x0 = 38 then
  (Q 3 d)
  else
  if x0 = 42 then
  (Q 6 d)
  else
  if x0 = 43 then
  (Q 5 d)
  else
  if x0 = 45 then
  (Q 5 d)
  else
  if x0 = 47 then
  (Q 6 d)
  else
  if x0 = 60 then
  (Q 4 d)
  else
  if x0 = 62 then
  (Q 4 d)
  else
  if x0 = 94 then
  (Q 2 d)
  else
  if x0 = 109 then
  (Q 7 d)
  else
  if x0 = 124 then
  (Q 1 d)
  else
  if x0 = 126 then
  (Q 7 d)
  else
  (Q 0 d)
set_option maxRecDepth 100000 in
set_option maxHeartbeats 4000000 in
theorem tExpression_levelOf {L : Nat} {e : vmD} {Qo : Option Value → vmW → Prop} {Q : Int32 → vmD → Prop} (hQ : ∀ r d, Q r d → Qo (some (.int r)) (wC L d e)) (x0 : Int32) (d : vmD) (h : Expression_levelOf x0 d Q) : vmWp 13 0 [(0, .int x0)] [] (wC L d e) Qo := by
  unfold Expression_levelOf at h
  refine st_go 1 (pc' := 1) (lo' := [(0, .int x0)]) (st' := [.int x0]) rfl ?_
  by_cases hc_1 : x0 = 38
  · have h := Eq.mp (if_pos hc_1) h
    refine st_look (t := 104) rfl (by rw [hc_1]; rfl) ?_
    refine st_go 1 (pc' := 105) (lo' := [(0, .int x0)]) (st' := [.int 3]) rfl ?_
    exact st_retI rfl rfl (hQ _ _ h)
  · have h := Eq.mp (if_neg hc_1) h
    by_cases hc_2 : x0 = 42
    · have h := Eq.mp (if_pos hc_2) h
      refine st_look (t := 110) rfl (by rw [hc_2]; rfl) ?_
      refine st_go 1 (pc' := 112) (lo' := [(0, .int x0)]) (st' := [.int 6]) rfl ?_
      exact st_retI rfl rfl (hQ _ _ h)
    · have h := Eq.mp (if_neg hc_2) h
      by_cases hc_3 : x0 = 43
      · have h := Eq.mp (if_pos hc_3) h
        refine st_look (t := 108) rfl (by rw [hc_3]; rfl) ?_
        refine st_go 1 (pc' := 109) (lo' := [(0, .int x0)]) (st' := [.int 5]) rfl ?_
        exact st_retI rfl rfl (hQ _ _ h)
      · have h := Eq.mp (if_neg hc_3) h
        by_cases hc_4 : x0 = 45
        · have h := Eq.mp (if_pos hc_4) h
          refine st_look (t := 108) rfl (by rw [hc_4]; rfl) ?_
          refine st_go 1 (pc' := 109) (lo' := [(0, .int x0)]) (st' := [.int 5]) rfl ?_
          exact st_retI rfl rfl (hQ _ _ h)
        · have h := Eq.mp (if_neg hc_4) h
          by_cases hc_5 : x0 = 47
          · have h := Eq.mp (if_pos hc_5) h
            refine st_look (t := 110) rfl (by rw [hc_5]; rfl) ?_
            refine st_go 1 (pc' := 112) (lo' := [(0, .int x0)]) (st' := [.int 6]) rfl ?_
            exact st_retI rfl rfl (hQ _ _ h)
          · have h := Eq.mp (if_neg hc_5) h
            by_cases hc_6 : x0 = 60
            · have h := Eq.mp (if_pos hc_6) h
              refine st_look (t := 106) rfl (by rw [hc_6]; rfl) ?_
              refine st_go 1 (pc' := 107) (lo' := [(0, .int x0)]) (st' := [.int 4]) rfl ?_
              exact st_retI rfl rfl (hQ _ _ h)
            · have h := Eq.mp (if_neg hc_6) h
              by_cases hc_7 : x0 = 62
              · have h := Eq.mp (if_pos hc_7) h
                refine st_look (t := 106) rfl (by rw [hc_7]; rfl) ?_
                refine st_go 1 (pc' := 107) (lo' := [(0, .int x0)]) (st' := [.int 4]) rfl ?_
                exact st_retI rfl rfl (hQ _ _ h)
              · have h := Eq.mp (if_neg hc_7) h
                by_cases hc_8 : x0 = 94
                · have h := Eq.mp (if_pos hc_8) h
                  refine st_look (t := 102) rfl (by rw [hc_8]; rfl) ?_
                  refine st_go 1 (pc' := 103) (lo' := [(0, .int x0)]) (st' := [.int 2]) rfl ?_
                  exact st_retI rfl rfl (hQ _ _ h)
                · have h := Eq.mp (if_neg hc_8) h
                  by_cases hc_9 : x0 = 109
                  · have h := Eq.mp (if_pos hc_9) h
                    refine st_look (t := 113) rfl (by rw [hc_9]; rfl) ?_
                    refine st_go 1 (pc' := 115) (lo' := [(0, .int x0)]) (st' := [.int 7]) rfl ?_
                    exact st_retI rfl rfl (hQ _ _ h)
                  · have h := Eq.mp (if_neg hc_9) h
                    by_cases hc_10 : x0 = 124
                    · have h := Eq.mp (if_pos hc_10) h
                      refine st_look (t := 100) rfl (by rw [hc_10]; rfl) ?_
                      refine st_go 1 (pc' := 101) (lo' := [(0, .int x0)]) (st' := [.int 1]) rfl ?_
                      exact st_retI rfl rfl (hQ _ _ h)
                    · have h := Eq.mp (if_neg hc_10) h
                      by_cases hc_11 : x0 = 126
                      · have h := Eq.mp (if_pos hc_11) h
                        refine st_look (t := 113) rfl (by rw [hc_11]; rfl) ?_
                        refine st_go 1 (pc' := 115) (lo' := [(0, .int x0)]) (st' := [.int 7]) rfl ?_
                        exact st_retI rfl rfl (hQ _ _ h)
                      · have h := Eq.mp (if_neg hc_11) h
                        refine st_look (t := 116) rfl (look_def (by
                          intro q hq hx
                          simp only [List.mem_cons, List.not_mem_nil, or_false] at hq
                          rcases hq with rfl | rfl | rfl | rfl | rfl | rfl | rfl | rfl | rfl | rfl | rfl <;> first | rfl | exact absurd (Int32.toInt_inj.mp hx.symm) hc_1 | exact absurd (Int32.toInt_inj.mp hx.symm) hc_2 | exact absurd (Int32.toInt_inj.mp hx.symm) hc_3 | exact absurd (Int32.toInt_inj.mp hx.symm) hc_4 | exact absurd (Int32.toInt_inj.mp hx.symm) hc_5 | exact absurd (Int32.toInt_inj.mp hx.symm) hc_6 | exact absurd (Int32.toInt_inj.mp hx.symm) hc_7 | exact absurd (Int32.toInt_inj.mp hx.symm) hc_8 | exact absurd (Int32.toInt_inj.mp hx.symm) hc_9 | exact absurd (Int32.toInt_inj.mp hx.symm) hc_10 | exact absurd (Int32.toInt_inj.mp hx.symm) hc_11) rfl) ?_
                        refine st_go 1 (pc' := 117) (lo' := [(0, .int x0)]) (st' := [.int 0]) rfl ?_
                        exact st_retI rfl rfl (hQ _ _ h)
set_option maxRecDepth 100000 in
def Expression_turn_63 (s0 : Int32) (s1 : Int32) (d : vmD) (Q : vmD → Prop) : Prop :=
  ixOk s1 320 ∧
  bnd (sA d 31 s1.toNatClampNeg s0) fun d_8 =>
  Q d_8
set_option maxRecDepth 100000 in
set_option maxHeartbeats 4000000 in
theorem tExpression_turn_63 {L : Nat} {e : vmD} {Qo : Option Value → vmW → Prop} {Q : vmD → Prop} (hQ : ∀ d, Q d → Qo none (wC L d e)) (s0 : Int32) (s1 : Int32) (d : vmD) (h : Expression_turn_63 s0 s1 d Q) : vmWp 19 63 [] [.int s0, .int s1, .ref 31] (wC L d e) Qo := by
  unfold Expression_turn_63 at h
  obtain ⟨hj_7, h⟩ := h
  refine st_iastC (o := 31) rfl rfl hj_7 rfl (fun d_8 hy_d_8 => ?_)
  have h := h d_8 hy_d_8
  exact st_retV rfl rfl (hQ _ h)
set_option maxRecDepth 100000 in
def Expression_turn (x1 : Int32) (d : vmD) (Q : vmD → Prop) : Prop :=
  bnd (sF d 28 8 ((gF d 28 8) - 1)) fun d_1 =>
  if (0 : Int32) < (gF d_1 28 7) then
  (if (320 : Int32) < (gF d_1 28 7) then
  (Q d_1)
  else
  (ixOk ((gF d_1 28 7) - 1) 320 ∧
  bnd (gA d_1 31 ((gF d_1 28 7) - 1).toNatClampNeg) fun y_5 =>
  if x1 = 126 then
  (Expression_turn_63 (y_5 ^^^ (-1)) ((gF d_1 28 7) - 1) d_1 Q)
  else
  (Expression_turn_63 (-y_5) ((gF d_1 28 7) - 1) d_1 Q)))
  else
  (Q d_1)
set_option maxRecDepth 100000 in
set_option maxHeartbeats 4000000 in
theorem tExpression_turn {L : Nat} {e : vmD} {Qo : Option Value → vmW → Prop} {Q : vmD → Prop} (hQ : ∀ d, Q d → Qo none (wC L d e)) (x1 : Int32) (d : vmD) (h : Expression_turn x1 d Q) : vmWp 19 0 [(0, .ref 28), (1, .int x1)] [] (wC L d e) Qo := by
  unfold Expression_turn at h
  refine st_go 5 (pc' := 7) (lo' := [(0, .ref 28), (1, .int x1)]) (st' := [.int ((gF d 28 8) - 1), .ref 28]) rfl ?_
  refine st_putIC (o := 28) (f := 8) rfl rfl rfl rfl rfl (fun d_1 hy_d_1 => ?_)
  have h := h d_1 hy_d_1
  refine st_go 2 (pc' := 14) (lo' := [(0, .ref 28), (1, .int x1)]) (st' := [.int (gF d_1 28 7)]) rfl ?_
  by_cases hc_2 : (0 : Int32) < (gF d_1 28 7)
  · have h := Eq.mp (if_pos hc_2) h
    refine st_if (t := 17) (b := false) rfl (decide_eq_false (Int32.not_le.mpr hc_2)) rfl ?_
    refine st_go 3 (pc' := 24) (lo' := [(0, .ref 28), (1, .int x1)]) (st' := [.int 320, .int (gF d_1 28 7)]) rfl ?_
    by_cases hc_3 : (320 : Int32) < (gF d_1 28 7)
    · have h := Eq.mp (if_pos hc_3) h
      refine st_icmp (t := 64) (b := true) rfl (decide_eq_true hc_3) rfl ?_
      exact st_retV rfl rfl (hQ _ h)
    · have h := Eq.mp (if_neg hc_3) h
      refine st_icmp (t := 27) (b := false) rfl (decide_eq_false hc_3) rfl ?_
      refine st_go 6 (pc' := 37) (lo' := [(0, .ref 28), (1, .int x1)]) (st' := [.int ((gF d_1 28 7) - 1), .ref 31]) rfl ?_
      obtain ⟨hj_4, h⟩ := h
      refine st_ialdC (o := 31) rfl rfl hj_4 rfl (fun y_5 hy_y_5 => ?_)
      have h := h y_5 hy_y_5
      refine st_go 9 (pc' := 52) (lo' := [(2, .int y_5), (0, .ref 28), (1, .int x1)]) (st' := [.int 126, .int x1, .int ((gF d_1 28 7) - 1), .ref 31]) rfl ?_
      by_cases hc_6 : x1 = 126
      · have h := Eq.mp (if_pos hc_6) h
        refine st_icmp (t := 55) (b := false) rfl (decide_eq_false (fun z => z hc_6)) rfl ?_
        refine st_go 4 (pc' := 63) (lo' := [(2, .int y_5), (0, .ref 28), (1, .int x1)]) (st' := [.int (y_5 ^^^ (-1)), .int ((gF d_1 28 7) - 1), .ref 31]) rfl ?_
        refine vmWp.sub (lo' := []) trivial ?_
        exact tExpression_turn_63 hQ (y_5 ^^^ (-1)) ((gF d_1 28 7) - 1) d_1 h
      · have h := Eq.mp (if_neg hc_6) h
        refine st_icmp (t := 61) (b := true) rfl (decide_eq_true hc_6) rfl ?_
        refine st_go 2 (pc' := 63) (lo' := [(2, .int y_5), (0, .ref 28), (1, .int x1)]) (st' := [.int (-y_5), .int ((gF d_1 28 7) - 1), .ref 31]) rfl ?_
        refine vmWp.sub (lo' := []) trivial ?_
        exact tExpression_turn_63 hQ (-y_5) ((gF d_1 28 7) - 1) d_1 h
  · have h := Eq.mp (if_neg hc_2) h
    refine st_if (t := 64) (b := true) rfl (decide_eq_true (Int32.not_lt.mp hc_2)) rfl ?_
    exact st_retV rfl rfl (hQ _ h)
set_option maxRecDepth 100000 in
def Expression_join_308 (x5 : Int32) (x6 : Int32) (d : vmD) (Q : vmD → Prop) : Prop :=
  ixOk ((gF d 28 7) - 1) 320 ∧
  bnd (sA d 31 ((gF d 28 7) - 1).toNatClampNeg x6) fun d_14 =>
  ixOk ((gF d_14 28 7) - 1) 320 ∧
  bnd (sA d_14 32 ((gF d_14 28 7) - 1).toNatClampNeg (x5 &&& 1)) fun d_16 =>
  Q d_16
set_option maxRecDepth 100000 in
set_option maxHeartbeats 4000000 in
theorem tExpression_join_308 {L : Nat} {e : vmD} {Qo : Option Value → vmW → Prop} {Q : vmD → Prop} (hQ : ∀ d, Q d → Qo none (wC L d e)) (x5 : Int32) (x6 : Int32) (d : vmD) (h : Expression_join_308 x5 x6 d Q) : vmWp 20 308 [(0, .ref 28), (5, .int x5), (6, .int x6)] [] (wC L d e) Qo := by
  unfold Expression_join_308 at h
  refine st_go 7 (pc' := 320) (lo' := [(0, .ref 28), (5, .int x5), (6, .int x6)]) (st' := [.int x6, .int ((gF d 28 7) - 1), .ref 31]) rfl ?_
  obtain ⟨hj_13, h⟩ := h
  refine st_iastC (o := 31) rfl rfl hj_13 rfl (fun d_14 hy_d_14 => ?_)
  have h := h d_14 hy_d_14
  refine st_go 7 (pc' := 333) (lo' := [(0, .ref 28), (5, .int x5), (6, .int x6)]) (st' := [.int x5, .int ((gF d_14 28 7) - 1), .ref 32]) rfl ?_
  obtain ⟨hj_15, h⟩ := h
  refine st_zastC (o := 32) rfl rfl rfl hj_15 rfl (fun d_16 hy_d_16 => ?_)
  have h := h d_16 hy_d_16
  exact st_retV rfl rfl (hQ _ h)
set_option maxRecDepth 100000 in
def Expression_join_272 (x2 : Int32) (x4 : Int32) (x5 : Int32) (s0 : Int32) (d : vmD) (Q : vmD → Prop) : Prop :=
  if x4 = 0 then
  (ixOk (gF d 28 7) 320 ∧
  bnd (gA d 32 (gF d 28 7).toNatClampNeg) fun y_35 =>
  if y_35 = 0 then
  (Expression_join_308 x5 s0 d Q)
  else
  (if (gF d 28 11) = 0 then
  (bnd (sF d 28 11 5) fun d_38 =>
  bnd (sF d_38 28 12 x2) fun d_39 =>
  Expression_join_308 x5 s0 d_39 Q)
  else
  (Expression_join_308 x5 s0 d Q)))
  else
  (Expression_join_308 x5 s0 d Q)
set_option maxRecDepth 100000 in
set_option maxHeartbeats 4000000 in
theorem tExpression_join_272 {L : Nat} {e : vmD} {Qo : Option Value → vmW → Prop} {Q : vmD → Prop} (hQ : ∀ d, Q d → Qo none (wC L d e)) (x2 : Int32) (x4 : Int32) (x5 : Int32) (s0 : Int32) (d : vmD) (h : Expression_join_272 x2 x4 x5 s0 d Q) : vmWp 20 272 [(0, .ref 28), (2, .int x2), (4, .int x4), (5, .int x5)] [.int s0] (wC L d e) Qo := by
  unfold Expression_join_272 at h
  refine st_go 2 (pc' := 276) (lo' := [(6, .int s0), (0, .ref 28), (2, .int x2), (4, .int x4), (5, .int x5)]) (st' := [.int x4]) rfl ?_
  by_cases hc_33 : x4 = 0
  · have h := Eq.mp (if_pos hc_33) h
    refine st_if (t := 279) (b := false) rfl (decide_eq_false (fun z => z hc_33)) rfl ?_
    refine st_go 4 (pc' := 287) (lo' := [(6, .int s0), (0, .ref 28), (2, .int x2), (4, .int x4), (5, .int x5)]) (st' := [.int (gF d 28 7), .ref 32]) rfl ?_
    obtain ⟨hj_34, h⟩ := h
    refine st_zaldC (o := 32) rfl rfl hj_34 rfl (fun y_35 hy_y_35 => ?_)
    have h := h y_35 hy_y_35
    by_cases hc_36 : y_35 = 0
    · have h := Eq.mp (if_pos hc_36) h
      refine st_if (t := 308) (b := true) rfl (decide_eq_true hc_36) rfl ?_
      refine vmWp.sub (lo' := [(0, .ref 28), (5, .int x5), (6, .int s0)]) ⟨rfl, rfl, rfl, trivial⟩ ?_
      exact tExpression_join_308 hQ x5 s0 d h
    · have h := Eq.mp (if_neg hc_36) h
      refine st_if (t := 291) (b := false) rfl (decide_eq_false hc_36) rfl ?_
      refine st_go 2 (pc' := 295) (lo' := [(6, .int s0), (0, .ref 28), (2, .int x2), (4, .int x4), (5, .int x5)]) (st' := [.int (gF d 28 11)]) rfl ?_
      by_cases hc_37 : (gF d 28 11) = 0
      · have h := Eq.mp (if_pos hc_37) h
        refine st_if (t := 298) (b := false) rfl (decide_eq_false (fun z => z hc_37)) rfl ?_
        refine st_go 2 (pc' := 300) (lo' := [(6, .int s0), (0, .ref 28), (2, .int x2), (4, .int x4), (5, .int x5)]) (st' := [.int 5, .ref 28]) rfl ?_
        refine st_putIC (o := 28) (f := 11) rfl rfl rfl rfl rfl (fun d_38 hy_d_38 => ?_)
        have h := h d_38 hy_d_38
        refine st_go 2 (pc' := 305) (lo' := [(6, .int s0), (0, .ref 28), (2, .int x2), (4, .int x4), (5, .int x5)]) (st' := [.int x2, .ref 28]) rfl ?_
        refine st_putIC (o := 28) (f := 12) rfl rfl rfl rfl rfl (fun d_39 hy_d_39 => ?_)
        have h := h d_39 hy_d_39
        refine vmWp.sub (lo' := [(0, .ref 28), (5, .int x5), (6, .int s0)]) ⟨rfl, rfl, rfl, trivial⟩ ?_
        exact tExpression_join_308 hQ x5 s0 d_39 h
      · have h := Eq.mp (if_neg hc_37) h
        refine st_if (t := 308) (b := true) rfl (decide_eq_true hc_37) rfl ?_
        refine vmWp.sub (lo' := [(0, .ref 28), (5, .int x5), (6, .int s0)]) ⟨rfl, rfl, rfl, trivial⟩ ?_
        exact tExpression_join_308 hQ x5 s0 d h
  · have h := Eq.mp (if_neg hc_33) h
    refine st_if (t := 308) (b := true) rfl (decide_eq_true hc_33) rfl ?_
    refine vmWp.sub (lo' := [(0, .ref 28), (5, .int x5), (6, .int s0)]) ⟨rfl, rfl, rfl, trivial⟩ ?_
    exact tExpression_join_308 hQ x5 s0 d h
set_option maxRecDepth 100000 in
def Expression_join_257 (x2 : Int32) (x3 : Int32) (x4 : Int32) (s0 : Int32) (d : vmD) (Q : vmD → Prop) : Prop :=
  if x4 = 0 then
  (Expression_join_272 x2 x4 s0 0 d Q)
  else
  (¬ x4 = 0 ∧
  Expression_join_272 x2 x4 s0 (x3 / x4) d Q)
set_option maxRecDepth 100000 in
set_option maxHeartbeats 4000000 in
theorem tExpression_join_257 {L : Nat} {e : vmD} {Qo : Option Value → vmW → Prop} {Q : vmD → Prop} (hQ : ∀ d, Q d → Qo none (wC L d e)) (x2 : Int32) (x3 : Int32) (x4 : Int32) (s0 : Int32) (d : vmD) (h : Expression_join_257 x2 x3 x4 s0 d Q) : vmWp 20 257 [(0, .ref 28), (2, .int x2), (3, .int x3), (4, .int x4)] [.int s0] (wC L d e) Qo := by
  unfold Expression_join_257 at h
  refine st_go 2 (pc' := 261) (lo' := [(5, .int s0), (0, .ref 28), (2, .int x2), (3, .int x3), (4, .int x4)]) (st' := [.int x4]) rfl ?_
  by_cases hc_32 : x4 = 0
  · have h := Eq.mp (if_pos hc_32) h
    refine st_if (t := 264) (b := false) rfl (decide_eq_false (fun z => z hc_32)) rfl ?_
    refine st_go 2 (pc' := 272) (lo' := [(5, .int s0), (0, .ref 28), (2, .int x2), (3, .int x3), (4, .int x4)]) (st' := [.int 0]) rfl ?_
    refine vmWp.sub (lo' := [(0, .ref 28), (2, .int x2), (4, .int x4), (5, .int s0)]) ⟨rfl, rfl, rfl, rfl, trivial⟩ ?_
    exact tExpression_join_272 hQ x2 x4 s0 0 d h
  · have h := Eq.mp (if_neg hc_32) h
    refine st_if (t := 268) (b := true) rfl (decide_eq_true hc_32) rfl ?_
    refine st_go 2 (pc' := 271) (lo' := [(5, .int s0), (0, .ref 28), (2, .int x2), (3, .int x3), (4, .int x4)]) (st' := [.int x4, .int x3]) rfl ?_
    obtain ⟨hz_40, h⟩ := h
    refine st_idiv rfl hz_40 ?_
    refine vmWp.sub (lo' := [(0, .ref 28), (2, .int x2), (4, .int x4), (5, .int s0)]) ⟨rfl, rfl, rfl, rfl, trivial⟩ ?_
    exact tExpression_join_272 hQ x2 x4 s0 (x3 / x4) d h
set_option maxRecDepth 100000 in
def Expression_join_256 (x2 : Int32) (x3 : Int32) (x4 : Int32) (d : vmD) (Q : vmD → Prop) : Prop :=
  Expression_join_257 x2 x3 x4 0 d Q
set_option maxRecDepth 100000 in
set_option maxHeartbeats 4000000 in
theorem tExpression_join_256 {L : Nat} {e : vmD} {Qo : Option Value → vmW → Prop} {Q : vmD → Prop} (hQ : ∀ d, Q d → Qo none (wC L d e)) (x2 : Int32) (x3 : Int32) (x4 : Int32) (d : vmD) (h : Expression_join_256 x2 x3 x4 d Q) : vmWp 20 256 [(0, .ref 28), (2, .int x2), (3, .int x3), (4, .int x4)] [] (wC L d e) Qo := by
  unfold Expression_join_256 at h
  refine st_go 1 (pc' := 257) (lo' := [(0, .ref 28), (2, .int x2), (3, .int x3), (4, .int x4)]) (st' := [.int 0]) rfl ?_
  refine vmWp.sub (lo' := [(0, .ref 28), (2, .int x2), (3, .int x3), (4, .int x4)]) ⟨rfl, rfl, rfl, rfl, trivial⟩ ?_
  exact tExpression_join_257 hQ x2 x3 x4 0 d h
set_option maxRecDepth 100000 in
def Expression_join_83 (x1 : Int32) (x2 : Int32) (x3 : Int32) (x4 : Int32) (s0 : Int32) (d : vmD) (Q : vmD → Prop) : Prop :=
  if x1 = 38 then
  (bnd (x3 &&& x4) fun x6_12 =>
  Expression_join_308 s0 x6_12 d Q)
  else
  if x1 = 42 then
  (bnd (x3 * x4) fun x6_18 =>
  Expression_join_308 s0 x6_18 d Q)
  else
  if x1 = 43 then
  (bnd (x3 + x4) fun x6_20 =>
  Expression_join_308 s0 x6_20 d Q)
  else
  if x1 = 45 then
  (bnd (x3 - x4) fun x6_22 =>
  Expression_join_308 s0 x6_22 d Q)
  else
  if x1 = 60 then
  (bnd (x3 <<< ((x4 &&& 31) &&& 31)) fun x6_24 =>
  Expression_join_308 s0 x6_24 d Q)
  else
  if x1 = 62 then
  (bnd (x3 >>> ((x4 &&& 31) &&& 31)) fun x6_26 =>
  Expression_join_308 s0 x6_26 d Q)
  else
  if x1 = 94 then
  (bnd (x3 ^^^ x4) fun x6_28 =>
  Expression_join_308 s0 x6_28 d Q)
  else
  if x1 = 124 then
  (bnd (x3 ||| x4) fun x6_30 =>
  Expression_join_308 s0 x6_30 d Q)
  else
  (if s0 = 0 then
  (Expression_join_256 x2 x3 x4 d Q)
  else
  (if x4 = 0 then
  (Expression_join_256 x2 x3 x4 d Q)
  else
  (Expression_join_257 x2 x3 x4 1 d Q)))
set_option maxRecDepth 100000 in
set_option maxHeartbeats 4000000 in
theorem tExpression_join_83 {L : Nat} {e : vmD} {Qo : Option Value → vmW → Prop} {Q : vmD → Prop} (hQ : ∀ d, Q d → Qo none (wC L d e)) (x1 : Int32) (x2 : Int32) (x3 : Int32) (x4 : Int32) (s0 : Int32) (d : vmD) (h : Expression_join_83 x1 x2 x3 x4 s0 d Q) : vmWp 20 83 [(0, .ref 28), (1, .int x1), (2, .int x2), (3, .int x3), (4, .int x4)] [.int s0] (wC L d e) Qo := by
  unfold Expression_join_83 at h
  refine st_go 4 (pc' := 89) (lo' := [(6, .int 0), (5, .int s0), (0, .ref 28), (1, .int x1), (2, .int x2), (3, .int x3), (4, .int x4)]) (st' := [.int x1]) rfl ?_
  by_cases hc_11 : x1 = 38
  · have h := Eq.mp (if_pos hc_11) h
    refine st_look (t := 182) rfl (by rw [hc_11]; rfl) ?_
    refine st_go 4 (pc' := 188) (lo' := [(6, .int (x3 &&& x4)), (5, .int s0), (0, .ref 28), (1, .int x1), (2, .int x2), (3, .int x3), (4, .int x4)]) (st' := []) rfl ?_
    refine st_locI (fun x6_12 hy_x6_12 => ?_)
    have h := h x6_12 hy_x6_12
    refine st_go 1 (pc' := 308) (lo' := [(6, .int x6_12), (5, .int s0), (0, .ref 28), (1, .int x1), (2, .int x2), (3, .int x3), (4, .int x4)]) (st' := []) rfl ?_
    refine vmWp.sub (lo' := [(0, .ref 28), (5, .int s0), (6, .int x6_12)]) ⟨rfl, rfl, rfl, trivial⟩ ?_
    exact tExpression_join_308 hQ s0 x6_12 d h
  · have h := Eq.mp (if_neg hc_11) h
    by_cases hc_17 : x1 = 42
    · have h := Eq.mp (if_pos hc_17) h
      refine st_look (t := 233) rfl (by rw [hc_17]; rfl) ?_
      refine st_go 4 (pc' := 239) (lo' := [(6, .int (x3 * x4)), (5, .int s0), (0, .ref 28), (1, .int x1), (2, .int x2), (3, .int x3), (4, .int x4)]) (st' := []) rfl ?_
      refine st_locI (fun x6_18 hy_x6_18 => ?_)
      have h := h x6_18 hy_x6_18
      refine st_go 1 (pc' := 308) (lo' := [(6, .int x6_18), (5, .int s0), (0, .ref 28), (1, .int x1), (2, .int x2), (3, .int x3), (4, .int x4)]) (st' := []) rfl ?_
      refine vmWp.sub (lo' := [(0, .ref 28), (5, .int s0), (6, .int x6_18)]) ⟨rfl, rfl, rfl, trivial⟩ ?_
      exact tExpression_join_308 hQ s0 x6_18 d h
    · have h := Eq.mp (if_neg hc_17) h
      by_cases hc_19 : x1 = 43
      · have h := Eq.mp (if_pos hc_19) h
        refine st_look (t := 215) rfl (by rw [hc_19]; rfl) ?_
        refine st_go 4 (pc' := 221) (lo' := [(6, .int (x3 + x4)), (5, .int s0), (0, .ref 28), (1, .int x1), (2, .int x2), (3, .int x3), (4, .int x4)]) (st' := []) rfl ?_
        refine st_locI (fun x6_20 hy_x6_20 => ?_)
        have h := h x6_20 hy_x6_20
        refine st_go 1 (pc' := 308) (lo' := [(6, .int x6_20), (5, .int s0), (0, .ref 28), (1, .int x1), (2, .int x2), (3, .int x3), (4, .int x4)]) (st' := []) rfl ?_
        refine vmWp.sub (lo' := [(0, .ref 28), (5, .int s0), (6, .int x6_20)]) ⟨rfl, rfl, rfl, trivial⟩ ?_
        exact tExpression_join_308 hQ s0 x6_20 d h
      · have h := Eq.mp (if_neg hc_19) h
        by_cases hc_21 : x1 = 45
        · have h := Eq.mp (if_pos hc_21) h
          refine st_look (t := 224) rfl (by rw [hc_21]; rfl) ?_
          refine st_go 4 (pc' := 230) (lo' := [(6, .int (x3 - x4)), (5, .int s0), (0, .ref 28), (1, .int x1), (2, .int x2), (3, .int x3), (4, .int x4)]) (st' := []) rfl ?_
          refine st_locI (fun x6_22 hy_x6_22 => ?_)
          have h := h x6_22 hy_x6_22
          refine st_go 1 (pc' := 308) (lo' := [(6, .int x6_22), (5, .int s0), (0, .ref 28), (1, .int x1), (2, .int x2), (3, .int x3), (4, .int x4)]) (st' := []) rfl ?_
          refine vmWp.sub (lo' := [(0, .ref 28), (5, .int s0), (6, .int x6_22)]) ⟨rfl, rfl, rfl, trivial⟩ ?_
          exact tExpression_join_308 hQ s0 x6_22 d h
        · have h := Eq.mp (if_neg hc_21) h
          by_cases hc_23 : x1 = 60
          · have h := Eq.mp (if_pos hc_23) h
            refine st_look (t := 191) rfl (by rw [hc_23]; rfl) ?_
            refine st_go 6 (pc' := 200) (lo' := [(6, .int (x3 <<< ((x4 &&& 31) &&& 31))), (5, .int s0), (0, .ref 28), (1, .int x1), (2, .int x2), (3, .int x3), (4, .int x4)]) (st' := []) rfl ?_
            refine st_locI (fun x6_24 hy_x6_24 => ?_)
            have h := h x6_24 hy_x6_24
            refine st_go 1 (pc' := 308) (lo' := [(6, .int x6_24), (5, .int s0), (0, .ref 28), (1, .int x1), (2, .int x2), (3, .int x3), (4, .int x4)]) (st' := []) rfl ?_
            refine vmWp.sub (lo' := [(0, .ref 28), (5, .int s0), (6, .int x6_24)]) ⟨rfl, rfl, rfl, trivial⟩ ?_
            exact tExpression_join_308 hQ s0 x6_24 d h
          · have h := Eq.mp (if_neg hc_23) h
            by_cases hc_25 : x1 = 62
            · have h := Eq.mp (if_pos hc_25) h
              refine st_look (t := 203) rfl (by rw [hc_25]; rfl) ?_
              refine st_go 6 (pc' := 212) (lo' := [(6, .int (x3 >>> ((x4 &&& 31) &&& 31))), (5, .int s0), (0, .ref 28), (1, .int x1), (2, .int x2), (3, .int x3), (4, .int x4)]) (st' := []) rfl ?_
              refine st_locI (fun x6_26 hy_x6_26 => ?_)
              have h := h x6_26 hy_x6_26
              refine st_go 1 (pc' := 308) (lo' := [(6, .int x6_26), (5, .int s0), (0, .ref 28), (1, .int x1), (2, .int x2), (3, .int x3), (4, .int x4)]) (st' := []) rfl ?_
              refine vmWp.sub (lo' := [(0, .ref 28), (5, .int s0), (6, .int x6_26)]) ⟨rfl, rfl, rfl, trivial⟩ ?_
              exact tExpression_join_308 hQ s0 x6_26 d h
            · have h := Eq.mp (if_neg hc_25) h
              by_cases hc_27 : x1 = 94
              · have h := Eq.mp (if_pos hc_27) h
                refine st_look (t := 173) rfl (by rw [hc_27]; rfl) ?_
                refine st_go 4 (pc' := 179) (lo' := [(6, .int (x3 ^^^ x4)), (5, .int s0), (0, .ref 28), (1, .int x1), (2, .int x2), (3, .int x3), (4, .int x4)]) (st' := []) rfl ?_
                refine st_locI (fun x6_28 hy_x6_28 => ?_)
                have h := h x6_28 hy_x6_28
                refine st_go 1 (pc' := 308) (lo' := [(6, .int x6_28), (5, .int s0), (0, .ref 28), (1, .int x1), (2, .int x2), (3, .int x3), (4, .int x4)]) (st' := []) rfl ?_
                refine vmWp.sub (lo' := [(0, .ref 28), (5, .int s0), (6, .int x6_28)]) ⟨rfl, rfl, rfl, trivial⟩ ?_
                exact tExpression_join_308 hQ s0 x6_28 d h
              · have h := Eq.mp (if_neg hc_27) h
                by_cases hc_29 : x1 = 124
                · have h := Eq.mp (if_pos hc_29) h
                  refine st_look (t := 164) rfl (by rw [hc_29]; rfl) ?_
                  refine st_go 4 (pc' := 170) (lo' := [(6, .int (x3 ||| x4)), (5, .int s0), (0, .ref 28), (1, .int x1), (2, .int x2), (3, .int x3), (4, .int x4)]) (st' := []) rfl ?_
                  refine st_locI (fun x6_30 hy_x6_30 => ?_)
                  have h := h x6_30 hy_x6_30
                  refine st_go 1 (pc' := 308) (lo' := [(6, .int x6_30), (5, .int s0), (0, .ref 28), (1, .int x1), (2, .int x2), (3, .int x3), (4, .int x4)]) (st' := []) rfl ?_
                  refine vmWp.sub (lo' := [(0, .ref 28), (5, .int s0), (6, .int x6_30)]) ⟨rfl, rfl, rfl, trivial⟩ ?_
                  exact tExpression_join_308 hQ s0 x6_30 d h
                · have h := Eq.mp (if_neg hc_29) h
                  refine st_look (t := 242) rfl (look_def (by
                    intro q hq hx
                    simp only [List.mem_cons, List.not_mem_nil, or_false] at hq
                    rcases hq with rfl | rfl | rfl | rfl | rfl | rfl | rfl | rfl <;> first | rfl | exact absurd (Int32.toInt_inj.mp hx.symm) hc_11 | exact absurd (Int32.toInt_inj.mp hx.symm) hc_17 | exact absurd (Int32.toInt_inj.mp hx.symm) hc_19 | exact absurd (Int32.toInt_inj.mp hx.symm) hc_21 | exact absurd (Int32.toInt_inj.mp hx.symm) hc_23 | exact absurd (Int32.toInt_inj.mp hx.symm) hc_25 | exact absurd (Int32.toInt_inj.mp hx.symm) hc_27 | exact absurd (Int32.toInt_inj.mp hx.symm) hc_29) rfl) ?_
                  refine st_go 1 (pc' := 244) (lo' := [(6, .int 0), (5, .int s0), (0, .ref 28), (1, .int x1), (2, .int x2), (3, .int x3), (4, .int x4)]) (st' := [.int s0]) rfl ?_
                  by_cases hc_31 : s0 = 0
                  · have h := Eq.mp (if_pos hc_31) h
                    refine st_if (t := 256) (b := true) rfl (decide_eq_true hc_31) rfl ?_
                    refine vmWp.sub (lo' := [(0, .ref 28), (2, .int x2), (3, .int x3), (4, .int x4)]) ⟨rfl, rfl, rfl, rfl, trivial⟩ ?_
                    exact tExpression_join_256 hQ x2 x3 x4 d h
                  · have h := Eq.mp (if_neg hc_31) h
                    refine st_if (t := 247) (b := false) rfl (decide_eq_false hc_31) rfl ?_
                    refine st_go 1 (pc' := 249) (lo' := [(6, .int 0), (5, .int s0), (0, .ref 28), (1, .int x1), (2, .int x2), (3, .int x3), (4, .int x4)]) (st' := [.int x4]) rfl ?_
                    by_cases hc_41 : x4 = 0
                    · have h := Eq.mp (if_pos hc_41) h
                      refine st_if (t := 256) (b := true) rfl (decide_eq_true hc_41) rfl ?_
                      refine vmWp.sub (lo' := [(0, .ref 28), (2, .int x2), (3, .int x3), (4, .int x4)]) ⟨rfl, rfl, rfl, rfl, trivial⟩ ?_
                      exact tExpression_join_256 hQ x2 x3 x4 d h
                    · have h := Eq.mp (if_neg hc_41) h
                      refine st_if (t := 252) (b := false) rfl (decide_eq_false hc_41) rfl ?_
                      refine st_go 2 (pc' := 257) (lo' := [(6, .int 0), (5, .int s0), (0, .ref 28), (1, .int x1), (2, .int x2), (3, .int x3), (4, .int x4)]) (st' := [.int 1]) rfl ?_
                      refine vmWp.sub (lo' := [(0, .ref 28), (2, .int x2), (3, .int x3), (4, .int x4)]) ⟨rfl, rfl, rfl, rfl, trivial⟩ ?_
                      exact tExpression_join_257 hQ x2 x3 x4 1 d h
set_option maxRecDepth 100000 in
def Expression_join_82 (x1 : Int32) (x2 : Int32) (x3 : Int32) (x4 : Int32) (d : vmD) (Q : vmD → Prop) : Prop :=
  Expression_join_83 x1 x2 x3 x4 0 d Q
set_option maxRecDepth 100000 in
set_option maxHeartbeats 4000000 in
theorem tExpression_join_82 {L : Nat} {e : vmD} {Qo : Option Value → vmW → Prop} {Q : vmD → Prop} (hQ : ∀ d, Q d → Qo none (wC L d e)) (x1 : Int32) (x2 : Int32) (x3 : Int32) (x4 : Int32) (d : vmD) (h : Expression_join_82 x1 x2 x3 x4 d Q) : vmWp 20 82 [(0, .ref 28), (1, .int x1), (2, .int x2), (3, .int x3), (4, .int x4)] [] (wC L d e) Qo := by
  unfold Expression_join_82 at h
  refine st_go 1 (pc' := 83) (lo' := [(0, .ref 28), (1, .int x1), (2, .int x2), (3, .int x3), (4, .int x4)]) (st' := [.int 0]) rfl ?_
  refine vmWp.sub (lo' := [(0, .ref 28), (1, .int x1), (2, .int x2), (3, .int x3), (4, .int x4)]) ⟨rfl, rfl, rfl, rfl, rfl, trivial⟩ ?_
  exact tExpression_join_83 hQ x1 x2 x3 x4 0 d h
set_option maxRecDepth 100000 in
def Expression_join (x1 : Int32) (x2 : Int32) (d : vmD) (Q : vmD → Prop) : Prop :=
  if (gF d 28 7) < 2 then
  (Q d)
  else
  (if (320 : Int32) < (gF d 28 7) then
  (Q d)
  else
  (bnd (sF d 28 7 ((gF d 28 7) - 1)) fun d_3 =>
  ixOk ((gF d_3 28 7) - 1) 320 ∧
  bnd (gA d_3 31 ((gF d_3 28 7) - 1).toNatClampNeg) fun y_5 =>
  ixOk (gF d_3 28 7) 320 ∧
  bnd (gA d_3 31 (gF d_3 28 7).toNatClampNeg) fun y_7 =>
  ixOk ((gF d_3 28 7) - 1) 320 ∧
  bnd (gA d_3 32 ((gF d_3 28 7) - 1).toNatClampNeg) fun y_9 =>
  if y_9 = 0 then
  (Expression_join_82 x1 x2 y_5 y_7 d_3 Q)
  else
  (ixOk (gF d_3 28 7) 320 ∧
  bnd (gA d_3 32 (gF d_3 28 7).toNatClampNeg) fun y_43 =>
  if y_43 = 0 then
  (Expression_join_82 x1 x2 y_5 y_7 d_3 Q)
  else
  (Expression_join_83 x1 x2 y_5 y_7 1 d_3 Q))))
set_option maxRecDepth 100000 in
set_option maxHeartbeats 4000000 in
theorem tExpression_join {L : Nat} {e : vmD} {Qo : Option Value → vmW → Prop} {Q : vmD → Prop} (hQ : ∀ d, Q d → Qo none (wC L d e)) (x1 : Int32) (x2 : Int32) (d : vmD) (h : Expression_join x1 x2 d Q) : vmWp 20 0 [(0, .ref 28), (1, .int x1), (2, .int x2)] [] (wC L d e) Qo := by
  unfold Expression_join at h
  refine st_go 3 (pc' := 5) (lo' := [(0, .ref 28), (1, .int x1), (2, .int x2)]) (st' := [.int 2, .int (gF d 28 7)]) rfl ?_
  by_cases hc_1 : (gF d 28 7) < 2
  · have h := Eq.mp (if_pos hc_1) h
    refine st_icmp (t := 18) (b := true) rfl (decide_eq_true hc_1) rfl ?_
    exact st_retV rfl rfl (hQ _ h)
  · have h := Eq.mp (if_neg hc_1) h
    refine st_icmp (t := 8) (b := false) rfl (decide_eq_false hc_1) rfl ?_
    refine st_go 3 (pc' := 15) (lo' := [(0, .ref 28), (1, .int x1), (2, .int x2)]) (st' := [.int 320, .int (gF d 28 7)]) rfl ?_
    by_cases hc_2 : (320 : Int32) < (gF d 28 7)
    · have h := Eq.mp (if_pos hc_2) h
      refine st_icmp (t := 18) (b := false) rfl (decide_eq_false (Int32.not_le.mpr hc_2)) rfl ?_
      exact st_retV rfl rfl (hQ _ h)
    · have h := Eq.mp (if_neg hc_2) h
      refine st_icmp (t := 19) (b := true) rfl (decide_eq_true (Int32.not_lt.mp hc_2)) rfl ?_
      refine st_go 5 (pc' := 26) (lo' := [(0, .ref 28), (1, .int x1), (2, .int x2)]) (st' := [.int ((gF d 28 7) - 1), .ref 28]) rfl ?_
      refine st_putIC (o := 28) (f := 7) rfl rfl rfl rfl rfl (fun d_3 hy_d_3 => ?_)
      have h := h d_3 hy_d_3
      refine st_go 6 (pc' := 39) (lo' := [(0, .ref 28), (1, .int x1), (2, .int x2)]) (st' := [.int ((gF d_3 28 7) - 1), .ref 31]) rfl ?_
      obtain ⟨hj_4, h⟩ := h
      refine st_ialdC (o := 31) rfl rfl hj_4 rfl (fun y_5 hy_y_5 => ?_)
      have h := h y_5 hy_y_5
      refine st_go 5 (pc' := 49) (lo' := [(3, .int y_5), (0, .ref 28), (1, .int x1), (2, .int x2)]) (st' := [.int (gF d_3 28 7), .ref 31]) rfl ?_
      obtain ⟨hj_6, h⟩ := h
      refine st_ialdC (o := 31) rfl rfl hj_6 rfl (fun y_7 hy_y_7 => ?_)
      have h := h y_7 hy_y_7
      refine st_go 7 (pc' := 62) (lo' := [(4, .int y_7), (3, .int y_5), (0, .ref 28), (1, .int x1), (2, .int x2)]) (st' := [.int ((gF d_3 28 7) - 1), .ref 32]) rfl ?_
      obtain ⟨hj_8, h⟩ := h
      refine st_zaldC (o := 32) rfl rfl hj_8 rfl (fun y_9 hy_y_9 => ?_)
      have h := h y_9 hy_y_9
      by_cases hc_10 : y_9 = 0
      · have h := Eq.mp (if_pos hc_10) h
        refine st_if (t := 82) (b := true) rfl (decide_eq_true hc_10) rfl ?_
        refine vmWp.sub (lo' := [(0, .ref 28), (1, .int x1), (2, .int x2), (3, .int y_5), (4, .int y_7)]) ⟨rfl, rfl, rfl, rfl, rfl, trivial⟩ ?_
        exact tExpression_join_82 hQ x1 x2 y_5 y_7 d_3 h
      · have h := Eq.mp (if_neg hc_10) h
        refine st_if (t := 66) (b := false) rfl (decide_eq_false hc_10) rfl ?_
        refine st_go 4 (pc' := 74) (lo' := [(4, .int y_7), (3, .int y_5), (0, .ref 28), (1, .int x1), (2, .int x2)]) (st' := [.int (gF d_3 28 7), .ref 32]) rfl ?_
        obtain ⟨hj_42, h⟩ := h
        refine st_zaldC (o := 32) rfl rfl hj_42 rfl (fun y_43 hy_y_43 => ?_)
        have h := h y_43 hy_y_43
        by_cases hc_44 : y_43 = 0
        · have h := Eq.mp (if_pos hc_44) h
          refine st_if (t := 82) (b := true) rfl (decide_eq_true hc_44) rfl ?_
          refine vmWp.sub (lo' := [(0, .ref 28), (1, .int x1), (2, .int x2), (3, .int y_5), (4, .int y_7)]) ⟨rfl, rfl, rfl, rfl, rfl, trivial⟩ ?_
          exact tExpression_join_82 hQ x1 x2 y_5 y_7 d_3 h
        · have h := Eq.mp (if_neg hc_44) h
          refine st_if (t := 78) (b := false) rfl (decide_eq_false hc_44) rfl ?_
          refine st_go 2 (pc' := 83) (lo' := [(4, .int y_7), (3, .int y_5), (0, .ref 28), (1, .int x1), (2, .int x2)]) (st' := [.int 1]) rfl ?_
          refine vmWp.sub (lo' := [(0, .ref 28), (1, .int x1), (2, .int x2), (3, .int y_5), (4, .int y_7)]) ⟨rfl, rfl, rfl, rfl, rfl, trivial⟩ ?_
          exact tExpression_join_83 hQ x1 x2 y_5 y_7 1 d_3 h
set_option maxRecDepth 100000 in
def Expression_settle_89 (b0 : Int32 → vmD → Prop) (x1 : Int32) (d : vmD) (Q : vmD → Prop) : Prop :=
  b0 x1 d
set_option maxRecDepth 100000 in
set_option maxHeartbeats 4000000 in
theorem tExpression_settle_89 {L : Nat} {e : vmD} {Qo : Option Value → vmW → Prop} {b0 : Int32 → vmD → Prop} {Q : vmD → Prop} (hb0 : ∀ x1 d, b0 x1 d → vmWp 18 0 [(0, .ref 28), (1, .int x1)] [] (wC L d e) Qo) (hQ : ∀ d, Q d → Qo none (wC L d e)) (x1 : Int32) (d : vmD) (h : Expression_settle_89 b0 x1 d Q) : vmWp 18 89 [(0, .ref 28), (1, .int x1)] [] (wC L d e) Qo := by
  unfold Expression_settle_89 at h
  refine st_go 1 (pc' := 0) (lo' := [(0, .ref 28), (1, .int x1)]) (st' := []) rfl ?_
  refine vmWp.sub (lo' := [(0, .ref 28), (1, .int x1)]) ⟨rfl, rfl, trivial⟩ ?_
  exact hb0 x1 d h
set_option maxRecDepth 100000 in
def Expression_settle_67 (b0 : Int32 → vmD → Prop) (x1 : Int32) (x2 : Int32) (d : vmD) (Q : vmD → Prop) : Prop :=
  Expression_turn x2 d fun d_12 =>
  Expression_settle_89 b0 x1 d_12 Q
set_option maxRecDepth 100000 in
set_option maxHeartbeats 4000000 in
theorem tExpression_settle_67 {L : Nat} {e : vmD} {Qo : Option Value → vmW → Prop} {b0 : Int32 → vmD → Prop} {Q : vmD → Prop} (hb0 : ∀ x1 d, b0 x1 d → vmWp 18 0 [(0, .ref 28), (1, .int x1)] [] (wC L d e) Qo) (hQ : ∀ d, Q d → Qo none (wC L d e)) (x1 : Int32) (x2 : Int32) (d : vmD) (h : Expression_settle_67 b0 x1 x2 d Q) : vmWp 18 67 [(0, .ref 28), (1, .int x1), (2, .int x2)] [] (wC L d e) Qo := by
  unfold Expression_settle_67 at h
  refine st_go 2 (pc' := 69) (lo' := [(0, .ref 28), (1, .int x1), (2, .int x2)]) (st' := [.int x2, .ref 28]) rfl ?_
  refine st_callv (k' := 19) (as := [.ref 28, .int x2]) (rest := []) (lo' := [(0, .ref 28), (1, .int x2)]) (wf := fun d => wC L d e) rfl rfl rfl ?_
  refine tExpression_turn (fun d_12 h => ⟨d_12, rfl, rfl, ?_⟩) x2 d h
  refine st_go 1 (pc' := 89) (lo' := [(0, .ref 28), (1, .int x1), (2, .int x2)]) (st' := []) rfl ?_
  refine vmWp.sub (lo' := [(0, .ref 28), (1, .int x1)]) ⟨rfl, rfl, trivial⟩ ?_
  exact tExpression_settle_89 hb0 hQ x1 d_12 h
set_option maxRecDepth 100000 in
def Expression_settle_0 (Q : vmD → Prop) : Nat → Int32 → vmD → Prop
  | 0, _, _ => False
  | n + 1, x1, d => if (0 : Int32) < (gF d 28 6) then
  (if (320 : Int32) < (gF d 28 6) then
  (Q d)
  else
  (ixOk ((gF d 28 6) - 1) 320 ∧
  bnd (gA d 29 ((gF d 28 6) - 1).toNatClampNeg) fun y_4 =>
  Expression_levelOf y_4 d fun r_6 d_5 =>
  if r_6 < x1 then
  (Q d_5)
  else
  (bnd (sF d_5 28 6 ((gF d_5 28 6) - 1)) fun d_8 =>
  ixOk (gF d_8 28 6) 320 ∧
  bnd (gA d_8 29 (gF d_8 28 6).toNatClampNeg) fun y_10 =>
  if y_10 = 126 then
  (Expression_settle_67 (Expression_settle_0 Q n) x1 y_10 d_8 Q)
  else
  (if y_10 = 109 then
  (Expression_settle_67 (Expression_settle_0 Q n) x1 y_10 d_8 Q)
  else
  (ixOk (gF d_8 28 6) 320 ∧
  bnd (gA d_8 30 (gF d_8 28 6).toNatClampNeg) fun y_15 =>
  Expression_join y_10 y_15 d_8 fun d_16 =>
  Expression_settle_89 (Expression_settle_0 Q n) x1 d_16 Q)))))
  else
  (Q d)
set_option maxRecDepth 100000 in
set_option maxHeartbeats 4000000 in
theorem tExpression_settle_0 {L : Nat} {e : vmD} {Qo : Option Value → vmW → Prop} {Q : vmD → Prop} (hQ : ∀ d, Q d → Qo none (wC L d e)) : ∀ (n : Nat) (x1 : Int32) (d : vmD), Expression_settle_0 Q n x1 d → vmWp 18 0 [(0, .ref 28), (1, .int x1)] [] (wC L d e) Qo := by
  intro n
  induction n with
  | zero => intro x1 d h; exact h.elim
  | succ n ih =>
    intro x1 d h
    unfold Expression_settle_0 at h
    refine st_go 2 (pc' := 4) (lo' := [(0, .ref 28), (1, .int x1)]) (st' := [.int (gF d 28 6)]) rfl ?_
    by_cases hc_1 : (0 : Int32) < (gF d 28 6)
    · have h := Eq.mp (if_pos hc_1) h
      refine st_if (t := 7) (b := false) rfl (decide_eq_false (Int32.not_le.mpr hc_1)) rfl ?_
      refine st_go 3 (pc' := 14) (lo' := [(0, .ref 28), (1, .int x1)]) (st' := [.int 320, .int (gF d 28 6)]) rfl ?_
      by_cases hc_2 : (320 : Int32) < (gF d 28 6)
      · have h := Eq.mp (if_pos hc_2) h
        refine st_icmp (t := 92) (b := true) rfl (decide_eq_true hc_2) rfl ?_
        exact st_retV rfl rfl (hQ _ h)
      · have h := Eq.mp (if_neg hc_2) h
        refine st_icmp (t := 17) (b := false) rfl (decide_eq_false hc_2) rfl ?_
        refine st_go 6 (pc' := 27) (lo' := [(0, .ref 28), (1, .int x1)]) (st' := [.int ((gF d 28 6) - 1), .ref 29]) rfl ?_
        obtain ⟨hj_3, h⟩ := h
        refine st_ialdC (o := 29) rfl rfl hj_3 rfl (fun y_4 hy_y_4 => ?_)
        have h := h y_4 hy_y_4
        refine st_calli (k' := 13) (as := [.int y_4]) (rest := []) (lo' := [(0, .int y_4)]) (wf := fun d => wC L d e) rfl rfl rfl ?_
        refine tExpression_levelOf (fun r_6 d_5 h => ⟨r_6, d_5, rfl, rfl, ?_⟩) y_4 d h
        refine st_go 1 (pc' := 32) (lo' := [(0, .ref 28), (1, .int x1)]) (st' := [.int x1, .int r_6]) rfl ?_
        by_cases hc_7 : r_6 < x1
        · have h := Eq.mp (if_pos hc_7) h
          refine st_icmp (t := 92) (b := true) rfl (decide_eq_true hc_7) rfl ?_
          exact st_retV rfl rfl (hQ _ h)
        · have h := Eq.mp (if_neg hc_7) h
          refine st_icmp (t := 35) (b := false) rfl (decide_eq_false hc_7) rfl ?_
          refine st_go 5 (pc' := 42) (lo' := [(0, .ref 28), (1, .int x1)]) (st' := [.int ((gF d_5 28 6) - 1), .ref 28]) rfl ?_
          refine st_putIC (o := 28) (f := 6) rfl rfl rfl rfl rfl (fun d_8 hy_d_8 => ?_)
          have h := h d_8 hy_d_8
          refine st_go 4 (pc' := 53) (lo' := [(0, .ref 28), (1, .int x1)]) (st' := [.int (gF d_8 28 6), .ref 29]) rfl ?_
          obtain ⟨hj_9, h⟩ := h
          refine st_ialdC (o := 29) rfl rfl hj_9 rfl (fun y_10 hy_y_10 => ?_)
          have h := h y_10 hy_y_10
          refine st_go 3 (pc' := 58) (lo' := [(2, .int y_10), (0, .ref 28), (1, .int x1)]) (st' := [.int 126, .int y_10]) rfl ?_
          by_cases hc_11 : y_10 = 126
          · have h := Eq.mp (if_pos hc_11) h
            refine st_icmp (t := 67) (b := true) rfl (decide_eq_true hc_11) rfl ?_
            refine vmWp.sub (lo' := [(0, .ref 28), (1, .int x1), (2, .int y_10)]) ⟨rfl, rfl, rfl, trivial⟩ ?_
            exact tExpression_settle_67 ih hQ x1 y_10 d_8 h
          · have h := Eq.mp (if_neg hc_11) h
            refine st_icmp (t := 61) (b := false) rfl (decide_eq_false hc_11) rfl ?_
            refine st_go 2 (pc' := 64) (lo' := [(2, .int y_10), (0, .ref 28), (1, .int x1)]) (st' := [.int 109, .int y_10]) rfl ?_
            by_cases hc_13 : y_10 = 109
            · have h := Eq.mp (if_pos hc_13) h
              refine st_icmp (t := 67) (b := false) rfl (decide_eq_false (fun z => z hc_13)) rfl ?_
              refine vmWp.sub (lo' := [(0, .ref 28), (1, .int x1), (2, .int y_10)]) ⟨rfl, rfl, rfl, trivial⟩ ?_
              exact tExpression_settle_67 ih hQ x1 y_10 d_8 h
            · have h := Eq.mp (if_neg hc_13) h
              refine st_icmp (t := 75) (b := true) rfl (decide_eq_true hc_13) rfl ?_
              refine st_go 6 (pc' := 85) (lo' := [(2, .int y_10), (0, .ref 28), (1, .int x1)]) (st' := [.int (gF d_8 28 6), .ref 30, .int y_10, .ref 28]) rfl ?_
              obtain ⟨hj_14, h⟩ := h
              refine st_ialdC (o := 30) rfl rfl hj_14 rfl (fun y_15 hy_y_15 => ?_)
              have h := h y_15 hy_y_15
              refine st_callv (k' := 20) (as := [.ref 28, .int y_10, .int y_15]) (rest := []) (lo' := [(0, .ref 28), (1, .int y_10), (2, .int y_15)]) (wf := fun d => wC L d e) rfl rfl rfl ?_
              refine tExpression_join (fun d_16 h => ⟨d_16, rfl, rfl, ?_⟩) y_10 y_15 d_8 h
              refine vmWp.sub (lo' := [(0, .ref 28), (1, .int x1)]) ⟨rfl, rfl, trivial⟩ ?_
              exact tExpression_settle_89 ih hQ x1 d_16 h
    · have h := Eq.mp (if_neg hc_1) h
      refine st_if (t := 92) (b := true) rfl (decide_eq_true (Int32.not_lt.mp hc_1)) rfl ?_
      exact st_retV rfl rfl (hQ _ h)
set_option maxRecDepth 100000 in
def Expression_settle (x1 : Int32) (d : vmD) (Q : vmD → Prop) : Prop :=
  ∃ m0, Expression_settle_0 Q m0 x1 d
set_option maxRecDepth 100000 in
set_option maxHeartbeats 4000000 in
theorem tExpression_settle {L : Nat} {e : vmD} {Qo : Option Value → vmW → Prop} {Q : vmD → Prop} (hQ : ∀ d, Q d → Qo none (wC L d e)) (x1 : Int32) (d : vmD) (h : Expression_settle x1 d Q) : vmWp 18 0 [(0, .ref 28), (1, .int x1)] [] (wC L d e) Qo := by
  unfold Expression_settle at h
  obtain ⟨m0, h⟩ := h
  refine vmWp.sub (lo' := [(0, .ref 28), (1, .int x1)]) ⟨rfl, rfl, trivial⟩ ?_
  exact tExpression_settle_0 hQ m0 x1 d h
set_option maxRecDepth 100000 in
def Tokens_count (d : vmD) (Q : Int32 → vmD → Prop) : Prop :=
  Q (gF d 24 5) d
set_option maxRecDepth 100000 in
set_option maxHeartbeats 4000000 in
theorem tTokens_count {L : Nat} {e : vmD} {Qo : Option Value → vmW → Prop} {Q : Int32 → vmD → Prop} (hQ : ∀ r d, Q r d → Qo (some (.int r)) (wC L d e)) (d : vmD) (h : Tokens_count d Q) : vmWp 216 0 [(0, .ref 24)] [] (wC L d e) Qo := by
  unfold Tokens_count at h
  refine st_go 2 (pc' := 4) (lo' := [(0, .ref 24)]) (st' := [.int (gF d 24 5)]) rfl ?_
  exact st_retI rfl rfl (hQ _ _ h)
set_option maxRecDepth 100000 in
def Expression_close (d : vmD) (Q : vmD → Prop) : Prop :=
  bnd (sF d 28 6 ((gF d 28 6) - 1)) fun d_1 =>
  bnd (sF d_1 28 9 ((gF d_1 28 9) - 1)) fun d_2 =>
  bnd (sF d_2 28 8 ((gF d_2 28 8) - 1)) fun d_3 =>
  Q d_3
set_option maxRecDepth 100000 in
set_option maxHeartbeats 4000000 in
theorem tExpression_close {L : Nat} {e : vmD} {Qo : Option Value → vmW → Prop} {Q : vmD → Prop} (hQ : ∀ d, Q d → Qo none (wC L d e)) (d : vmD) (h : Expression_close d Q) : vmWp 15 0 [(0, .ref 28)] [] (wC L d e) Qo := by
  unfold Expression_close at h
  refine st_go 5 (pc' := 7) (lo' := [(0, .ref 28)]) (st' := [.int ((gF d 28 6) - 1), .ref 28]) rfl ?_
  refine st_putIC (o := 28) (f := 6) rfl rfl rfl rfl rfl (fun d_1 hy_d_1 => ?_)
  have h := h d_1 hy_d_1
  refine st_go 5 (pc' := 17) (lo' := [(0, .ref 28)]) (st' := [.int ((gF d_1 28 9) - 1), .ref 28]) rfl ?_
  refine st_putIC (o := 28) (f := 9) rfl rfl rfl rfl rfl (fun d_2 hy_d_2 => ?_)
  have h := h d_2 hy_d_2
  refine st_go 5 (pc' := 27) (lo' := [(0, .ref 28)]) (st' := [.int ((gF d_2 28 8) - 1), .ref 28]) rfl ?_
  refine st_putIC (o := 28) (f := 8) rfl rfl rfl rfl rfl (fun d_3 hy_d_3 => ?_)
  have h := h d_3 hy_d_3
  exact st_retV rfl rfl (hQ _ h)
set_option maxRecDepth 100000 in
def Expression_hold (x1 : Int32) (x2 : Int32) (d : vmD) (Q : vmD → Prop) : Prop :=
  if (gF d 28 6) < 0 then
  (Q d)
  else
  (if (gF d 28 6) < 320 then
  (ixOk (gF d 28 6) 320 ∧
  bnd (sA d 29 (gF d 28 6).toNatClampNeg x1) fun d_4 =>
  ixOk (gF d_4 28 6) 320 ∧
  bnd (sA d_4 30 (gF d_4 28 6).toNatClampNeg x2) fun d_6 =>
  bnd (sF d_6 28 6 ((gF d_6 28 6) + 1)) fun d_7 =>
  Q d_7)
  else
  (Q d))
set_option maxRecDepth 100000 in
set_option maxHeartbeats 4000000 in
theorem tExpression_hold {L : Nat} {e : vmD} {Qo : Option Value → vmW → Prop} {Q : vmD → Prop} (hQ : ∀ d, Q d → Qo none (wC L d e)) (x1 : Int32) (x2 : Int32) (d : vmD) (h : Expression_hold x1 x2 d Q) : vmWp 16 0 [(0, .ref 28), (1, .int x1), (2, .int x2)] [] (wC L d e) Qo := by
  unfold Expression_hold at h
  refine st_go 2 (pc' := 4) (lo' := [(0, .ref 28), (1, .int x1), (2, .int x2)]) (st' := [.int (gF d 28 6)]) rfl ?_
  by_cases hc_1 : (gF d 28 6) < 0
  · have h := Eq.mp (if_pos hc_1) h
    refine st_if (t := 47) (b := true) rfl (decide_eq_true hc_1) rfl ?_
    exact st_retV rfl rfl (hQ _ h)
  · have h := Eq.mp (if_neg hc_1) h
    refine st_if (t := 7) (b := false) rfl (decide_eq_false hc_1) rfl ?_
    refine st_go 3 (pc' := 14) (lo' := [(0, .ref 28), (1, .int x1), (2, .int x2)]) (st' := [.int 320, .int (gF d 28 6)]) rfl ?_
    by_cases hc_2 : (gF d 28 6) < 320
    · have h := Eq.mp (if_pos hc_2) h
      refine st_icmp (t := 17) (b := false) rfl (decide_eq_false (Int32.not_le.mpr hc_2)) rfl ?_
      refine st_go 5 (pc' := 26) (lo' := [(0, .ref 28), (1, .int x1), (2, .int x2)]) (st' := [.int x1, .int (gF d 28 6), .ref 29]) rfl ?_
      obtain ⟨hj_3, h⟩ := h
      refine st_iastC (o := 29) rfl rfl hj_3 rfl (fun d_4 hy_d_4 => ?_)
      have h := h d_4 hy_d_4
      refine st_go 5 (pc' := 36) (lo' := [(0, .ref 28), (1, .int x1), (2, .int x2)]) (st' := [.int x2, .int (gF d_4 28 6), .ref 30]) rfl ?_
      obtain ⟨hj_5, h⟩ := h
      refine st_iastC (o := 30) rfl rfl hj_5 rfl (fun d_6 hy_d_6 => ?_)
      have h := h d_6 hy_d_6
      refine st_go 5 (pc' := 44) (lo' := [(0, .ref 28), (1, .int x1), (2, .int x2)]) (st' := [.int ((gF d_6 28 6) + 1), .ref 28]) rfl ?_
      refine st_putIC (o := 28) (f := 6) rfl rfl rfl rfl rfl (fun d_7 hy_d_7 => ?_)
      have h := h d_7 hy_d_7
      exact st_retV rfl rfl (hQ _ h)
    · have h := Eq.mp (if_neg hc_2) h
      refine st_icmp (t := 47) (b := true) rfl (decide_eq_true (Int32.not_lt.mp hc_2)) rfl ?_
      exact st_retV rfl rfl (hQ _ h)
set_option maxRecDepth 100000 in
def Names_foundValue (x1 : Int32) (d : vmD) (Q : Int32 → vmD → Prop) : Prop :=
  if x1 < 0 then
  (Q 0 d)
  else
  (if x1 < (gF d 3 6) then
  (if x1 < 200 then
  (ixOk x1 200 ∧
  bnd (gA d 8 x1.toNatClampNeg) fun y_5 =>
  Q y_5 d)
  else
  (Q 0 d))
  else
  (Q 0 d))
set_option maxRecDepth 100000 in
set_option maxHeartbeats 4000000 in
theorem tNames_foundValue {L : Nat} {e : vmD} {Qo : Option Value → vmW → Prop} {Q : Int32 → vmD → Prop} (hQ : ∀ r d, Q r d → Qo (some (.int r)) (wC L d e)) (x1 : Int32) (d : vmD) (h : Names_foundValue x1 d Q) : vmWp 144 0 [(0, .ref 3), (1, .int x1)] [] (wC L d e) Qo := by
  unfold Names_foundValue at h
  refine st_go 1 (pc' := 1) (lo' := [(0, .ref 3), (1, .int x1)]) (st' := [.int x1]) rfl ?_
  by_cases hc_1 : x1 < 0
  · have h := Eq.mp (if_pos hc_1) h
    refine st_if (t := 28) (b := true) rfl (decide_eq_true hc_1) rfl ?_
    refine st_go 1 (pc' := 29) (lo' := [(0, .ref 3), (1, .int x1)]) (st' := [.int 0]) rfl ?_
    exact st_retI rfl rfl (hQ _ _ h)
  · have h := Eq.mp (if_neg hc_1) h
    refine st_if (t := 4) (b := false) rfl (decide_eq_false hc_1) rfl ?_
    refine st_go 3 (pc' := 9) (lo' := [(0, .ref 3), (1, .int x1)]) (st' := [.int (gF d 3 6), .int x1]) rfl ?_
    by_cases hc_2 : x1 < (gF d 3 6)
    · have h := Eq.mp (if_pos hc_2) h
      refine st_icmp (t := 12) (b := false) rfl (decide_eq_false (Int32.not_le.mpr hc_2)) rfl ?_
      refine st_go 2 (pc' := 16) (lo' := [(0, .ref 3), (1, .int x1)]) (st' := [.int 200, .int x1]) rfl ?_
      by_cases hc_3 : x1 < 200
      · have h := Eq.mp (if_pos hc_3) h
        refine st_icmp (t := 19) (b := false) rfl (decide_eq_false (Int32.not_le.mpr hc_3)) rfl ?_
        refine st_go 3 (pc' := 24) (lo' := [(0, .ref 3), (1, .int x1)]) (st' := [.int x1, .ref 8]) rfl ?_
        obtain ⟨hj_4, h⟩ := h
        refine st_ialdC (o := 8) rfl rfl hj_4 rfl (fun y_5 hy_y_5 => ?_)
        have h := h y_5 hy_y_5
        refine st_go 1 (pc' := 29) (lo' := [(0, .ref 3), (1, .int x1)]) (st' := [.int y_5]) rfl ?_
        exact st_retI rfl rfl (hQ _ _ h)
      · have h := Eq.mp (if_neg hc_3) h
        refine st_icmp (t := 28) (b := true) rfl (decide_eq_true (Int32.not_lt.mp hc_3)) rfl ?_
        refine st_go 1 (pc' := 29) (lo' := [(0, .ref 3), (1, .int x1)]) (st' := [.int 0]) rfl ?_
        exact st_retI rfl rfl (hQ _ _ h)
    · have h := Eq.mp (if_neg hc_2) h
      refine st_icmp (t := 28) (b := true) rfl (decide_eq_true (Int32.not_lt.mp hc_2)) rfl ?_
      refine st_go 1 (pc' := 29) (lo' := [(0, .ref 3), (1, .int x1)]) (st' := [.int 0]) rfl ?_
      exact st_retI rfl rfl (hQ _ _ h)
set_option maxRecDepth 100000 in
def Expression_takeValue_123 (x3 : Int32) (x4 : Int32) (d : vmD) (Q : Int32 → vmD → Prop) : Prop :=
  if (gF d 28 7) < 0 then
  (Q 0 d)
  else
  (if (gF d 28 7) < 320 then
  (ixOk (gF d 28 7) 320 ∧
  bnd (sA d 31 (gF d 28 7).toNatClampNeg x3) fun d_9 =>
  ixOk (gF d_9 28 7) 320 ∧
  bnd (sA d_9 32 (gF d_9 28 7).toNatClampNeg (x4 &&& 1)) fun d_11 =>
  bnd (sF d_11 28 7 ((gF d_11 28 7) + 1)) fun d_12 =>
  Q 1 d_12)
  else
  (Q 0 d))
set_option maxRecDepth 100000 in
set_option maxHeartbeats 4000000 in
theorem tExpression_takeValue_123 {L : Nat} {e : vmD} {Qo : Option Value → vmW → Prop} {Q : Int32 → vmD → Prop} (hQ : ∀ r d, Q r d → Qo (some (.int r)) (wC L d e)) (x3 : Int32) (x4 : Int32) (d : vmD) (h : Expression_takeValue_123 x3 x4 d Q) : vmWp 17 123 [(0, .ref 28), (3, .int x3), (4, .int x4)] [] (wC L d e) Qo := by
  unfold Expression_takeValue_123 at h
  refine st_go 2 (pc' := 127) (lo' := [(0, .ref 28), (3, .int x3), (4, .int x4)]) (st' := [.int (gF d 28 7)]) rfl ?_
  by_cases hc_6 : (gF d 28 7) < 0
  · have h := Eq.mp (if_pos hc_6) h
    refine st_if (t := 140) (b := true) rfl (decide_eq_true hc_6) rfl ?_
    refine st_go 1 (pc' := 141) (lo' := [(0, .ref 28), (3, .int x3), (4, .int x4)]) (st' := [.int 0]) rfl ?_
    exact st_retZ rfl rfl (Or.inl rfl) (hQ _ _ h)
  · have h := Eq.mp (if_neg hc_6) h
    refine st_if (t := 130) (b := false) rfl (decide_eq_false hc_6) rfl ?_
    refine st_go 3 (pc' := 137) (lo' := [(0, .ref 28), (3, .int x3), (4, .int x4)]) (st' := [.int 320, .int (gF d 28 7)]) rfl ?_
    by_cases hc_7 : (gF d 28 7) < 320
    · have h := Eq.mp (if_pos hc_7) h
      refine st_icmp (t := 142) (b := true) rfl (decide_eq_true hc_7) rfl ?_
      refine st_go 5 (pc' := 151) (lo' := [(0, .ref 28), (3, .int x3), (4, .int x4)]) (st' := [.int x3, .int (gF d 28 7), .ref 31]) rfl ?_
      obtain ⟨hj_8, h⟩ := h
      refine st_iastC (o := 31) rfl rfl hj_8 rfl (fun d_9 hy_d_9 => ?_)
      have h := h d_9 hy_d_9
      refine st_go 5 (pc' := 162) (lo' := [(0, .ref 28), (3, .int x3), (4, .int x4)]) (st' := [.int x4, .int (gF d_9 28 7), .ref 32]) rfl ?_
      obtain ⟨hj_10, h⟩ := h
      refine st_zastC (o := 32) rfl rfl rfl hj_10 rfl (fun d_11 hy_d_11 => ?_)
      have h := h d_11 hy_d_11
      refine st_go 5 (pc' := 170) (lo' := [(0, .ref 28), (3, .int x3), (4, .int x4)]) (st' := [.int ((gF d_11 28 7) + 1), .ref 28]) rfl ?_
      refine st_putIC (o := 28) (f := 7) rfl rfl rfl rfl rfl (fun d_12 hy_d_12 => ?_)
      have h := h d_12 hy_d_12
      refine st_go 1 (pc' := 174) (lo' := [(0, .ref 28), (3, .int x3), (4, .int x4)]) (st' := [.int 1]) rfl ?_
      exact st_retZ rfl rfl (Or.inr rfl) (hQ _ _ h)
    · have h := Eq.mp (if_neg hc_7) h
      refine st_icmp (t := 140) (b := false) rfl (decide_eq_false hc_7) rfl ?_
      refine st_go 1 (pc' := 141) (lo' := [(0, .ref 28), (3, .int x3), (4, .int x4)]) (st' := [.int 0]) rfl ?_
      exact st_retZ rfl rfl (Or.inl rfl) (hQ _ _ h)
set_option maxRecDepth 100000 in
def Expression_takeValue_112 (x3 : Int32) (x4 : Int32) (d : vmD) (Q : Int32 → vmD → Prop) : Prop :=
  Expression_takeValue_123 x3 x4 d Q
set_option maxRecDepth 100000 in
set_option maxHeartbeats 4000000 in
theorem tExpression_takeValue_112 {L : Nat} {e : vmD} {Qo : Option Value → vmW → Prop} {Q : Int32 → vmD → Prop} (hQ : ∀ r d, Q r d → Qo (some (.int r)) (wC L d e)) (x3 : Int32) (x4 : Int32) (d : vmD) (h : Expression_takeValue_112 x3 x4 d Q) : vmWp 17 112 [(0, .ref 28), (3, .int x3), (4, .int x4)] [] (wC L d e) Qo := by
  unfold Expression_takeValue_112 at h
  refine st_go 1 (pc' := 123) (lo' := [(0, .ref 28), (3, .int x3), (4, .int x4)]) (st' := []) rfl ?_
  refine vmWp.sub (lo' := [(0, .ref 28), (3, .int x3), (4, .int x4)]) ⟨rfl, rfl, rfl, trivial⟩ ?_
  exact tExpression_takeValue_123 hQ x3 x4 d h
set_option maxRecDepth 100000 in
def Expression_takeValue_78 (x2 : Int32) (x5 : Int32) (s0 : Int32) (d : vmD) (Q : Int32 → vmD → Prop) : Prop :=
  Names_foundValue x5 d fun r_25 d_24 =>
  if s0 = 0 then
  (if (gF d_24 28 11) = 0 then
  (bnd (sF d_24 28 11 4) fun d_28 =>
  bnd (sF d_28 28 12 x2) fun d_29 =>
  Expression_takeValue_112 r_25 s0 d_29 Q)
  else
  (Expression_takeValue_112 r_25 s0 d_24 Q))
  else
  (Expression_takeValue_112 r_25 s0 d_24 Q)
set_option maxRecDepth 100000 in
set_option maxHeartbeats 4000000 in
theorem tExpression_takeValue_78 {L : Nat} {e : vmD} {Qo : Option Value → vmW → Prop} {Q : Int32 → vmD → Prop} (hQ : ∀ r d, Q r d → Qo (some (.int r)) (wC L d e)) (x2 : Int32) (x5 : Int32) (s0 : Int32) (d : vmD) (h : Expression_takeValue_78 x2 x5 s0 d Q) : vmWp 17 78 [(0, .ref 28), (2, .int x2), (5, .int x5)] [.int s0] (wC L d e) Qo := by
  unfold Expression_takeValue_78 at h
  refine st_go 4 (pc' := 86) (lo' := [(4, .int s0), (0, .ref 28), (2, .int x2), (5, .int x5)]) (st' := [.int x5, .ref 3]) rfl ?_
  refine st_calli (k' := 144) (as := [.ref 3, .int x5]) (rest := []) (lo' := [(0, .ref 3), (1, .int x5)]) (wf := fun d => wC L d e) rfl rfl rfl ?_
  refine tNames_foundValue (fun r_25 d_24 h => ⟨r_25, d_24, rfl, rfl, ?_⟩) x5 d h
  refine st_go 2 (pc' := 92) (lo' := [(3, .int r_25), (4, .int s0), (0, .ref 28), (2, .int x2), (5, .int x5)]) (st' := [.int s0]) rfl ?_
  by_cases hc_26 : s0 = 0
  · have h := Eq.mp (if_pos hc_26) h
    refine st_if (t := 95) (b := false) rfl (decide_eq_false (fun z => z hc_26)) rfl ?_
    refine st_go 2 (pc' := 99) (lo' := [(3, .int r_25), (4, .int s0), (0, .ref 28), (2, .int x2), (5, .int x5)]) (st' := [.int (gF d_24 28 11)]) rfl ?_
    by_cases hc_27 : (gF d_24 28 11) = 0
    · have h := Eq.mp (if_pos hc_27) h
      refine st_if (t := 102) (b := false) rfl (decide_eq_false (fun z => z hc_27)) rfl ?_
      refine st_go 2 (pc' := 104) (lo' := [(3, .int r_25), (4, .int s0), (0, .ref 28), (2, .int x2), (5, .int x5)]) (st' := [.int 4, .ref 28]) rfl ?_
      refine st_putIC (o := 28) (f := 11) rfl rfl rfl rfl rfl (fun d_28 hy_d_28 => ?_)
      have h := h d_28 hy_d_28
      refine st_go 2 (pc' := 109) (lo' := [(3, .int r_25), (4, .int s0), (0, .ref 28), (2, .int x2), (5, .int x5)]) (st' := [.int x2, .ref 28]) rfl ?_
      refine st_putIC (o := 28) (f := 12) rfl rfl rfl rfl rfl (fun d_29 hy_d_29 => ?_)
      have h := h d_29 hy_d_29
      refine vmWp.sub (lo' := [(0, .ref 28), (3, .int r_25), (4, .int s0)]) ⟨rfl, rfl, rfl, trivial⟩ ?_
      exact tExpression_takeValue_112 hQ r_25 s0 d_29 h
    · have h := Eq.mp (if_neg hc_27) h
      refine st_if (t := 112) (b := true) rfl (decide_eq_true hc_27) rfl ?_
      refine vmWp.sub (lo' := [(0, .ref 28), (3, .int r_25), (4, .int s0)]) ⟨rfl, rfl, rfl, trivial⟩ ?_
      exact tExpression_takeValue_112 hQ r_25 s0 d_24 h
  · have h := Eq.mp (if_neg hc_26) h
    refine st_if (t := 112) (b := true) rfl (decide_eq_true hc_26) rfl ?_
    refine vmWp.sub (lo' := [(0, .ref 28), (3, .int r_25), (4, .int s0)]) ⟨rfl, rfl, rfl, trivial⟩ ?_
    exact tExpression_takeValue_112 hQ r_25 s0 d_24 h
set_option maxRecDepth 100000 in
def Expression_takeValue (x1 : Int32) (x2 : Int32) (d : vmD) (Q : Int32 → vmD → Prop) : Prop :=
  bnd (gF d 28 10) fun x3_1 =>
  if x1 = 3 then
  (Tokens_value x2 d fun r_4 d_3 =>
  bnd (Int64.toInt32 r_4) fun x3_5 =>
  Expression_takeValue_123 x3_5 1 d_3 Q)
  else
  (if x1 = 2 then
  (Tokens_value x2 d fun r_15 d_14 =>
  Names_idOf r_15 d_14 fun r_17 d_16 =>
  if (0 : Int32) < r_17 then
  (Q 0 d_16)
  else
  (Tokens_value x2 d_16 fun r_20 d_19 =>
  Names_find r_20 d_19 fun r_22 d_21 =>
  if r_22 < 0 then
  (Expression_takeValue_78 x2 r_22 0 d_21 Q)
  else
  (Expression_takeValue_78 x2 r_22 1 d_21 Q)))
  else
  (if x1 = 64 then
  (Expression_takeValue_123 x3_1 1 d Q)
  else
  (Q 0 d)))
set_option maxRecDepth 100000 in
set_option maxHeartbeats 4000000 in
theorem tExpression_takeValue {L : Nat} {e : vmD} {Qo : Option Value → vmW → Prop} {Q : Int32 → vmD → Prop} (hQ : ∀ r d, Q r d → Qo (some (.int r)) (wC L d e)) (x1 : Int32) (x2 : Int32) (d : vmD) (h : Expression_takeValue x1 x2 d Q) : vmWp 17 0 [(0, .ref 28), (1, .int x1), (2, .int x2)] [] (wC L d e) Qo := by
  unfold Expression_takeValue at h
  refine st_go 3 (pc' := 5) (lo' := [(3, .int (gF d 28 10)), (0, .ref 28), (1, .int x1), (2, .int x2)]) (st' := []) rfl ?_
  refine st_locI (fun x3_1 hy_x3_1 => ?_)
  have h := h x3_1 hy_x3_1
  refine st_go 4 (pc' := 10) (lo' := [(4, .int 1), (3, .int x3_1), (0, .ref 28), (1, .int x1), (2, .int x2)]) (st' := [.int 3, .int x1]) rfl ?_
  by_cases hc_2 : x1 = 3
  · have h := Eq.mp (if_pos hc_2) h
    refine st_icmp (t := 13) (b := false) rfl (decide_eq_false (fun z => z hc_2)) rfl ?_
    refine st_go 3 (pc' := 18) (lo' := [(4, .int 1), (3, .int x3_1), (0, .ref 28), (1, .int x1), (2, .int x2)]) (st' := [.int x2, .ref 24]) rfl ?_
    refine st_calll (k' := 215) (as := [.ref 24, .int x2]) (rest := []) (lo' := [(0, .ref 24), (1, .int x2)]) (wf := fun d => wC L d e) rfl rfl rfl ?_
    refine tTokens_value (fun r_4 d_3 h => ⟨r_4, d_3, rfl, rfl, ?_⟩) x2 d h
    refine st_go 2 (pc' := 23) (lo' := [(3, .int (Int64.toInt32 r_4)), (4, .int 1), (0, .ref 28), (1, .int x1), (2, .int x2)]) (st' := []) rfl ?_
    refine st_locI (fun x3_5 hy_x3_5 => ?_)
    have h := h x3_5 hy_x3_5
    refine st_go 1 (pc' := 123) (lo' := [(3, .int x3_5), (4, .int 1), (0, .ref 28), (1, .int x1), (2, .int x2)]) (st' := []) rfl ?_
    refine vmWp.sub (lo' := [(0, .ref 28), (3, .int x3_5), (4, .int 1)]) ⟨rfl, rfl, rfl, trivial⟩ ?_
    exact tExpression_takeValue_123 hQ x3_5 1 d_3 h
  · have h := Eq.mp (if_neg hc_2) h
    refine st_icmp (t := 26) (b := true) rfl (decide_eq_true hc_2) rfl ?_
    refine st_go 2 (pc' := 28) (lo' := [(4, .int 1), (3, .int x3_1), (0, .ref 28), (1, .int x1), (2, .int x2)]) (st' := [.int 2, .int x1]) rfl ?_
    by_cases hc_13 : x1 = 2
    · have h := Eq.mp (if_pos hc_13) h
      refine st_icmp (t := 31) (b := false) rfl (decide_eq_false (fun z => z hc_13)) rfl ?_
      refine st_go 5 (pc' := 40) (lo' := [(4, .int 1), (3, .int x3_1), (0, .ref 28), (1, .int x1), (2, .int x2)]) (st' := [.int x2, .ref 24, .ref 3]) rfl ?_
      refine st_calll (k' := 215) (as := [.ref 24, .int x2]) (rest := [.ref 3]) (lo' := [(0, .ref 24), (1, .int x2)]) (wf := fun d => wC L d e) rfl rfl rfl ?_
      refine tTokens_value (fun r_15 d_14 h => ⟨r_15, d_14, rfl, rfl, ?_⟩) x2 d h
      refine st_calli (k' := 139) (as := [.ref 3, .long r_15]) (rest := []) (lo' := [(0, .ref 3), (1, .long r_15)]) (wf := fun d => wC L d e) rfl rfl rfl ?_
      refine tNames_idOf (fun r_17 d_16 h => ⟨r_17, d_16, rfl, rfl, ?_⟩) r_15 d_14 h
      by_cases hc_18 : (0 : Int32) < r_17
      · have h := Eq.mp (if_pos hc_18) h
        refine st_if (t := 49) (b := false) rfl (decide_eq_false (Int32.not_le.mpr hc_18)) rfl ?_
        refine st_go 1 (pc' := 50) (lo' := [(4, .int 1), (3, .int x3_1), (0, .ref 28), (1, .int x1), (2, .int x2)]) (st' := [.int 0]) rfl ?_
        exact st_retZ rfl rfl (Or.inl rfl) (hQ _ _ h)
      · have h := Eq.mp (if_neg hc_18) h
        refine st_if (t := 51) (b := true) rfl (decide_eq_true (Int32.not_lt.mp hc_18)) rfl ?_
        refine st_go 5 (pc' := 60) (lo' := [(4, .int 1), (3, .int x3_1), (0, .ref 28), (1, .int x1), (2, .int x2)]) (st' := [.int x2, .ref 24, .ref 3]) rfl ?_
        refine st_calll (k' := 215) (as := [.ref 24, .int x2]) (rest := [.ref 3]) (lo' := [(0, .ref 24), (1, .int x2)]) (wf := fun d => wC L d e) rfl rfl rfl ?_
        refine tTokens_value (fun r_20 d_19 h => ⟨r_20, d_19, rfl, rfl, ?_⟩) x2 d_16 h
        refine st_calli (k' := 143) (as := [.ref 3, .long r_20]) (rest := []) (lo' := [(0, .ref 3), (1, .long r_20)]) (wf := fun d => wC L d e) rfl rfl rfl ?_
        refine tNames_find (fun r_22 d_21 h => ⟨r_22, d_21, rfl, rfl, ?_⟩) r_20 d_19 h
        refine st_go 2 (pc' := 70) (lo' := [(5, .int r_22), (4, .int 1), (3, .int x3_1), (0, .ref 28), (1, .int x1), (2, .int x2)]) (st' := [.int r_22]) rfl ?_
        by_cases hc_23 : r_22 < 0
        · have h := Eq.mp (if_pos hc_23) h
          refine st_if (t := 77) (b := true) rfl (decide_eq_true hc_23) rfl ?_
          refine st_go 1 (pc' := 78) (lo' := [(5, .int r_22), (4, .int 1), (3, .int x3_1), (0, .ref 28), (1, .int x1), (2, .int x2)]) (st' := [.int 0]) rfl ?_
          refine vmWp.sub (lo' := [(0, .ref 28), (2, .int x2), (5, .int r_22)]) ⟨rfl, rfl, rfl, trivial⟩ ?_
          exact tExpression_takeValue_78 hQ x2 r_22 0 d_21 h
        · have h := Eq.mp (if_neg hc_23) h
          refine st_if (t := 73) (b := false) rfl (decide_eq_false hc_23) rfl ?_
          refine st_go 2 (pc' := 78) (lo' := [(5, .int r_22), (4, .int 1), (3, .int x3_1), (0, .ref 28), (1, .int x1), (2, .int x2)]) (st' := [.int 1]) rfl ?_
          refine vmWp.sub (lo' := [(0, .ref 28), (2, .int x2), (5, .int r_22)]) ⟨rfl, rfl, rfl, trivial⟩ ?_
          exact tExpression_takeValue_78 hQ x2 r_22 1 d_21 h
    · have h := Eq.mp (if_neg hc_13) h
      refine st_icmp (t := 115) (b := true) rfl (decide_eq_true hc_13) rfl ?_
      refine st_go 2 (pc' := 118) (lo' := [(4, .int 1), (3, .int x3_1), (0, .ref 28), (1, .int x1), (2, .int x2)]) (st' := [.int 64, .int x1]) rfl ?_
      by_cases hc_30 : x1 = 64
      · have h := Eq.mp (if_pos hc_30) h
        refine st_icmp (t := 123) (b := true) rfl (decide_eq_true hc_30) rfl ?_
        refine vmWp.sub (lo' := [(0, .ref 28), (3, .int x3_1), (4, .int 1)]) ⟨rfl, rfl, rfl, trivial⟩ ?_
        exact tExpression_takeValue_123 hQ x3_1 1 d h
      · have h := Eq.mp (if_neg hc_30) h
        refine st_icmp (t := 121) (b := false) rfl (decide_eq_false hc_30) rfl ?_
        refine st_go 1 (pc' := 122) (lo' := [(4, .int 1), (3, .int x3_1), (0, .ref 28), (1, .int x1), (2, .int x2)]) (st' := [.int 0]) rfl ?_
        exact st_retZ rfl rfl (Or.inl rfl) (hQ _ _ h)
