/-! The decompiled program, 4.3 -/
set_option maxRecDepth 100000 in
def Instruction_appendTo_dra_34 (d : vmD) (Q : vmD → Prop) : Prop :=
  if (0 : Int32) < (gF d 19 7) then
  (Text_add_dra 44 d fun d_6 =>
  Instruction_appendOperand_dra (gF d_6 19 7) d_6 fun d_7 =>
  Q d_7)
  else
  (Q d)
set_option maxRecDepth 100000 in
set_option maxHeartbeats 4000000 in
theorem tInstruction_appendTo_dra_34 {L : Nat} {e : vmD} {Qo : Option Value → vmW → Prop} {Q : vmD → Prop} (hQ : ∀ d, Q d → Qo none (wC L d e)) (d : vmD) (h : Instruction_appendTo_dra_34 d Q) : vmWp 70 34 [(0, .ref 19), (1, .ref 11)] [] (wC L d e) Qo := by
  unfold Instruction_appendTo_dra_34 at h
  refine st_go 2 (pc' := 38) (lo' := [(0, .ref 19), (1, .ref 11)]) (st' := [.int (gF d 19 7)]) rfl ?_
  by_cases hc_5 : (0 : Int32) < (gF d 19 7)
  · have h := Eq.mp (if_pos hc_5) h
    refine st_if (t := 41) (b := false) rfl (decide_eq_false (Int32.not_le.mpr hc_5)) rfl ?_
    refine st_go 2 (pc' := 44) (lo' := [(0, .ref 19), (1, .ref 11)]) (st' := [.int 44, .ref 11]) rfl ?_
    refine st_callv (k' := 192) (as := [.ref 11, .int 44]) (rest := []) (lo' := [(0, .ref 11), (1, .int 44)]) (wf := fun d => wC L d e) rfl rfl rfl ?_
    refine tText_add_dra (fun d_6 h => ⟨d_6, rfl, rfl, ?_⟩) 44 d h
    refine st_go 4 (pc' := 53) (lo' := [(0, .ref 19), (1, .ref 11)]) (st' := [.int (gF d_6 19 7), .ref 11, .ref 19]) rfl ?_
    refine st_callv (k' := 71) (as := [.ref 19, .ref 11, .int (gF d_6 19 7)]) (rest := []) (lo' := [(0, .ref 19), (1, .ref 11), (2, .int (gF d_6 19 7))]) (wf := fun d => wC L d e) rfl rfl rfl ?_
    refine tInstruction_appendOperand_dra (fun d_7 h => ⟨d_7, rfl, rfl, ?_⟩) (gF d_6 19 7) d_6 h
    exact st_retV rfl rfl (hQ _ h)
  · have h := Eq.mp (if_neg hc_5) h
    refine st_if (t := 56) (b := true) rfl (decide_eq_true (Int32.not_lt.mp hc_5)) rfl ?_
    exact st_retV rfl rfl (hQ _ h)
set_option maxRecDepth 100000 in
def Instruction_appendTo_dra (d : vmD) (Q : vmD → Prop) : Prop :=
  Names_append_dra (gF d 19 5) d fun d_1 =>
  if (0 : Int32) < (gF d_1 19 6) then
  (Text_add_dra 32 d_1 fun d_3 =>
  Instruction_appendOperand_dra (gF d_3 19 6) d_3 fun d_4 =>
  Instruction_appendTo_dra_34 d_4 Q)
  else
  (Instruction_appendTo_dra_34 d_1 Q)
set_option maxRecDepth 100000 in
set_option maxHeartbeats 4000000 in
theorem tInstruction_appendTo_dra {L : Nat} {e : vmD} {Qo : Option Value → vmW → Prop} {Q : vmD → Prop} (hQ : ∀ d, Q d → Qo none (wC L d e)) (d : vmD) (h : Instruction_appendTo_dra d Q) : vmWp 70 0 [(0, .ref 19), (1, .ref 11)] [] (wC L d e) Qo := by
  unfold Instruction_appendTo_dra at h
  refine st_go 5 (pc' := 9) (lo' := [(0, .ref 19), (1, .ref 11)]) (st' := [.int (gF d 19 5), .ref 11, .ref 3]) rfl ?_
  refine st_callv (k' := 138) (as := [.ref 3, .ref 11, .int (gF d 19 5)]) (rest := []) (lo' := [(0, .ref 3), (1, .ref 11), (2, .int (gF d 19 5))]) (wf := fun d => wC L d e) rfl rfl rfl ?_
  refine tNames_append_dra (fun d_1 h => ⟨d_1, rfl, rfl, ?_⟩) (gF d 19 5) d h
  refine st_go 2 (pc' := 16) (lo' := [(0, .ref 19), (1, .ref 11)]) (st' := [.int (gF d_1 19 6)]) rfl ?_
  by_cases hc_2 : (0 : Int32) < (gF d_1 19 6)
  · have h := Eq.mp (if_pos hc_2) h
    refine st_if (t := 19) (b := false) rfl (decide_eq_false (Int32.not_le.mpr hc_2)) rfl ?_
    refine st_go 2 (pc' := 22) (lo' := [(0, .ref 19), (1, .ref 11)]) (st' := [.int 32, .ref 11]) rfl ?_
    refine st_callv (k' := 192) (as := [.ref 11, .int 32]) (rest := []) (lo' := [(0, .ref 11), (1, .int 32)]) (wf := fun d => wC L d e) rfl rfl rfl ?_
    refine tText_add_dra (fun d_3 h => ⟨d_3, rfl, rfl, ?_⟩) 32 d_1 h
    refine st_go 4 (pc' := 31) (lo' := [(0, .ref 19), (1, .ref 11)]) (st' := [.int (gF d_3 19 6), .ref 11, .ref 19]) rfl ?_
    refine st_callv (k' := 71) (as := [.ref 19, .ref 11, .int (gF d_3 19 6)]) (rest := []) (lo' := [(0, .ref 19), (1, .ref 11), (2, .int (gF d_3 19 6))]) (wf := fun d => wC L d e) rfl rfl rfl ?_
    refine tInstruction_appendOperand_dra (fun d_4 h => ⟨d_4, rfl, rfl, ?_⟩) (gF d_3 19 6) d_3 h
    refine vmWp.sub (lo' := [(0, .ref 19), (1, .ref 11)]) ⟨rfl, rfl, trivial⟩ ?_
    exact tInstruction_appendTo_dra_34 hQ d_4 h
  · have h := Eq.mp (if_neg hc_2) h
    refine st_if (t := 34) (b := true) rfl (decide_eq_true (Int32.not_lt.mp hc_2)) rfl ?_
    refine vmWp.sub (lo' := [(0, .ref 19), (1, .ref 11)]) ⟨rfl, rfl, trivial⟩ ?_
    exact tInstruction_appendTo_dra_34 hQ d_1 h
set_option maxRecDepth 100000 in
def Text_length_dra (d : vmD) (Q : Int32 → vmD → Prop) : Prop :=
  Q (gF d 11 1) d
set_option maxRecDepth 100000 in
set_option maxHeartbeats 4000000 in
theorem tText_length_dra {L : Nat} {e : vmD} {Qo : Option Value → vmW → Prop} {Q : Int32 → vmD → Prop} (hQ : ∀ r d, Q r d → Qo (some (.int r)) (wC L d e)) (d : vmD) (h : Text_length_dra d Q) : vmWp 190 0 [(0, .ref 11)] [] (wC L d e) Qo := by
  unfold Text_length_dra at h
  refine st_go 2 (pc' := 4) (lo' := [(0, .ref 11)]) (st' := [.int (gF d 11 1)]) rfl ?_
  exact st_retI rfl rfl (hQ _ _ h)
set_option maxRecDepth 100000 in
def Text_at_dra (x1 : Int32) (d : vmD) (Q : Int32 → vmD → Prop) : Prop :=
  if x1 < 0 then
  (Q (-1) d)
  else
  (if x1 < (gF d 11 1) then
  (if x1 < 6001 then
  (ixOk x1 6001 ∧
  bnd (gA d 12 x1.toNatClampNeg) fun y_5 =>
  Q (y_5 &&& 255) d)
  else
  (Q (-1) d))
  else
  (Q (-1) d))
set_option maxRecDepth 100000 in
set_option maxHeartbeats 4000000 in
theorem tText_at_dra {L : Nat} {e : vmD} {Qo : Option Value → vmW → Prop} {Q : Int32 → vmD → Prop} (hQ : ∀ r d, Q r d → Qo (some (.int r)) (wC L d e)) (x1 : Int32) (d : vmD) (h : Text_at_dra x1 d Q) : vmWp 191 0 [(0, .ref 11), (1, .int x1)] [] (wC L d e) Qo := by
  unfold Text_at_dra at h
  refine st_go 1 (pc' := 1) (lo' := [(0, .ref 11), (1, .int x1)]) (st' := [.int x1]) rfl ?_
  by_cases hc_1 : x1 < 0
  · have h := Eq.mp (if_pos hc_1) h
    refine st_if (t := 34) (b := true) rfl (decide_eq_true hc_1) rfl ?_
    refine st_go 1 (pc' := 35) (lo' := [(0, .ref 11), (1, .int x1)]) (st' := [.int (-1)]) rfl ?_
    exact st_retI rfl rfl (hQ _ _ h)
  · have h := Eq.mp (if_neg hc_1) h
    refine st_if (t := 4) (b := false) rfl (decide_eq_false hc_1) rfl ?_
    refine st_go 3 (pc' := 9) (lo' := [(0, .ref 11), (1, .int x1)]) (st' := [.int (gF d 11 1), .int x1]) rfl ?_
    by_cases hc_2 : x1 < (gF d 11 1)
    · have h := Eq.mp (if_pos hc_2) h
      refine st_icmp (t := 12) (b := false) rfl (decide_eq_false (Int32.not_le.mpr hc_2)) rfl ?_
      refine st_go 4 (pc' := 18) (lo' := [(0, .ref 11), (1, .int x1)]) (st' := [.int 6001, .int x1]) rfl ?_
      by_cases hc_3 : x1 < 6001
      · have h := Eq.mp (if_pos hc_3) h
        refine st_icmp (t := 21) (b := false) rfl (decide_eq_false (Int32.not_le.mpr hc_3)) rfl ?_
        refine st_go 3 (pc' := 26) (lo' := [(0, .ref 11), (1, .int x1)]) (st' := [.int x1, .ref 12]) rfl ?_
        obtain ⟨hj_4, h⟩ := h
        refine st_baldC (o := 12) rfl rfl hj_4 rfl (fun y_5 hy_y_5 => ?_)
        have h := h y_5 hy_y_5
        refine st_go 3 (pc' := 35) (lo' := [(0, .ref 11), (1, .int x1)]) (st' := [.int (y_5 &&& 255)]) rfl ?_
        exact st_retI rfl rfl (hQ _ _ h)
      · have h := Eq.mp (if_neg hc_3) h
        refine st_icmp (t := 34) (b := true) rfl (decide_eq_true (Int32.not_lt.mp hc_3)) rfl ?_
        refine st_go 1 (pc' := 35) (lo' := [(0, .ref 11), (1, .int x1)]) (st' := [.int (-1)]) rfl ?_
        exact st_retI rfl rfl (hQ _ _ h)
    · have h := Eq.mp (if_neg hc_2) h
      refine st_icmp (t := 34) (b := true) rfl (decide_eq_true (Int32.not_lt.mp hc_2)) rfl ?_
      refine st_go 1 (pc' := 35) (lo' := [(0, .ref 11), (1, .int x1)]) (st' := [.int (-1)]) rfl ?_
      exact st_retI rfl rfl (hQ _ _ h)
set_option maxRecDepth 100000 in
def Text_become_src_dra_6 (Q : vmD → Prop) : Nat → Int32 → vmD → Prop
  | 0, _, _ => False
  | n + 1, x2, d => Text_length_dra d fun r_3 d_2 =>
  if x2 < r_3 then
  (Text_at_dra x2 d_2 fun r_6 d_5 =>
  Text_add_src r_6 d_5 fun d_7 =>
  bnd (x2 + 1) fun x2_8 =>
  (Text_become_src_dra_6 Q n) x2_8 d_7)
  else
  (Q d_2)
set_option maxRecDepth 100000 in
set_option maxHeartbeats 4000000 in
theorem tText_become_src_dra_6 {L : Nat} {e : vmD} {Qo : Option Value → vmW → Prop} {Q : vmD → Prop} (hQ : ∀ d, Q d → Qo none (wC L d e)) : ∀ (n : Nat) (x2 : Int32) (d : vmD), Text_become_src_dra_6 Q n x2 d → vmWp 194 6 [(0, .ref 9), (1, .ref 11), (2, .int x2)] [] (wC L d e) Qo := by
  intro n
  induction n with
  | zero => intro x2 d h; exact h.elim
  | succ n ih =>
    intro x2 d h
    unfold Text_become_src_dra_6 at h
    refine st_go 2 (pc' := 8) (lo' := [(0, .ref 9), (1, .ref 11), (2, .int x2)]) (st' := [.ref 11, .int x2]) rfl ?_
    refine st_calli (k' := 190) (as := [.ref 11]) (rest := [.int x2]) (lo' := [(0, .ref 11)]) (wf := fun d => wC L d e) rfl rfl rfl ?_
    refine tText_length_dra (fun r_3 d_2 h => ⟨r_3, d_2, rfl, rfl, ?_⟩) d h
    by_cases hc_4 : x2 < r_3
    · have h := Eq.mp (if_pos hc_4) h
      refine st_icmp (t := 14) (b := false) rfl (decide_eq_false (Int32.not_le.mpr hc_4)) rfl ?_
      refine st_go 3 (pc' := 17) (lo' := [(0, .ref 9), (1, .ref 11), (2, .int x2)]) (st' := [.int x2, .ref 11, .ref 9]) rfl ?_
      refine st_calli (k' := 191) (as := [.ref 11, .int x2]) (rest := [.ref 9]) (lo' := [(0, .ref 11), (1, .int x2)]) (wf := fun d => wC L d e) rfl rfl rfl ?_
      refine tText_at_dra (fun r_6 d_5 h => ⟨r_6, d_5, rfl, rfl, ?_⟩) x2 d_2 h
      refine st_callv (k' := 192) (as := [.ref 9, .int r_6]) (rest := []) (lo' := [(0, .ref 9), (1, .int r_6)]) (wf := fun d => wC L d e) rfl rfl rfl ?_
      refine tText_add_src (fun d_7 h => ⟨d_7, rfl, rfl, ?_⟩) r_6 d_5 h
      refine st_go 1 (pc' := 26) (lo' := [(2, .int (x2 + 1)), (0, .ref 9), (1, .ref 11)]) (st' := []) rfl ?_
      refine st_locI (fun x2_8 hy_x2_8 => ?_)
      have h := h x2_8 hy_x2_8
      refine st_go 1 (pc' := 6) (lo' := [(2, .int x2_8), (0, .ref 9), (1, .ref 11)]) (st' := []) rfl ?_
      refine vmWp.sub (lo' := [(0, .ref 9), (1, .ref 11), (2, .int x2_8)]) ⟨rfl, rfl, rfl, trivial⟩ ?_
      exact ih x2_8 d_7 h
    · have h := Eq.mp (if_neg hc_4) h
      refine st_icmp (t := 29) (b := true) rfl (decide_eq_true (Int32.not_lt.mp hc_4)) rfl ?_
      exact st_retV rfl rfl (hQ _ h)
set_option maxRecDepth 100000 in
def Text_become_src_dra (d : vmD) (Q : vmD → Prop) : Prop :=
  Text_empty_src d fun d_1 =>
  ∃ m6, Text_become_src_dra_6 Q m6 0 d_1
set_option maxRecDepth 100000 in
set_option maxHeartbeats 4000000 in
theorem tText_become_src_dra {L : Nat} {e : vmD} {Qo : Option Value → vmW → Prop} {Q : vmD → Prop} (hQ : ∀ d, Q d → Qo none (wC L d e)) (d : vmD) (h : Text_become_src_dra d Q) : vmWp 194 0 [(0, .ref 9), (1, .ref 11)] [] (wC L d e) Qo := by
  unfold Text_become_src_dra at h
  refine st_go 1 (pc' := 1) (lo' := [(0, .ref 9), (1, .ref 11)]) (st' := [.ref 9]) rfl ?_
  refine st_callv (k' := 189) (as := [.ref 9]) (rest := []) (lo' := [(0, .ref 9)]) (wf := fun d => wC L d e) rfl rfl rfl ?_
  refine tText_empty_src (fun d_1 h => ⟨d_1, rfl, rfl, ?_⟩) d h
  refine st_go 2 (pc' := 6) (lo' := [(2, .int 0), (0, .ref 9), (1, .ref 11)]) (st' := []) rfl ?_
  obtain ⟨m6, h⟩ := h
  refine vmWp.sub (lo' := [(0, .ref 9), (1, .ref 11), (2, .int 0)]) ⟨rfl, rfl, rfl, trivial⟩ ?_
  exact tText_become_src_dra_6 hQ m6 0 d_1 h
set_option maxRecDepth 100000 in
def OF_source_76 (Q : Int32 → vmD → Prop) : Nat → Int32 → Int32 → Int32 → vmD → Prop
  | 0, _, _, _, _ => False
  | n + 1, x2, x3, x4, d => if x4 < x2 then
  (Instruction_look x3 d fun d_11 =>
  Instruction_appendTo_dra d_11 fun d_12 =>
  Text_add_dra 10 d_12 fun d_13 =>
  Instruction_size d_13 fun r_15 d_14 =>
  bnd ((x3 + r_15) &&& 65535) fun x3_16 =>
  bnd (x4 + 1) fun x4_17 =>
  (OF_source_76 Q n) x2 x3_16 x4_17 d_14)
  else
  (Text_length_dra d fun r_19 d_18 =>
  if (6000 : Int32) < r_19 then
  (Q (-4) d_18)
  else
  (Text_become_src_dra d_18 fun d_21 =>
  Text_length_src d_21 fun r_23 d_22 =>
  Q r_23 d_22))
set_option maxRecDepth 100000 in
set_option maxHeartbeats 4000000 in
theorem tOF_source_76 {L : Nat} {e : vmD} {Qo : Option Value → vmW → Prop} {Q : Int32 → vmD → Prop} (hQ : ∀ r d, Q r d → Qo (some (.int r)) (wC L d e)) : ∀ (n : Nat) (x2 : Int32) (x3 : Int32) (x4 : Int32) (d : vmD), OF_source_76 Q n x2 x3 x4 d → vmWp 229 76 [(0, .ref 0), (2, .int x2), (3, .int x3), (4, .int x4)] [] (wC L d e) Qo := by
  intro n
  induction n with
  | zero => intro x2 x3 x4 d h; exact h.elim
  | succ n ih =>
    intro x2 x3 x4 d h
    unfold OF_source_76 at h
    refine st_go 2 (pc' := 79) (lo' := [(0, .ref 0), (2, .int x2), (3, .int x3), (4, .int x4)]) (st' := [.int x2, .int x4]) rfl ?_
    by_cases hc_10 : x4 < x2
    · have h := Eq.mp (if_pos hc_10) h
      refine st_icmp (t := 82) (b := false) rfl (decide_eq_false (Int32.not_le.mpr hc_10)) rfl ?_
      refine st_go 3 (pc' := 87) (lo' := [(0, .ref 0), (2, .int x2), (3, .int x3), (4, .int x4)]) (st' := [.int x3, .ref 19]) rfl ?_
      refine st_callv (k' := 58) (as := [.ref 19, .int x3]) (rest := []) (lo' := [(0, .ref 19), (1, .int x3)]) (wf := fun d => wC L d e) rfl rfl rfl ?_
      refine tInstruction_look (fun d_11 h => ⟨d_11, rfl, rfl, ?_⟩) x3 d h
      refine st_go 4 (pc' := 98) (lo' := [(0, .ref 0), (2, .int x2), (3, .int x3), (4, .int x4)]) (st' := [.ref 11, .ref 19]) rfl ?_
      refine st_callv (k' := 70) (as := [.ref 19, .ref 11]) (rest := []) (lo' := [(0, .ref 19), (1, .ref 11)]) (wf := fun d => wC L d e) rfl rfl rfl ?_
      refine tInstruction_appendTo_dra (fun d_12 h => ⟨d_12, rfl, rfl, ?_⟩) d_11 h
      refine st_go 3 (pc' := 107) (lo' := [(0, .ref 0), (2, .int x2), (3, .int x3), (4, .int x4)]) (st' := [.int 10, .ref 11]) rfl ?_
      refine st_callv (k' := 192) (as := [.ref 11, .int 10]) (rest := []) (lo' := [(0, .ref 11), (1, .int 10)]) (wf := fun d => wC L d e) rfl rfl rfl ?_
      refine tText_add_dra (fun d_13 h => ⟨d_13, rfl, rfl, ?_⟩) 10 d_12 h
      refine st_go 3 (pc' := 115) (lo' := [(0, .ref 0), (2, .int x2), (3, .int x3), (4, .int x4)]) (st' := [.ref 19, .int x3]) rfl ?_
      refine st_calli (k' := 69) (as := [.ref 19]) (rest := [.int x3]) (lo' := [(0, .ref 19)]) (wf := fun d => wC L d e) rfl rfl rfl ?_
      refine tInstruction_size (fun r_15 d_14 h => ⟨r_15, d_14, rfl, rfl, ?_⟩) d_13 h
      refine st_go 4 (pc' := 123) (lo' := [(3, .int ((x3 + r_15) &&& 65535)), (0, .ref 0), (2, .int x2), (4, .int x4)]) (st' := []) rfl ?_
      refine st_locI (fun x3_16 hy_x3_16 => ?_)
      have h := h x3_16 hy_x3_16
      refine st_go 1 (pc' := 126) (lo' := [(4, .int (x4 + 1)), (3, .int x3_16), (0, .ref 0), (2, .int x2)]) (st' := []) rfl ?_
      refine st_locI (fun x4_17 hy_x4_17 => ?_)
      have h := h x4_17 hy_x4_17
      refine st_go 1 (pc' := 76) (lo' := [(4, .int x4_17), (3, .int x3_16), (0, .ref 0), (2, .int x2)]) (st' := []) rfl ?_
      refine vmWp.sub (lo' := [(0, .ref 0), (2, .int x2), (3, .int x3_16), (4, .int x4_17)]) ⟨rfl, rfl, rfl, rfl, trivial⟩ ?_
      exact ih x2 x3_16 x4_17 d_14 h
    · have h := Eq.mp (if_neg hc_10) h
      refine st_icmp (t := 129) (b := true) rfl (decide_eq_true (Int32.not_lt.mp hc_10)) rfl ?_
      refine st_go 2 (pc' := 133) (lo' := [(0, .ref 0), (2, .int x2), (3, .int x3), (4, .int x4)]) (st' := [.ref 11]) rfl ?_
      refine st_calli (k' := 190) (as := [.ref 11]) (rest := []) (lo' := [(0, .ref 11)]) (wf := fun d => wC L d e) rfl rfl rfl ?_
      refine tText_length_dra (fun r_19 d_18 h => ⟨r_19, d_18, rfl, rfl, ?_⟩) d h
      refine st_go 1 (pc' := 139) (lo' := [(0, .ref 0), (2, .int x2), (3, .int x3), (4, .int x4)]) (st' := [.int 6000, .int r_19]) rfl ?_
      by_cases hc_20 : (6000 : Int32) < r_19
      · have h := Eq.mp (if_pos hc_20) h
        refine st_icmp (t := 142) (b := false) rfl (decide_eq_false (Int32.not_le.mpr hc_20)) rfl ?_
        refine st_go 1 (pc' := 144) (lo' := [(0, .ref 0), (2, .int x2), (3, .int x3), (4, .int x4)]) (st' := [.int (-4)]) rfl ?_
        exact st_retI rfl rfl (hQ _ _ h)
      · have h := Eq.mp (if_neg hc_20) h
        refine st_icmp (t := 145) (b := true) rfl (decide_eq_true (Int32.not_lt.mp hc_20)) rfl ?_
        refine st_go 4 (pc' := 153) (lo' := [(0, .ref 0), (2, .int x2), (3, .int x3), (4, .int x4)]) (st' := [.ref 11, .ref 9]) rfl ?_
        refine st_callv (k' := 194) (as := [.ref 9, .ref 11]) (rest := []) (lo' := [(0, .ref 9), (1, .ref 11)]) (wf := fun d => wC L d e) rfl rfl rfl ?_
        refine tText_become_src_dra (fun d_21 h => ⟨d_21, rfl, rfl, ?_⟩) d_18 h
        refine st_go 2 (pc' := 160) (lo' := [(0, .ref 0), (2, .int x2), (3, .int x3), (4, .int x4)]) (st' := [.ref 9]) rfl ?_
        refine st_calli (k' := 190) (as := [.ref 9]) (rest := []) (lo' := [(0, .ref 9)]) (wf := fun d => wC L d e) rfl rfl rfl ?_
        refine tText_length_src (fun r_23 d_22 h => ⟨r_23, d_22, rfl, rfl, ?_⟩) d_21 h
        exact st_retI rfl rfl (hQ _ _ h)
set_option maxRecDepth 100000 in
def OF_source (x1 : Int32) (x2 : Int32) (d : vmD) (Q : Int32 → vmD → Prop) : Prop :=
  if x1 < 0 then
  (Q (-2) d)
  else
  (if x1 < 65536 then
  (if x2 < 1 then
  (Q (-2) d)
  else
  (if (300 : Int32) < x2 then
  (Q (-2) d)
  else
  (Text_empty_dra d fun d_5 =>
  Names_append_dra 99 d_5 fun d_6 =>
  Text_add_dra 32 d_6 fun d_7 =>
  Text_addNumber_dra x1 d_7 fun d_8 =>
  Text_add_dra 10 d_8 fun d_9 =>
  ∃ m76, OF_source_76 Q m76 x2 x1 0 d_9)))
  else
  (Q (-2) d))
set_option maxRecDepth 100000 in
set_option maxHeartbeats 4000000 in
theorem tOF_source {L : Nat} {e : vmD} {Qo : Option Value → vmW → Prop} {Q : Int32 → vmD → Prop} (hQ : ∀ r d, Q r d → Qo (some (.int r)) (wC L d e)) (x1 : Int32) (x2 : Int32) (d : vmD) (h : OF_source x1 x2 d Q) : vmWp 229 0 [(0, .ref 0), (1, .int x1), (2, .int x2)] [] (wC L d e) Qo := by
  unfold OF_source at h
  refine st_go 1 (pc' := 1) (lo' := [(0, .ref 0), (1, .int x1), (2, .int x2)]) (st' := [.int x1]) rfl ?_
  by_cases hc_1 : x1 < 0
  · have h := Eq.mp (if_pos hc_1) h
    refine st_if (t := 22) (b := true) rfl (decide_eq_true hc_1) rfl ?_
    refine st_go 1 (pc' := 24) (lo' := [(0, .ref 0), (1, .int x1), (2, .int x2)]) (st' := [.int (-2)]) rfl ?_
    exact st_retI rfl rfl (hQ _ _ h)
  · have h := Eq.mp (if_neg hc_1) h
    refine st_if (t := 4) (b := false) rfl (decide_eq_false hc_1) rfl ?_
    refine st_go 2 (pc' := 7) (lo' := [(0, .ref 0), (1, .int x1), (2, .int x2)]) (st' := [.int 65536, .int x1]) rfl ?_
    by_cases hc_2 : x1 < 65536
    · have h := Eq.mp (if_pos hc_2) h
      refine st_icmp (t := 10) (b := false) rfl (decide_eq_false (Int32.not_le.mpr hc_2)) rfl ?_
      refine st_go 2 (pc' := 12) (lo' := [(0, .ref 0), (1, .int x1), (2, .int x2)]) (st' := [.int 1, .int x2]) rfl ?_
      by_cases hc_3 : x2 < 1
      · have h := Eq.mp (if_pos hc_3) h
        refine st_icmp (t := 22) (b := true) rfl (decide_eq_true hc_3) rfl ?_
        refine st_go 1 (pc' := 24) (lo' := [(0, .ref 0), (1, .int x1), (2, .int x2)]) (st' := [.int (-2)]) rfl ?_
        exact st_retI rfl rfl (hQ _ _ h)
      · have h := Eq.mp (if_neg hc_3) h
        refine st_icmp (t := 15) (b := false) rfl (decide_eq_false hc_3) rfl ?_
        refine st_go 2 (pc' := 19) (lo' := [(0, .ref 0), (1, .int x1), (2, .int x2)]) (st' := [.int 300, .int x2]) rfl ?_
        by_cases hc_4 : (300 : Int32) < x2
        · have h := Eq.mp (if_pos hc_4) h
          refine st_icmp (t := 22) (b := false) rfl (decide_eq_false (Int32.not_le.mpr hc_4)) rfl ?_
          refine st_go 1 (pc' := 24) (lo' := [(0, .ref 0), (1, .int x1), (2, .int x2)]) (st' := [.int (-2)]) rfl ?_
          exact st_retI rfl rfl (hQ _ _ h)
        · have h := Eq.mp (if_neg hc_4) h
          refine st_icmp (t := 25) (b := true) rfl (decide_eq_true (Int32.not_lt.mp hc_4)) rfl ?_
          refine st_go 2 (pc' := 29) (lo' := [(0, .ref 0), (1, .int x1), (2, .int x2)]) (st' := [.ref 11]) rfl ?_
          refine st_callv (k' := 189) (as := [.ref 11]) (rest := []) (lo' := [(0, .ref 11)]) (wf := fun d => wC L d e) rfl rfl rfl ?_
          refine tText_empty_dra (fun d_5 h => ⟨d_5, rfl, rfl, ?_⟩) d h
          refine st_go 5 (pc' := 42) (lo' := [(0, .ref 0), (1, .int x1), (2, .int x2)]) (st' := [.int 99, .ref 11, .ref 3]) rfl ?_
          refine st_callv (k' := 138) (as := [.ref 3, .ref 11, .int 99]) (rest := []) (lo' := [(0, .ref 3), (1, .ref 11), (2, .int 99)]) (wf := fun d => wC L d e) rfl rfl rfl ?_
          refine tNames_append_dra (fun d_6 h => ⟨d_6, rfl, rfl, ?_⟩) 99 d_5 h
          refine st_go 3 (pc' := 51) (lo' := [(0, .ref 0), (1, .int x1), (2, .int x2)]) (st' := [.int 32, .ref 11]) rfl ?_
          refine st_callv (k' := 192) (as := [.ref 11, .int 32]) (rest := []) (lo' := [(0, .ref 11), (1, .int 32)]) (wf := fun d => wC L d e) rfl rfl rfl ?_
          refine tText_add_dra (fun d_7 h => ⟨d_7, rfl, rfl, ?_⟩) 32 d_6 h
          refine st_go 3 (pc' := 59) (lo' := [(0, .ref 0), (1, .int x1), (2, .int x2)]) (st' := [.int x1, .ref 11]) rfl ?_
          refine st_callv (k' := 193) (as := [.ref 11, .int x1]) (rest := []) (lo' := [(0, .ref 11), (1, .int x1)]) (wf := fun d => wC L d e) rfl rfl rfl ?_
          refine tText_addNumber_dra (fun d_8 h => ⟨d_8, rfl, rfl, ?_⟩) x1 d_7 h
          refine st_go 3 (pc' := 68) (lo' := [(0, .ref 0), (1, .int x1), (2, .int x2)]) (st' := [.int 10, .ref 11]) rfl ?_
          refine st_callv (k' := 192) (as := [.ref 11, .int 10]) (rest := []) (lo' := [(0, .ref 11), (1, .int 10)]) (wf := fun d => wC L d e) rfl rfl rfl ?_
          refine tText_add_dra (fun d_9 h => ⟨d_9, rfl, rfl, ?_⟩) 10 d_8 h
          refine st_go 4 (pc' := 76) (lo' := [(4, .int 0), (3, .int x1), (0, .ref 0), (1, .int x1), (2, .int x2)]) (st' := []) rfl ?_
          obtain ⟨m76, h⟩ := h
          refine vmWp.sub (lo' := [(0, .ref 0), (2, .int x2), (3, .int x1), (4, .int 0)]) ⟨rfl, rfl, rfl, rfl, trivial⟩ ?_
          exact tOF_source_76 hQ m76 x2 x1 0 d_9 h
    · have h := Eq.mp (if_neg hc_2) h
      refine st_icmp (t := 22) (b := true) rfl (decide_eq_true (Int32.not_lt.mp hc_2)) rfl ?_
      refine st_go 1 (pc' := 24) (lo' := [(0, .ref 0), (1, .int x1), (2, .int x2)]) (st' := [.int (-2)]) rfl ?_
      exact st_retI rfl rfl (hQ _ _ h)
set_option maxRecDepth 100000 in
def OF_sourceAt (x1 : Int32) (d : vmD) (Q : Int32 → vmD → Prop) : Prop :=
  Text_at_src x1 d fun r_2 d_1 =>
  Q r_2 d_1
set_option maxRecDepth 100000 in
set_option maxHeartbeats 4000000 in
theorem tOF_sourceAt {L : Nat} {e : vmD} {Qo : Option Value → vmW → Prop} {Q : Int32 → vmD → Prop} (hQ : ∀ r d, Q r d → Qo (some (.int r)) (wC L d e)) (x1 : Int32) (d : vmD) (h : OF_sourceAt x1 d Q) : vmWp 230 0 [(0, .ref 0), (1, .int x1)] [] (wC L d e) Qo := by
  unfold OF_sourceAt at h
  refine st_go 3 (pc' := 5) (lo' := [(0, .ref 0), (1, .int x1)]) (st' := [.int x1, .ref 9]) rfl ?_
  refine st_calli (k' := 191) (as := [.ref 9, .int x1]) (rest := []) (lo' := [(0, .ref 9), (1, .int x1)]) (wf := fun d => wC L d e) rfl rfl rfl ?_
  refine tText_at_src (fun r_2 d_1 h => ⟨r_2, d_1, rfl, rfl, ?_⟩) x1 d h
  exact st_retI rfl rfl (hQ _ _ h)
set_option maxRecDepth 100000 in
def OF_octet (x1 : Int32) (d : vmD) (Q : Int32 → vmD → Prop) : Prop :=
  if x1 < 0 then
  (Q (-1) d)
  else
  (if x1 < 65536 then
  (Memory_at x1 d fun r_4 d_3 =>
  Q r_4 d_3)
  else
  (Q (-1) d))
set_option maxRecDepth 100000 in
set_option maxHeartbeats 4000000 in
theorem tOF_octet {L : Nat} {e : vmD} {Qo : Option Value → vmW → Prop} {Q : Int32 → vmD → Prop} (hQ : ∀ r d, Q r d → Qo (some (.int r)) (wC L d e)) (x1 : Int32) (d : vmD) (h : OF_octet x1 d Q) : vmWp 231 0 [(0, .ref 0), (1, .int x1)] [] (wC L d e) Qo := by
  unfold OF_octet at h
  refine st_go 1 (pc' := 1) (lo' := [(0, .ref 0), (1, .int x1)]) (st' := [.int x1]) rfl ?_
  by_cases hc_1 : x1 < 0
  · have h := Eq.mp (if_pos hc_1) h
    refine st_if (t := 10) (b := true) rfl (decide_eq_true hc_1) rfl ?_
    refine st_go 1 (pc' := 11) (lo' := [(0, .ref 0), (1, .int x1)]) (st' := [.int (-1)]) rfl ?_
    exact st_retI rfl rfl (hQ _ _ h)
  · have h := Eq.mp (if_neg hc_1) h
    refine st_if (t := 4) (b := false) rfl (decide_eq_false hc_1) rfl ?_
    refine st_go 2 (pc' := 7) (lo' := [(0, .ref 0), (1, .int x1)]) (st' := [.int 65536, .int x1]) rfl ?_
    by_cases hc_2 : x1 < 65536
    · have h := Eq.mp (if_pos hc_2) h
      refine st_icmp (t := 12) (b := true) rfl (decide_eq_true hc_2) rfl ?_
      refine st_go 3 (pc' := 17) (lo' := [(0, .ref 0), (1, .int x1)]) (st' := [.int x1, .ref 1]) rfl ?_
      refine st_calli (k' := 128) (as := [.ref 1, .int x1]) (rest := []) (lo' := [(0, .ref 1), (1, .int x1)]) (wf := fun d => wC L d e) rfl rfl rfl ?_
      refine tMemory_at (fun r_4 d_3 h => ⟨r_4, d_3, rfl, rfl, ?_⟩) x1 d h
      exact st_retI rfl rfl (hQ _ _ h)
    · have h := Eq.mp (if_neg hc_2) h
      refine st_icmp (t := 10) (b := false) rfl (decide_eq_false hc_2) rfl ?_
      refine st_go 1 (pc' := 11) (lo' := [(0, .ref 0), (1, .int x1)]) (st' := [.int (-1)]) rfl ?_
      exact st_retI rfl rfl (hQ _ _ h)
set_option maxRecDepth 100000 in
def OF_put (x1 : Int32) (x2 : Int32) (d : vmD) (Q : Int32 → vmD → Prop) : Prop :=
  if x1 < 0 then
  (Q (-1) d)
  else
  (if x1 < 65536 then
  (if x2 < 0 then
  (Q (-2) d)
  else
  (if (255 : Int32) < x2 then
  (Q (-2) d)
  else
  (Memory_at x1 d fun r_6 d_5 =>
  Memory_store x1 x2 d_5 fun d_7 =>
  Q r_6 d_7)))
  else
  (Q (-1) d))
set_option maxRecDepth 100000 in
set_option maxHeartbeats 4000000 in
theorem tOF_put {L : Nat} {e : vmD} {Qo : Option Value → vmW → Prop} {Q : Int32 → vmD → Prop} (hQ : ∀ r d, Q r d → Qo (some (.int r)) (wC L d e)) (x1 : Int32) (x2 : Int32) (d : vmD) (h : OF_put x1 x2 d Q) : vmWp 232 0 [(0, .ref 0), (1, .int x1), (2, .int x2)] [] (wC L d e) Qo := by
  unfold OF_put at h
  refine st_go 1 (pc' := 1) (lo' := [(0, .ref 0), (1, .int x1), (2, .int x2)]) (st' := [.int x1]) rfl ?_
  by_cases hc_1 : x1 < 0
  · have h := Eq.mp (if_pos hc_1) h
    refine st_if (t := 10) (b := true) rfl (decide_eq_true hc_1) rfl ?_
    refine st_go 1 (pc' := 11) (lo' := [(0, .ref 0), (1, .int x1), (2, .int x2)]) (st' := [.int (-1)]) rfl ?_
    exact st_retI rfl rfl (hQ _ _ h)
  · have h := Eq.mp (if_neg hc_1) h
    refine st_if (t := 4) (b := false) rfl (decide_eq_false hc_1) rfl ?_
    refine st_go 2 (pc' := 7) (lo' := [(0, .ref 0), (1, .int x1), (2, .int x2)]) (st' := [.int 65536, .int x1]) rfl ?_
    by_cases hc_2 : x1 < 65536
    · have h := Eq.mp (if_pos hc_2) h
      refine st_icmp (t := 12) (b := true) rfl (decide_eq_true hc_2) rfl ?_
      refine st_go 1 (pc' := 13) (lo' := [(0, .ref 0), (1, .int x1), (2, .int x2)]) (st' := [.int x2]) rfl ?_
      by_cases hc_3 : x2 < 0
      · have h := Eq.mp (if_pos hc_3) h
        refine st_if (t := 23) (b := true) rfl (decide_eq_true hc_3) rfl ?_
        refine st_go 1 (pc' := 25) (lo' := [(0, .ref 0), (1, .int x1), (2, .int x2)]) (st' := [.int (-2)]) rfl ?_
        exact st_retI rfl rfl (hQ _ _ h)
      · have h := Eq.mp (if_neg hc_3) h
        refine st_if (t := 16) (b := false) rfl (decide_eq_false hc_3) rfl ?_
        refine st_go 2 (pc' := 20) (lo' := [(0, .ref 0), (1, .int x1), (2, .int x2)]) (st' := [.int 255, .int x2]) rfl ?_
        by_cases hc_4 : (255 : Int32) < x2
        · have h := Eq.mp (if_pos hc_4) h
          refine st_icmp (t := 23) (b := false) rfl (decide_eq_false (Int32.not_le.mpr hc_4)) rfl ?_
          refine st_go 1 (pc' := 25) (lo' := [(0, .ref 0), (1, .int x1), (2, .int x2)]) (st' := [.int (-2)]) rfl ?_
          exact st_retI rfl rfl (hQ _ _ h)
        · have h := Eq.mp (if_neg hc_4) h
          refine st_icmp (t := 26) (b := true) rfl (decide_eq_true (Int32.not_lt.mp hc_4)) rfl ?_
          refine st_go 3 (pc' := 31) (lo' := [(0, .ref 0), (1, .int x1), (2, .int x2)]) (st' := [.int x1, .ref 1]) rfl ?_
          refine st_calli (k' := 128) (as := [.ref 1, .int x1]) (rest := []) (lo' := [(0, .ref 1), (1, .int x1)]) (wf := fun d => wC L d e) rfl rfl rfl ?_
          refine tMemory_at (fun r_6 d_5 h => ⟨r_6, d_5, rfl, rfl, ?_⟩) x1 d h
          refine st_go 5 (pc' := 41) (lo' := [(3, .int r_6), (0, .ref 0), (1, .int x1), (2, .int x2)]) (st' := [.int x2, .int x1, .ref 1]) rfl ?_
          refine st_callv (k' := 130) (as := [.ref 1, .int x1, .int x2]) (rest := []) (lo' := [(0, .ref 1), (1, .int x1), (2, .int x2)]) (wf := fun d => wC L d e) rfl rfl rfl ?_
          refine tMemory_store (fun d_7 h => ⟨d_7, rfl, rfl, ?_⟩) x1 x2 d_5 h
          refine st_go 1 (pc' := 45) (lo' := [(3, .int r_6), (0, .ref 0), (1, .int x1), (2, .int x2)]) (st' := [.int r_6]) rfl ?_
          exact st_retI rfl rfl (hQ _ _ h)
    · have h := Eq.mp (if_neg hc_2) h
      refine st_icmp (t := 10) (b := false) rfl (decide_eq_false hc_2) rfl ?_
      refine st_go 1 (pc' := 11) (lo' := [(0, .ref 0), (1, .int x1), (2, .int x2)]) (st' := [.int (-1)]) rfl ?_
      exact st_retI rfl rfl (hQ _ _ h)
set_option maxRecDepth 100000 in
def Machine_registerAt (x1 : Int32) (d : vmD) (Q : Int32 → vmD → Prop) : Prop :=
  if x1 < 0 then
  (Q (-1) d)
  else
  (if x1 < 17 then
  (ixOk x1 17 ∧
  bnd (gA d 39 x1.toNatClampNeg) fun y_4 =>
  Q y_4 d)
  else
  (Q (-1) d))
set_option maxRecDepth 100000 in
set_option maxHeartbeats 4000000 in
theorem tMachine_registerAt {L : Nat} {e : vmD} {Qo : Option Value → vmW → Prop} {Q : Int32 → vmD → Prop} (hQ : ∀ r d, Q r d → Qo (some (.int r)) (wC L d e)) (x1 : Int32) (d : vmD) (h : Machine_registerAt x1 d Q) : vmWp 75 0 [(0, .ref 38), (1, .int x1)] [] (wC L d e) Qo := by
  unfold Machine_registerAt at h
  refine st_go 1 (pc' := 1) (lo' := [(0, .ref 38), (1, .int x1)]) (st' := [.int x1]) rfl ?_
  by_cases hc_1 : x1 < 0
  · have h := Eq.mp (if_pos hc_1) h
    refine st_if (t := 19) (b := true) rfl (decide_eq_true hc_1) rfl ?_
    refine st_go 1 (pc' := 20) (lo' := [(0, .ref 38), (1, .int x1)]) (st' := [.int (-1)]) rfl ?_
    exact st_retI rfl rfl (hQ _ _ h)
  · have h := Eq.mp (if_neg hc_1) h
    refine st_if (t := 4) (b := false) rfl (decide_eq_false hc_1) rfl ?_
    refine st_go 2 (pc' := 7) (lo' := [(0, .ref 38), (1, .int x1)]) (st' := [.int 17, .int x1]) rfl ?_
    by_cases hc_2 : x1 < 17
    · have h := Eq.mp (if_pos hc_2) h
      refine st_icmp (t := 10) (b := false) rfl (decide_eq_false (Int32.not_le.mpr hc_2)) rfl ?_
      refine st_go 3 (pc' := 15) (lo' := [(0, .ref 38), (1, .int x1)]) (st' := [.int x1, .ref 39]) rfl ?_
      obtain ⟨hj_3, h⟩ := h
      refine st_ialdC (o := 39) rfl rfl hj_3 rfl (fun y_4 hy_y_4 => ?_)
      have h := h y_4 hy_y_4
      refine st_go 1 (pc' := 20) (lo' := [(0, .ref 38), (1, .int x1)]) (st' := [.int y_4]) rfl ?_
      exact st_retI rfl rfl (hQ _ _ h)
    · have h := Eq.mp (if_neg hc_2) h
      refine st_icmp (t := 19) (b := true) rfl (decide_eq_true (Int32.not_lt.mp hc_2)) rfl ?_
      refine st_go 1 (pc' := 20) (lo' := [(0, .ref 38), (1, .int x1)]) (st' := [.int (-1)]) rfl ?_
      exact st_retI rfl rfl (hQ _ _ h)
set_option maxRecDepth 100000 in
def OF_register (x1 : Int32) (d : vmD) (Q : Int32 → vmD → Prop) : Prop :=
  Machine_registerAt x1 d fun r_2 d_1 =>
  Q r_2 d_1
set_option maxRecDepth 100000 in
set_option maxHeartbeats 4000000 in
theorem tOF_register {L : Nat} {e : vmD} {Qo : Option Value → vmW → Prop} {Q : Int32 → vmD → Prop} (hQ : ∀ r d, Q r d → Qo (some (.int r)) (wC L d e)) (x1 : Int32) (d : vmD) (h : OF_register x1 d Q) : vmWp 233 0 [(0, .ref 0), (1, .int x1)] [] (wC L d e) Qo := by
  unfold OF_register at h
  refine st_go 3 (pc' := 5) (lo' := [(0, .ref 0), (1, .int x1)]) (st' := [.int x1, .ref 38]) rfl ?_
  refine st_calli (k' := 75) (as := [.ref 38, .int x1]) (rest := []) (lo' := [(0, .ref 38), (1, .int x1)]) (wf := fun d => wC L d e) rfl rfl rfl ?_
  refine tMachine_registerAt (fun r_2 d_1 h => ⟨r_2, d_1, rfl, rfl, ?_⟩) x1 d h
  exact st_retI rfl rfl (hQ _ _ h)
set_option maxRecDepth 100000 in
def Machine_mostOf (x0 : Int32) (d : vmD) (Q : Int32 → vmD → Prop) : Prop :=
  if x0 < 0 then
  (Q (-1) d)
  else
  (if x0 < 17 then
  (if x0 < 12 then
  (Q 65535 d)
  else
  (if x0 < 14 then
  (Q 255 d)
  else
  (if x0 = 16 then
  (Q 2 d)
  else
  (Q 1 d))))
  else
  (Q (-1) d))
set_option maxRecDepth 100000 in
set_option maxHeartbeats 4000000 in
theorem tMachine_mostOf {L : Nat} {e : vmD} {Qo : Option Value → vmW → Prop} {Q : Int32 → vmD → Prop} (hQ : ∀ r d, Q r d → Qo (some (.int r)) (wC L d e)) (x0 : Int32) (d : vmD) (h : Machine_mostOf x0 d Q) : vmWp 76 0 [(0, .int x0)] [] (wC L d e) Qo := by
  unfold Machine_mostOf at h
  refine st_go 1 (pc' := 1) (lo' := [(0, .int x0)]) (st' := [.int x0]) rfl ?_
  by_cases hc_1 : x0 < 0
  · have h := Eq.mp (if_pos hc_1) h
    refine st_if (t := 10) (b := true) rfl (decide_eq_true hc_1) rfl ?_
    refine st_go 1 (pc' := 11) (lo' := [(0, .int x0)]) (st' := [.int (-1)]) rfl ?_
    exact st_retI rfl rfl (hQ _ _ h)
  · have h := Eq.mp (if_neg hc_1) h
    refine st_if (t := 4) (b := false) rfl (decide_eq_false hc_1) rfl ?_
    refine st_go 2 (pc' := 7) (lo' := [(0, .int x0)]) (st' := [.int 17, .int x0]) rfl ?_
    by_cases hc_2 : x0 < 17
    · have h := Eq.mp (if_pos hc_2) h
      refine st_icmp (t := 12) (b := true) rfl (decide_eq_true hc_2) rfl ?_
      refine st_go 2 (pc' := 15) (lo' := [(0, .int x0)]) (st' := [.int 12, .int x0]) rfl ?_
      by_cases hc_3 : x0 < 12
      · have h := Eq.mp (if_pos hc_3) h
        refine st_icmp (t := 18) (b := false) rfl (decide_eq_false (Int32.not_le.mpr hc_3)) rfl ?_
        refine st_go 1 (pc' := 20) (lo' := [(0, .int x0)]) (st' := [.int 65535]) rfl ?_
        exact st_retI rfl rfl (hQ _ _ h)
      · have h := Eq.mp (if_neg hc_3) h
        refine st_icmp (t := 21) (b := true) rfl (decide_eq_true (Int32.not_lt.mp hc_3)) rfl ?_
        refine st_go 2 (pc' := 24) (lo' := [(0, .int x0)]) (st' := [.int 14, .int x0]) rfl ?_
        by_cases hc_4 : x0 < 14
        · have h := Eq.mp (if_pos hc_4) h
          refine st_icmp (t := 27) (b := false) rfl (decide_eq_false (Int32.not_le.mpr hc_4)) rfl ?_
          refine st_go 1 (pc' := 30) (lo' := [(0, .int x0)]) (st' := [.int 255]) rfl ?_
          exact st_retI rfl rfl (hQ _ _ h)
        · have h := Eq.mp (if_neg hc_4) h
          refine st_icmp (t := 31) (b := true) rfl (decide_eq_true (Int32.not_lt.mp hc_4)) rfl ?_
          refine st_go 2 (pc' := 34) (lo' := [(0, .int x0)]) (st' := [.int 16, .int x0]) rfl ?_
          by_cases hc_5 : x0 = 16
          · have h := Eq.mp (if_pos hc_5) h
            refine st_icmp (t := 37) (b := false) rfl (decide_eq_false (fun z => z hc_5)) rfl ?_
            refine st_go 2 (pc' := 42) (lo' := [(0, .int x0)]) (st' := [.int 2]) rfl ?_
            exact st_retI rfl rfl (hQ _ _ h)
          · have h := Eq.mp (if_neg hc_5) h
            refine st_icmp (t := 41) (b := true) rfl (decide_eq_true hc_5) rfl ?_
            refine st_go 1 (pc' := 42) (lo' := [(0, .int x0)]) (st' := [.int 1]) rfl ?_
            exact st_retI rfl rfl (hQ _ _ h)
    · have h := Eq.mp (if_neg hc_2) h
      refine st_icmp (t := 10) (b := false) rfl (decide_eq_false hc_2) rfl ?_
      refine st_go 1 (pc' := 11) (lo' := [(0, .int x0)]) (st' := [.int (-1)]) rfl ?_
      exact st_retI rfl rfl (hQ _ _ h)
set_option maxRecDepth 100000 in
def Machine_changeRegister (x1 : Int32) (x2 : Int32) (d : vmD) (Q : Int32 → vmD → Prop) : Prop :=
  Machine_registerAt x1 d fun r_2 d_1 =>
  if x1 < 0 then
  (Q r_2 d_1)
  else
  (if x1 < 17 then
  (ixOk x1 17 ∧
  bnd (sA d_1 39 x1.toNatClampNeg x2) fun d_6 =>
  Q r_2 d_6)
  else
  (Q r_2 d_1))
set_option maxRecDepth 100000 in
set_option maxHeartbeats 4000000 in
theorem tMachine_changeRegister {L : Nat} {e : vmD} {Qo : Option Value → vmW → Prop} {Q : Int32 → vmD → Prop} (hQ : ∀ r d, Q r d → Qo (some (.int r)) (wC L d e)) (x1 : Int32) (x2 : Int32) (d : vmD) (h : Machine_changeRegister x1 x2 d Q) : vmWp 77 0 [(0, .ref 38), (1, .int x1), (2, .int x2)] [] (wC L d e) Qo := by
  unfold Machine_changeRegister at h
  refine st_go 2 (pc' := 2) (lo' := [(0, .ref 38), (1, .int x1), (2, .int x2)]) (st' := [.int x1, .ref 38]) rfl ?_
  refine st_calli (k' := 75) (as := [.ref 38, .int x1]) (rest := []) (lo' := [(0, .ref 38), (1, .int x1)]) (wf := fun d => wC L d e) rfl rfl rfl ?_
  refine tMachine_registerAt (fun r_2 d_1 h => ⟨r_2, d_1, rfl, rfl, ?_⟩) x1 d h
  refine st_go 2 (pc' := 7) (lo' := [(3, .int r_2), (0, .ref 38), (1, .int x1), (2, .int x2)]) (st' := [.int x1]) rfl ?_
  by_cases hc_3 : x1 < 0
  · have h := Eq.mp (if_pos hc_3) h
    refine st_if (t := 23) (b := true) rfl (decide_eq_true hc_3) rfl ?_
    refine st_go 1 (pc' := 24) (lo' := [(3, .int r_2), (0, .ref 38), (1, .int x1), (2, .int x2)]) (st' := [.int r_2]) rfl ?_
    exact st_retI rfl rfl (hQ _ _ h)
  · have h := Eq.mp (if_neg hc_3) h
    refine st_if (t := 10) (b := false) rfl (decide_eq_false hc_3) rfl ?_
    refine st_go 2 (pc' := 13) (lo' := [(3, .int r_2), (0, .ref 38), (1, .int x1), (2, .int x2)]) (st' := [.int 17, .int x1]) rfl ?_
    by_cases hc_4 : x1 < 17
    · have h := Eq.mp (if_pos hc_4) h
      refine st_icmp (t := 16) (b := false) rfl (decide_eq_false (Int32.not_le.mpr hc_4)) rfl ?_
      refine st_go 4 (pc' := 22) (lo' := [(3, .int r_2), (0, .ref 38), (1, .int x1), (2, .int x2)]) (st' := [.int x2, .int x1, .ref 39]) rfl ?_
      obtain ⟨hj_5, h⟩ := h
      refine st_iastC (o := 39) rfl rfl hj_5 rfl (fun d_6 hy_d_6 => ?_)
      have h := h d_6 hy_d_6
      refine st_go 1 (pc' := 24) (lo' := [(3, .int r_2), (0, .ref 38), (1, .int x1), (2, .int x2)]) (st' := [.int r_2]) rfl ?_
      exact st_retI rfl rfl (hQ _ _ h)
    · have h := Eq.mp (if_neg hc_4) h
      refine st_icmp (t := 23) (b := true) rfl (decide_eq_true (Int32.not_lt.mp hc_4)) rfl ?_
      refine st_go 1 (pc' := 24) (lo' := [(3, .int r_2), (0, .ref 38), (1, .int x1), (2, .int x2)]) (st' := [.int r_2]) rfl ?_
      exact st_retI rfl rfl (hQ _ _ h)
set_option maxRecDepth 100000 in
def OF_set (x1 : Int32) (x2 : Int32) (d : vmD) (Q : Int32 → vmD → Prop) : Prop :=
  Machine_mostOf x1 d fun r_2 d_1 =>
  if r_2 < 0 then
  (Q (-1) d_1)
  else
  (if x2 < 0 then
  (Q (-2) d_1)
  else
  (if r_2 < x2 then
  (Q (-2) d_1)
  else
  (Machine_changeRegister x1 x2 d_1 fun r_7 d_6 =>
  Q r_7 d_6)))
set_option maxRecDepth 100000 in
set_option maxHeartbeats 4000000 in
theorem tOF_set {L : Nat} {e : vmD} {Qo : Option Value → vmW → Prop} {Q : Int32 → vmD → Prop} (hQ : ∀ r d, Q r d → Qo (some (.int r)) (wC L d e)) (x1 : Int32) (x2 : Int32) (d : vmD) (h : OF_set x1 x2 d Q) : vmWp 234 0 [(0, .ref 0), (1, .int x1), (2, .int x2)] [] (wC L d e) Qo := by
  unfold OF_set at h
  refine st_go 1 (pc' := 1) (lo' := [(0, .ref 0), (1, .int x1), (2, .int x2)]) (st' := [.int x1]) rfl ?_
  refine st_calli (k' := 76) (as := [.int x1]) (rest := []) (lo' := [(0, .int x1)]) (wf := fun d => wC L d e) rfl rfl rfl ?_
  refine tMachine_mostOf (fun r_2 d_1 h => ⟨r_2, d_1, rfl, rfl, ?_⟩) x1 d h
  refine st_go 2 (pc' := 6) (lo' := [(3, .int r_2), (0, .ref 0), (1, .int x1), (2, .int x2)]) (st' := [.int r_2]) rfl ?_
  by_cases hc_3 : r_2 < 0
  · have h := Eq.mp (if_pos hc_3) h
    refine st_if (t := 9) (b := false) rfl (decide_eq_false (Int32.not_le.mpr hc_3)) rfl ?_
    refine st_go 1 (pc' := 10) (lo' := [(3, .int r_2), (0, .ref 0), (1, .int x1), (2, .int x2)]) (st' := [.int (-1)]) rfl ?_
    exact st_retI rfl rfl (hQ _ _ h)
  · have h := Eq.mp (if_neg hc_3) h
    refine st_if (t := 11) (b := true) rfl (decide_eq_true (Int32.not_lt.mp hc_3)) rfl ?_
    refine st_go 1 (pc' := 12) (lo' := [(3, .int r_2), (0, .ref 0), (1, .int x1), (2, .int x2)]) (st' := [.int x2]) rfl ?_
    by_cases hc_4 : x2 < 0
    · have h := Eq.mp (if_pos hc_4) h
      refine st_if (t := 20) (b := true) rfl (decide_eq_true hc_4) rfl ?_
      refine st_go 1 (pc' := 22) (lo' := [(3, .int r_2), (0, .ref 0), (1, .int x1), (2, .int x2)]) (st' := [.int (-2)]) rfl ?_
      exact st_retI rfl rfl (hQ _ _ h)
    · have h := Eq.mp (if_neg hc_4) h
      refine st_if (t := 15) (b := false) rfl (decide_eq_false hc_4) rfl ?_
      refine st_go 2 (pc' := 17) (lo' := [(3, .int r_2), (0, .ref 0), (1, .int x1), (2, .int x2)]) (st' := [.int r_2, .int x2]) rfl ?_
      by_cases hc_5 : r_2 < x2
      · have h := Eq.mp (if_pos hc_5) h
        refine st_icmp (t := 20) (b := false) rfl (decide_eq_false (Int32.not_le.mpr hc_5)) rfl ?_
        refine st_go 1 (pc' := 22) (lo' := [(3, .int r_2), (0, .ref 0), (1, .int x1), (2, .int x2)]) (st' := [.int (-2)]) rfl ?_
        exact st_retI rfl rfl (hQ _ _ h)
      · have h := Eq.mp (if_neg hc_5) h
        refine st_icmp (t := 23) (b := true) rfl (decide_eq_true (Int32.not_lt.mp hc_5)) rfl ?_
        refine st_go 4 (pc' := 29) (lo' := [(3, .int r_2), (0, .ref 0), (1, .int x1), (2, .int x2)]) (st' := [.int x2, .int x1, .ref 38]) rfl ?_
        refine st_calli (k' := 77) (as := [.ref 38, .int x1, .int x2]) (rest := []) (lo' := [(0, .ref 38), (1, .int x1), (2, .int x2)]) (wf := fun d => wC L d e) rfl rfl rfl ?_
        refine tMachine_changeRegister (fun r_7 d_6 h => ⟨r_7, d_6, rfl, rfl, ?_⟩) x1 x2 d_1 h
        exact st_retI rfl rfl (hQ _ _ h)
set_option maxRecDepth 100000 in
def Machine_changeInput (x1 : Int32) (x2 : Int32) (d : vmD) (Q : Int32 → vmD → Prop) : Prop :=
  ixOk (x1 &&& 255) 256 ∧
  bnd (gA d 40 (x1 &&& 255).toNatClampNeg) fun y_2 =>
  ixOk (x1 &&& 255) 256 ∧
  bnd (sA d 40 (x1 &&& 255).toNatClampNeg x2) fun d_4 =>
  Q y_2 d_4
set_option maxRecDepth 100000 in
set_option maxHeartbeats 4000000 in
theorem tMachine_changeInput {L : Nat} {e : vmD} {Qo : Option Value → vmW → Prop} {Q : Int32 → vmD → Prop} (hQ : ∀ r d, Q r d → Qo (some (.int r)) (wC L d e)) (x1 : Int32) (x2 : Int32) (d : vmD) (h : Machine_changeInput x1 x2 d Q) : vmWp 78 0 [(0, .ref 38), (1, .int x1), (2, .int x2)] [] (wC L d e) Qo := by
  unfold Machine_changeInput at h
  refine st_go 5 (pc' := 9) (lo' := [(0, .ref 38), (1, .int x1), (2, .int x2)]) (st' := [.int (x1 &&& 255), .ref 40]) rfl ?_
  obtain ⟨hj_1, h⟩ := h
  refine st_ialdC (o := 40) rfl rfl hj_1 rfl (fun y_2 hy_y_2 => ?_)
  have h := h y_2 hy_y_2
  refine st_go 7 (pc' := 21) (lo' := [(3, .int y_2), (0, .ref 38), (1, .int x1), (2, .int x2)]) (st' := [.int x2, .int (x1 &&& 255), .ref 40]) rfl ?_
  obtain ⟨hj_3, h⟩ := h
  refine st_iastC (o := 40) rfl rfl hj_3 rfl (fun d_4 hy_d_4 => ?_)
  have h := h d_4 hy_d_4
  refine st_go 1 (pc' := 23) (lo' := [(3, .int y_2), (0, .ref 38), (1, .int x1), (2, .int x2)]) (st' := [.int y_2]) rfl ?_
  exact st_retI rfl rfl (hQ _ _ h)
set_option maxRecDepth 100000 in
def OF_port (x1 : Int32) (x2 : Int32) (d : vmD) (Q : Int32 → vmD → Prop) : Prop :=
  if x1 < 0 then
  (Q (-1) d)
  else
  (if (255 : Int32) < x1 then
  (Q (-1) d)
  else
  (if x2 < 0 then
  (Q (-2) d)
  else
  (if (255 : Int32) < x2 then
  (Q (-2) d)
  else
  (Machine_changeInput x1 x2 d fun r_6 d_5 =>
  Q r_6 d_5))))
set_option maxRecDepth 100000 in
set_option maxHeartbeats 4000000 in
theorem tOF_port {L : Nat} {e : vmD} {Qo : Option Value → vmW → Prop} {Q : Int32 → vmD → Prop} (hQ : ∀ r d, Q r d → Qo (some (.int r)) (wC L d e)) (x1 : Int32) (x2 : Int32) (d : vmD) (h : OF_port x1 x2 d Q) : vmWp 235 0 [(0, .ref 0), (1, .int x1), (2, .int x2)] [] (wC L d e) Qo := by
  unfold OF_port at h
  refine st_go 1 (pc' := 1) (lo' := [(0, .ref 0), (1, .int x1), (2, .int x2)]) (st' := [.int x1]) rfl ?_
  by_cases hc_1 : x1 < 0
  · have h := Eq.mp (if_pos hc_1) h
    refine st_if (t := 11) (b := true) rfl (decide_eq_true hc_1) rfl ?_
    refine st_go 1 (pc' := 12) (lo' := [(0, .ref 0), (1, .int x1), (2, .int x2)]) (st' := [.int (-1)]) rfl ?_
    exact st_retI rfl rfl (hQ _ _ h)
  · have h := Eq.mp (if_neg hc_1) h
    refine st_if (t := 4) (b := false) rfl (decide_eq_false hc_1) rfl ?_
    refine st_go 2 (pc' := 8) (lo' := [(0, .ref 0), (1, .int x1), (2, .int x2)]) (st' := [.int 255, .int x1]) rfl ?_
    by_cases hc_2 : (255 : Int32) < x1
    · have h := Eq.mp (if_pos hc_2) h
      refine st_icmp (t := 11) (b := false) rfl (decide_eq_false (Int32.not_le.mpr hc_2)) rfl ?_
      refine st_go 1 (pc' := 12) (lo' := [(0, .ref 0), (1, .int x1), (2, .int x2)]) (st' := [.int (-1)]) rfl ?_
      exact st_retI rfl rfl (hQ _ _ h)
    · have h := Eq.mp (if_neg hc_2) h
      refine st_icmp (t := 13) (b := true) rfl (decide_eq_true (Int32.not_lt.mp hc_2)) rfl ?_
      refine st_go 1 (pc' := 14) (lo' := [(0, .ref 0), (1, .int x1), (2, .int x2)]) (st' := [.int x2]) rfl ?_
      by_cases hc_3 : x2 < 0
      · have h := Eq.mp (if_pos hc_3) h
        refine st_if (t := 24) (b := true) rfl (decide_eq_true hc_3) rfl ?_
        refine st_go 1 (pc' := 26) (lo' := [(0, .ref 0), (1, .int x1), (2, .int x2)]) (st' := [.int (-2)]) rfl ?_
        exact st_retI rfl rfl (hQ _ _ h)
      · have h := Eq.mp (if_neg hc_3) h
        refine st_if (t := 17) (b := false) rfl (decide_eq_false hc_3) rfl ?_
        refine st_go 2 (pc' := 21) (lo' := [(0, .ref 0), (1, .int x1), (2, .int x2)]) (st' := [.int 255, .int x2]) rfl ?_
        by_cases hc_4 : (255 : Int32) < x2
        · have h := Eq.mp (if_pos hc_4) h
          refine st_icmp (t := 24) (b := false) rfl (decide_eq_false (Int32.not_le.mpr hc_4)) rfl ?_
          refine st_go 1 (pc' := 26) (lo' := [(0, .ref 0), (1, .int x1), (2, .int x2)]) (st' := [.int (-2)]) rfl ?_
          exact st_retI rfl rfl (hQ _ _ h)
        · have h := Eq.mp (if_neg hc_4) h
          refine st_icmp (t := 27) (b := true) rfl (decide_eq_true (Int32.not_lt.mp hc_4)) rfl ?_
          refine st_go 4 (pc' := 33) (lo' := [(0, .ref 0), (1, .int x1), (2, .int x2)]) (st' := [.int x2, .int x1, .ref 38]) rfl ?_
          refine st_calli (k' := 78) (as := [.ref 38, .int x1, .int x2]) (rest := []) (lo' := [(0, .ref 38), (1, .int x1), (2, .int x2)]) (wf := fun d => wC L d e) rfl rfl rfl ?_
          refine tMachine_changeInput (fun r_6 d_5 h => ⟨r_6, d_5, rfl, rfl, ?_⟩) x1 x2 d h
          exact st_retI rfl rfl (hQ _ _ h)
set_option maxRecDepth 100000 in
def Machine_outputAt (x1 : Int32) (d : vmD) (Q : Int32 → vmD → Prop) : Prop :=
  if x1 < 0 then
  (Q (-1) d)
  else
  (if x1 < 256 then
  (ixOk x1 256 ∧
  bnd (gA d 41 x1.toNatClampNeg) fun y_4 =>
  Q y_4 d)
  else
  (Q (-1) d))
set_option maxRecDepth 100000 in
set_option maxHeartbeats 4000000 in
theorem tMachine_outputAt {L : Nat} {e : vmD} {Qo : Option Value → vmW → Prop} {Q : Int32 → vmD → Prop} (hQ : ∀ r d, Q r d → Qo (some (.int r)) (wC L d e)) (x1 : Int32) (d : vmD) (h : Machine_outputAt x1 d Q) : vmWp 79 0 [(0, .ref 38), (1, .int x1)] [] (wC L d e) Qo := by
  unfold Machine_outputAt at h
  refine st_go 1 (pc' := 1) (lo' := [(0, .ref 38), (1, .int x1)]) (st' := [.int x1]) rfl ?_
  by_cases hc_1 : x1 < 0
  · have h := Eq.mp (if_pos hc_1) h
    refine st_if (t := 20) (b := true) rfl (decide_eq_true hc_1) rfl ?_
    refine st_go 1 (pc' := 21) (lo' := [(0, .ref 38), (1, .int x1)]) (st' := [.int (-1)]) rfl ?_
    exact st_retI rfl rfl (hQ _ _ h)
  · have h := Eq.mp (if_neg hc_1) h
    refine st_if (t := 4) (b := false) rfl (decide_eq_false hc_1) rfl ?_
    refine st_go 2 (pc' := 8) (lo' := [(0, .ref 38), (1, .int x1)]) (st' := [.int 256, .int x1]) rfl ?_
    by_cases hc_2 : x1 < 256
    · have h := Eq.mp (if_pos hc_2) h
      refine st_icmp (t := 11) (b := false) rfl (decide_eq_false (Int32.not_le.mpr hc_2)) rfl ?_
      refine st_go 3 (pc' := 16) (lo' := [(0, .ref 38), (1, .int x1)]) (st' := [.int x1, .ref 41]) rfl ?_
      obtain ⟨hj_3, h⟩ := h
      refine st_ialdC (o := 41) rfl rfl hj_3 rfl (fun y_4 hy_y_4 => ?_)
      have h := h y_4 hy_y_4
      refine st_go 1 (pc' := 21) (lo' := [(0, .ref 38), (1, .int x1)]) (st' := [.int y_4]) rfl ?_
      exact st_retI rfl rfl (hQ _ _ h)
    · have h := Eq.mp (if_neg hc_2) h
      refine st_icmp (t := 20) (b := true) rfl (decide_eq_true (Int32.not_lt.mp hc_2)) rfl ?_
      refine st_go 1 (pc' := 21) (lo' := [(0, .ref 38), (1, .int x1)]) (st' := [.int (-1)]) rfl ?_
      exact st_retI rfl rfl (hQ _ _ h)
set_option maxRecDepth 100000 in
def OF_out (x1 : Int32) (d : vmD) (Q : Int32 → vmD → Prop) : Prop :=
  Machine_outputAt x1 d fun r_2 d_1 =>
  Q r_2 d_1
set_option maxRecDepth 100000 in
set_option maxHeartbeats 4000000 in
theorem tOF_out {L : Nat} {e : vmD} {Qo : Option Value → vmW → Prop} {Q : Int32 → vmD → Prop} (hQ : ∀ r d, Q r d → Qo (some (.int r)) (wC L d e)) (x1 : Int32) (d : vmD) (h : OF_out x1 d Q) : vmWp 236 0 [(0, .ref 0), (1, .int x1)] [] (wC L d e) Qo := by
  unfold OF_out at h
  refine st_go 3 (pc' := 5) (lo' := [(0, .ref 0), (1, .int x1)]) (st' := [.int x1, .ref 38]) rfl ?_
  refine st_calli (k' := 79) (as := [.ref 38, .int x1]) (rest := []) (lo' := [(0, .ref 38), (1, .int x1)]) (wf := fun d => wC L d e) rfl rfl rfl ?_
  refine tMachine_outputAt (fun r_2 d_1 h => ⟨r_2, d_1, rfl, rfl, ?_⟩) x1 d h
  exact st_retI rfl rfl (hQ _ _ h)
set_option maxRecDepth 100000 in
def Machine_await_15 (x1 : Int32) (x2 : Int32) (s0 : Int32) (d : vmD) (Q : Int32 → vmD → Prop) : Prop :=
  if x1 = 0 then
  (bnd (sF d 38 6 1) fun d_3 =>
  bnd (sF d_3 38 8 x2) fun d_4 =>
  (s0 = 0 ∨ s0 = 1) ∧ Q s0 d_4)
  else
  (bnd (sF d 38 7 1) fun d_5 =>
  (s0 = 0 ∨ s0 = 1) ∧ Q s0 d_5)
set_option maxRecDepth 100000 in
set_option maxHeartbeats 4000000 in
theorem tMachine_await_15 {L : Nat} {e : vmD} {Qo : Option Value → vmW → Prop} {Q : Int32 → vmD → Prop} (hQ : ∀ r d, Q r d → Qo (some (.int r)) (wC L d e)) (x1 : Int32) (x2 : Int32) (s0 : Int32) (d : vmD) (h : Machine_await_15 x1 x2 s0 d Q) : vmWp 81 15 [(0, .ref 38), (1, .int x1), (2, .int x2)] [.int s0] (wC L d e) Qo := by
  unfold Machine_await_15 at h
  refine st_go 2 (pc' := 17) (lo' := [(3, .int s0), (0, .ref 38), (1, .int x1), (2, .int x2)]) (st' := [.int x1]) rfl ?_
  by_cases hc_2 : x1 = 0
  · have h := Eq.mp (if_pos hc_2) h
    refine st_if (t := 28) (b := true) rfl (decide_eq_true hc_2) rfl ?_
    refine st_go 2 (pc' := 30) (lo' := [(3, .int s0), (0, .ref 38), (1, .int x1), (2, .int x2)]) (st' := [.int 1, .ref 38]) rfl ?_
    refine st_putZC (o := 38) (f := 6) rfl rfl rfl rfl (Or.inr rfl) rfl (fun d_3 hy_d_3 => ?_)
    have h := h d_3 hy_d_3
    refine st_go 2 (pc' := 35) (lo' := [(3, .int s0), (0, .ref 38), (1, .int x1), (2, .int x2)]) (st' := [.int x2, .ref 38]) rfl ?_
    refine st_putIC (o := 38) (f := 8) rfl rfl rfl rfl rfl (fun d_4 hy_d_4 => ?_)
    have h := h d_4 hy_d_4
    refine st_go 1 (pc' := 39) (lo' := [(3, .int s0), (0, .ref 38), (1, .int x1), (2, .int x2)]) (st' := [.int s0]) rfl ?_
    exact st_retZ rfl rfl h.1 (hQ _ _ h.2)
  · have h := Eq.mp (if_neg hc_2) h
    refine st_if (t := 20) (b := false) rfl (decide_eq_false hc_2) rfl ?_
    refine st_go 2 (pc' := 22) (lo' := [(3, .int s0), (0, .ref 38), (1, .int x1), (2, .int x2)]) (st' := [.int 1, .ref 38]) rfl ?_
    refine st_putZC (o := 38) (f := 7) rfl rfl rfl rfl (Or.inr rfl) rfl (fun d_5 hy_d_5 => ?_)
    have h := h d_5 hy_d_5
    refine st_go 2 (pc' := 39) (lo' := [(3, .int s0), (0, .ref 38), (1, .int x1), (2, .int x2)]) (st' := [.int s0]) rfl ?_
    exact st_retZ rfl rfl h.1 (hQ _ _ h.2)
set_option maxRecDepth 100000 in
def Machine_await (x1 : Int32) (x2 : Int32) (d : vmD) (Q : Int32 → vmD → Prop) : Prop :=
  if x1 = 0 then
  (Machine_await_15 x1 x2 (gF d 38 6) d Q)
  else
  (Machine_await_15 x1 x2 (gF d 38 7) d Q)
set_option maxRecDepth 100000 in
set_option maxHeartbeats 4000000 in
theorem tMachine_await {L : Nat} {e : vmD} {Qo : Option Value → vmW → Prop} {Q : Int32 → vmD → Prop} (hQ : ∀ r d, Q r d → Qo (some (.int r)) (wC L d e)) (x1 : Int32) (x2 : Int32) (d : vmD) (h : Machine_await x1 x2 d Q) : vmWp 81 0 [(0, .ref 38), (1, .int x1), (2, .int x2)] [] (wC L d e) Qo := by
  unfold Machine_await at h
  refine st_go 1 (pc' := 1) (lo' := [(0, .ref 38), (1, .int x1), (2, .int x2)]) (st' := [.int x1]) rfl ?_
  by_cases hc_1 : x1 = 0
  · have h := Eq.mp (if_pos hc_1) h
    refine st_if (t := 11) (b := true) rfl (decide_eq_true hc_1) rfl ?_
    refine st_go 2 (pc' := 15) (lo' := [(0, .ref 38), (1, .int x1), (2, .int x2)]) (st' := [.int (gF d 38 6)]) rfl ?_
    refine vmWp.sub (lo' := [(0, .ref 38), (1, .int x1), (2, .int x2)]) ⟨rfl, rfl, rfl, trivial⟩ ?_
    exact tMachine_await_15 hQ x1 x2 (gF d 38 6) d h
  · have h := Eq.mp (if_neg hc_1) h
    refine st_if (t := 4) (b := false) rfl (decide_eq_false hc_1) rfl ?_
    refine st_go 3 (pc' := 15) (lo' := [(0, .ref 38), (1, .int x1), (2, .int x2)]) (st' := [.int (gF d 38 7)]) rfl ?_
    refine vmWp.sub (lo' := [(0, .ref 38), (1, .int x1), (2, .int x2)]) ⟨rfl, rfl, rfl, trivial⟩ ?_
    exact tMachine_await_15 hQ x1 x2 (gF d 38 7) d h
set_option maxRecDepth 100000 in
def OF_request_37 (x2 : Int32) (s0 : Int32) (d : vmD) (Q : Int32 → vmD → Prop) : Prop :=
  Machine_await s0 x2 d fun r_7 d_6 =>
  if r_7 = 0 then
  (Q 1 d_6)
  else
  (Q 0 d_6)
set_option maxRecDepth 100000 in
set_option maxHeartbeats 4000000 in
theorem tOF_request_37 {L : Nat} {e : vmD} {Qo : Option Value → vmW → Prop} {Q : Int32 → vmD → Prop} (hQ : ∀ r d, Q r d → Qo (some (.int r)) (wC L d e)) (x2 : Int32) (s0 : Int32) (d : vmD) (h : OF_request_37 x2 s0 d Q) : vmWp 237 37 [(2, .int x2)] [.int s0, .ref 38] (wC L d e) Qo := by
  unfold OF_request_37 at h
  refine st_go 1 (pc' := 38) (lo' := [(2, .int x2)]) (st' := [.int x2, .int s0, .ref 38]) rfl ?_
  refine st_calli (k' := 81) (as := [.ref 38, .int s0, .int x2]) (rest := []) (lo' := [(0, .ref 38), (1, .int s0), (2, .int x2)]) (wf := fun d => wC L d e) rfl rfl rfl ?_
  refine tMachine_await (fun r_7 d_6 h => ⟨r_7, d_6, rfl, rfl, ?_⟩) s0 x2 d h
  by_cases hc_8 : r_7 = 0
  · have h := Eq.mp (if_pos hc_8) h
    refine st_if (t := 48) (b := true) rfl (decide_eq_true hc_8) rfl ?_
    refine st_go 1 (pc' := 49) (lo' := [(2, .int x2)]) (st' := [.int 1]) rfl ?_
    exact st_retI rfl rfl (hQ _ _ h)
  · have h := Eq.mp (if_neg hc_8) h
    refine st_if (t := 44) (b := false) rfl (decide_eq_false hc_8) rfl ?_
    refine st_go 2 (pc' := 49) (lo' := [(2, .int x2)]) (st' := [.int 0]) rfl ?_
    exact st_retI rfl rfl (hQ _ _ h)
set_option maxRecDepth 100000 in
def OF_request (x1 : Int32) (x2 : Int32) (d : vmD) (Q : Int32 → vmD → Prop) : Prop :=
  if x1 < 0 then
  (Q (-2) d)
  else
  (if (1 : Int32) < x1 then
  (Q (-2) d)
  else
  (if x2 < 0 then
  (Q (-2) d)
  else
  (if (255 : Int32) < x2 then
  (Q (-2) d)
  else
  (if x1 = 1 then
  (OF_request_37 x2 1 d Q)
  else
  (OF_request_37 x2 0 d Q)))))
set_option maxRecDepth 100000 in
set_option maxHeartbeats 4000000 in
theorem tOF_request {L : Nat} {e : vmD} {Qo : Option Value → vmW → Prop} {Q : Int32 → vmD → Prop} (hQ : ∀ r d, Q r d → Qo (some (.int r)) (wC L d e)) (x1 : Int32) (x2 : Int32) (d : vmD) (h : OF_request x1 x2 d Q) : vmWp 237 0 [(0, .ref 0), (1, .int x1), (2, .int x2)] [] (wC L d e) Qo := by
  unfold OF_request at h
  refine st_go 1 (pc' := 1) (lo' := [(0, .ref 0), (1, .int x1), (2, .int x2)]) (st' := [.int x1]) rfl ?_
  by_cases hc_1 : x1 < 0
  · have h := Eq.mp (if_pos hc_1) h
    refine st_if (t := 20) (b := true) rfl (decide_eq_true hc_1) rfl ?_
    refine st_go 1 (pc' := 22) (lo' := [(0, .ref 0), (1, .int x1), (2, .int x2)]) (st' := [.int (-2)]) rfl ?_
    exact st_retI rfl rfl (hQ _ _ h)
  · have h := Eq.mp (if_neg hc_1) h
    refine st_if (t := 4) (b := false) rfl (decide_eq_false hc_1) rfl ?_
    refine st_go 2 (pc' := 6) (lo' := [(0, .ref 0), (1, .int x1), (2, .int x2)]) (st' := [.int 1, .int x1]) rfl ?_
    by_cases hc_2 : (1 : Int32) < x1
    · have h := Eq.mp (if_pos hc_2) h
      refine st_icmp (t := 20) (b := true) rfl (decide_eq_true hc_2) rfl ?_
      refine st_go 1 (pc' := 22) (lo' := [(0, .ref 0), (1, .int x1), (2, .int x2)]) (st' := [.int (-2)]) rfl ?_
      exact st_retI rfl rfl (hQ _ _ h)
    · have h := Eq.mp (if_neg hc_2) h
      refine st_icmp (t := 9) (b := false) rfl (decide_eq_false hc_2) rfl ?_
      refine st_go 1 (pc' := 10) (lo' := [(0, .ref 0), (1, .int x1), (2, .int x2)]) (st' := [.int x2]) rfl ?_
      by_cases hc_3 : x2 < 0
      · have h := Eq.mp (if_pos hc_3) h
        refine st_if (t := 20) (b := true) rfl (decide_eq_true hc_3) rfl ?_
        refine st_go 1 (pc' := 22) (lo' := [(0, .ref 0), (1, .int x1), (2, .int x2)]) (st' := [.int (-2)]) rfl ?_
        exact st_retI rfl rfl (hQ _ _ h)
      · have h := Eq.mp (if_neg hc_3) h
        refine st_if (t := 13) (b := false) rfl (decide_eq_false hc_3) rfl ?_
        refine st_go 2 (pc' := 17) (lo' := [(0, .ref 0), (1, .int x1), (2, .int x2)]) (st' := [.int 255, .int x2]) rfl ?_
        by_cases hc_4 : (255 : Int32) < x2
        · have h := Eq.mp (if_pos hc_4) h
          refine st_icmp (t := 20) (b := false) rfl (decide_eq_false (Int32.not_le.mpr hc_4)) rfl ?_
          refine st_go 1 (pc' := 22) (lo' := [(0, .ref 0), (1, .int x1), (2, .int x2)]) (st' := [.int (-2)]) rfl ?_
          exact st_retI rfl rfl (hQ _ _ h)
        · have h := Eq.mp (if_neg hc_4) h
          refine st_icmp (t := 23) (b := true) rfl (decide_eq_true (Int32.not_lt.mp hc_4)) rfl ?_
          refine st_go 4 (pc' := 29) (lo' := [(0, .ref 0), (1, .int x1), (2, .int x2)]) (st' := [.int 1, .int x1, .ref 38]) rfl ?_
          by_cases hc_5 : x1 = 1
          · have h := Eq.mp (if_pos hc_5) h
            refine st_icmp (t := 32) (b := false) rfl (decide_eq_false (fun z => z hc_5)) rfl ?_
            refine st_go 2 (pc' := 37) (lo' := [(0, .ref 0), (1, .int x1), (2, .int x2)]) (st' := [.int 1, .ref 38]) rfl ?_
            refine vmWp.sub (lo' := [(2, .int x2)]) ⟨rfl, trivial⟩ ?_
            exact tOF_request_37 hQ x2 1 d h
          · have h := Eq.mp (if_neg hc_5) h
            refine st_icmp (t := 36) (b := true) rfl (decide_eq_true hc_5) rfl ?_
            refine st_go 1 (pc' := 37) (lo' := [(0, .ref 0), (1, .int x1), (2, .int x2)]) (st' := [.int 0, .ref 38]) rfl ?_
            refine vmWp.sub (lo' := [(2, .int x2)]) ⟨rfl, trivial⟩ ?_
            exact tOF_request_37 hQ x2 0 d h
set_option maxRecDepth 100000 in
def Instruction_exists (d : vmD) (Q : Int32 → vmD → Prop) : Prop :=
  ((gF d 19 3) = 0 ∨ (gF d 19 3) = 1) ∧ Q (gF d 19 3) d
set_option maxRecDepth 100000 in
set_option maxHeartbeats 4000000 in
theorem tInstruction_exists {L : Nat} {e : vmD} {Qo : Option Value → vmW → Prop} {Q : Int32 → vmD → Prop} (hQ : ∀ r d, Q r d → Qo (some (.int r)) (wC L d e)) (d : vmD) (h : Instruction_exists d Q) : vmWp 63 0 [(0, .ref 19)] [] (wC L d e) Qo := by
  unfold Instruction_exists at h
  refine st_go 2 (pc' := 4) (lo' := [(0, .ref 19)]) (st' := [.int (gF d 19 3)]) rfl ?_
  exact st_retZ rfl rfl h.1 (hQ _ _ h.2)
set_option maxRecDepth 100000 in
def Instruction_word (d : vmD) (Q : Int32 → vmD → Prop) : Prop :=
  Q (gF d 19 5) d
set_option maxRecDepth 100000 in
set_option maxHeartbeats 4000000 in
theorem tInstruction_word {L : Nat} {e : vmD} {Qo : Option Value → vmW → Prop} {Q : Int32 → vmD → Prop} (hQ : ∀ r d, Q r d → Qo (some (.int r)) (wC L d e)) (d : vmD) (h : Instruction_word d Q) : vmWp 64 0 [(0, .ref 19)] [] (wC L d e) Qo := by
  unfold Instruction_word at h
  refine st_go 2 (pc' := 4) (lo' := [(0, .ref 19)]) (st' := [.int (gF d 19 5)]) rfl ?_
  exact st_retI rfl rfl (hQ _ _ h)
set_option maxRecDepth 100000 in
def Machine_refresh_63 (s0 : Int32) (s1 : Int32) (s2 : Int32) (s3 : Int32) (d : vmD) (Q : vmD → Prop) : Prop :=
  ixOk s3 17 ∧
  bnd (sA d 39 s3.toNatClampNeg (s2 ||| ((s1 + s0) &&& 127))) fun d_5 =>
  Q d_5
set_option maxRecDepth 100000 in
set_option maxHeartbeats 4000000 in
theorem tMachine_refresh_63 {L : Nat} {e : vmD} {Qo : Option Value → vmW → Prop} {Q : vmD → Prop} (hQ : ∀ d, Q d → Qo none (wC L d e)) (s0 : Int32) (s1 : Int32) (s2 : Int32) (s3 : Int32) (d : vmD) (h : Machine_refresh_63 s0 s1 s2 s3 d Q) : vmWp 83 63 [] [.int s0, .int s1, .int s2, .int s3, .ref 39] (wC L d e) Qo := by
  unfold Machine_refresh_63 at h
  refine st_go 4 (pc' := 68) (lo' := []) (st' := [.int (s2 ||| ((s1 + s0) &&& 127)), .int s3, .ref 39]) rfl ?_
  obtain ⟨hj_4, h⟩ := h
  refine st_iastC (o := 39) rfl rfl hj_4 rfl (fun d_5 hy_d_5 => ?_)
  have h := h d_5 hy_d_5
  exact st_retV rfl rfl (hQ _ h)
set_option maxRecDepth 100000 in
def Machine_refresh_33 (s0 : Int32) (d : vmD) (Q : vmD → Prop) : Prop :=
  bnd (gA d 39 13) fun y_2 =>
  if s0 = 0 then
  (Machine_refresh_63 1 y_2 (y_2 &&& 128) 13 d Q)
  else
  (Machine_refresh_63 2 y_2 (y_2 &&& 128) 13 d Q)
set_option maxRecDepth 100000 in
set_option maxHeartbeats 4000000 in
theorem tMachine_refresh_33 {L : Nat} {e : vmD} {Qo : Option Value → vmW → Prop} {Q : vmD → Prop} (hQ : ∀ d, Q d → Qo none (wC L d e)) (s0 : Int32) (d : vmD) (h : Machine_refresh_33 s0 d Q) : vmWp 83 33 [(0, .ref 38)] [.int s0] (wC L d e) Qo := by
  unfold Machine_refresh_33 at h
  refine st_go 4 (pc' := 40) (lo' := [(2, .int s0), (0, .ref 38)]) (st' := [.int 13, .ref 39]) rfl ?_
  refine st_ialdC (o := 39) rfl rfl (show ixOk 13 17 by decide) rfl (fun y_2 hy_y_2 => ?_)
  have h := h y_2 hy_y_2
  refine st_go 9 (pc' := 55) (lo' := [(3, .int y_2), (2, .int s0), (0, .ref 38)]) (st' := [.int s0, .int y_2, .int (y_2 &&& 128), .int 13, .ref 39]) rfl ?_
  by_cases hc_3 : s0 = 0
  · have h := Eq.mp (if_pos hc_3) h
    refine st_if (t := 62) (b := true) rfl (decide_eq_true hc_3) rfl ?_
    refine st_go 1 (pc' := 63) (lo' := [(3, .int y_2), (2, .int s0), (0, .ref 38)]) (st' := [.int 1, .int y_2, .int (y_2 &&& 128), .int 13, .ref 39]) rfl ?_
    refine vmWp.sub (lo' := []) trivial ?_
    exact tMachine_refresh_63 hQ 1 y_2 (y_2 &&& 128) 13 d h
  · have h := Eq.mp (if_neg hc_3) h
    refine st_if (t := 58) (b := false) rfl (decide_eq_false hc_3) rfl ?_
    refine st_go 2 (pc' := 63) (lo' := [(3, .int y_2), (2, .int s0), (0, .ref 38)]) (st' := [.int 2, .int y_2, .int (y_2 &&& 128), .int 13, .ref 39]) rfl ?_
    refine vmWp.sub (lo' := []) trivial ?_
    exact tMachine_refresh_63 hQ 2 y_2 (y_2 &&& 128) 13 d h
set_option maxRecDepth 100000 in
def Machine_refresh_28 (d : vmD) (Q : vmD → Prop) : Prop :=
  Machine_refresh_33 1 d Q
set_option maxRecDepth 100000 in
set_option maxHeartbeats 4000000 in
theorem tMachine_refresh_28 {L : Nat} {e : vmD} {Qo : Option Value → vmW → Prop} {Q : vmD → Prop} (hQ : ∀ d, Q d → Qo none (wC L d e)) (d : vmD) (h : Machine_refresh_28 d Q) : vmWp 83 28 [(0, .ref 38)] [] (wC L d e) Qo := by
  unfold Machine_refresh_28 at h
  refine st_go 2 (pc' := 33) (lo' := [(0, .ref 38)]) (st' := [.int 1]) rfl ?_
  refine vmWp.sub (lo' := [(0, .ref 38)]) ⟨rfl, trivial⟩ ?_
  exact tMachine_refresh_33 hQ 1 d h
set_option maxRecDepth 100000 in
def Machine_refresh (x1 : Int32) (d : vmD) (Q : vmD → Prop) : Prop :=
  if x1 = 203 then
  (Machine_refresh_28 d Q)
  else
  (if x1 = 237 then
  (Machine_refresh_28 d Q)
  else
  (if x1 = 221 then
  (Machine_refresh_28 d Q)
  else
  (if x1 = 253 then
  (Machine_refresh_28 d Q)
  else
  (Machine_refresh_33 0 d Q))))
set_option maxRecDepth 100000 in
set_option maxHeartbeats 4000000 in
theorem tMachine_refresh {L : Nat} {e : vmD} {Qo : Option Value → vmW → Prop} {Q : vmD → Prop} (hQ : ∀ d, Q d → Qo none (wC L d e)) (x1 : Int32) (d : vmD) (h : Machine_refresh x1 d Q) : vmWp 83 0 [(0, .ref 38), (1, .int x1)] [] (wC L d e) Qo := by
  unfold Machine_refresh at h
  refine st_go 2 (pc' := 4) (lo' := [(0, .ref 38), (1, .int x1)]) (st' := [.int 203, .int x1]) rfl ?_
  by_cases hc_1 : x1 = 203
  · have h := Eq.mp (if_pos hc_1) h
    refine st_icmp (t := 28) (b := true) rfl (decide_eq_true hc_1) rfl ?_
    refine vmWp.sub (lo' := [(0, .ref 38)]) ⟨rfl, trivial⟩ ?_
    exact tMachine_refresh_28 hQ d h
  · have h := Eq.mp (if_neg hc_1) h
    refine st_icmp (t := 7) (b := false) rfl (decide_eq_false hc_1) rfl ?_
    refine st_go 2 (pc' := 11) (lo' := [(0, .ref 38), (1, .int x1)]) (st' := [.int 237, .int x1]) rfl ?_
    by_cases hc_6 : x1 = 237
    · have h := Eq.mp (if_pos hc_6) h
      refine st_icmp (t := 28) (b := true) rfl (decide_eq_true hc_6) rfl ?_
      refine vmWp.sub (lo' := [(0, .ref 38)]) ⟨rfl, trivial⟩ ?_
      exact tMachine_refresh_28 hQ d h
    · have h := Eq.mp (if_neg hc_6) h
      refine st_icmp (t := 14) (b := false) rfl (decide_eq_false hc_6) rfl ?_
      refine st_go 2 (pc' := 18) (lo' := [(0, .ref 38), (1, .int x1)]) (st' := [.int 221, .int x1]) rfl ?_
      by_cases hc_7 : x1 = 221
      · have h := Eq.mp (if_pos hc_7) h
        refine st_icmp (t := 28) (b := true) rfl (decide_eq_true hc_7) rfl ?_
        refine vmWp.sub (lo' := [(0, .ref 38)]) ⟨rfl, trivial⟩ ?_
        exact tMachine_refresh_28 hQ d h
      · have h := Eq.mp (if_neg hc_7) h
        refine st_icmp (t := 21) (b := false) rfl (decide_eq_false hc_7) rfl ?_
        refine st_go 2 (pc' := 25) (lo' := [(0, .ref 38), (1, .int x1)]) (st' := [.int 253, .int x1]) rfl ?_
        by_cases hc_8 : x1 = 253
        · have h := Eq.mp (if_pos hc_8) h
          refine st_icmp (t := 28) (b := false) rfl (decide_eq_false (fun z => z hc_8)) rfl ?_
          refine vmWp.sub (lo' := [(0, .ref 38)]) ⟨rfl, trivial⟩ ?_
          exact tMachine_refresh_28 hQ d h
        · have h := Eq.mp (if_neg hc_8) h
          refine st_icmp (t := 32) (b := true) rfl (decide_eq_true hc_8) rfl ?_
          refine st_go 1 (pc' := 33) (lo' := [(0, .ref 38), (1, .int x1)]) (st' := [.int 0]) rfl ?_
          refine vmWp.sub (lo' := [(0, .ref 38)]) ⟨rfl, trivial⟩ ?_
          exact tMachine_refresh_33 hQ 0 d h
set_option maxRecDepth 100000 in
def Instruction_first (d : vmD) (Q : Int32 → vmD → Prop) : Prop :=
  Q (gF d 19 6) d
set_option maxRecDepth 100000 in
set_option maxHeartbeats 4000000 in
theorem tInstruction_first {L : Nat} {e : vmD} {Qo : Option Value → vmW → Prop} {Q : Int32 → vmD → Prop} (hQ : ∀ r d, Q r d → Qo (some (.int r)) (wC L d e)) (d : vmD) (h : Instruction_first d Q) : vmWp 65 0 [(0, .ref 19)] [] (wC L d e) Qo := by
  unfold Instruction_first at h
  refine st_go 2 (pc' := 4) (lo' := [(0, .ref 19)]) (st' := [.int (gF d 19 6)]) rfl ?_
  exact st_retI rfl rfl (hQ _ _ h)
set_option maxRecDepth 100000 in
def Instruction_second (d : vmD) (Q : Int32 → vmD → Prop) : Prop :=
  Q (gF d 19 7) d
set_option maxRecDepth 100000 in
set_option maxHeartbeats 4000000 in
theorem tInstruction_second {L : Nat} {e : vmD} {Qo : Option Value → vmW → Prop} {Q : Int32 → vmD → Prop} (hQ : ∀ r d, Q r d → Qo (some (.int r)) (wC L d e)) (d : vmD) (h : Instruction_second d Q) : vmWp 66 0 [(0, .ref 19)] [] (wC L d e) Qo := by
  unfold Instruction_second at h
  refine st_go 2 (pc' := 4) (lo' := [(0, .ref 19)]) (st' := [.int (gF d 19 7)]) rfl ?_
  exact st_retI rfl rfl (hQ _ _ h)
set_option maxRecDepth 100000 in
def Machine_pairOf (x0 : Int32) (d : vmD) (Q : Int32 → vmD → Prop) : Prop :=
  if x0 = 9 then
  (Q 1 d)
  else
  if x0 = 10 then
  (Q 2 d)
  else
  if x0 = 11 then
  (Q 3 d)
  else
  if x0 = 12 then
  (Q 10 d)
  else
  if x0 = 13 then
  (Q 0 d)
  else
  if x0 = 15 then
  (Q 8 d)
  else
  if x0 = 16 then
  (Q 9 d)
  else
  (Q (-1) d)
set_option maxRecDepth 100000 in
set_option maxHeartbeats 4000000 in
theorem tMachine_pairOf {L : Nat} {e : vmD} {Qo : Option Value → vmW → Prop} {Q : Int32 → vmD → Prop} (hQ : ∀ r d, Q r d → Qo (some (.int r)) (wC L d e)) (x0 : Int32) (d : vmD) (h : Machine_pairOf x0 d Q) : vmWp 95 0 [(0, .int x0)] [] (wC L d e) Qo := by
  unfold Machine_pairOf at h
  refine st_go 1 (pc' := 1) (lo' := [(0, .int x0)]) (st' := [.int x0]) rfl ?_
  by_cases hc_1 : x0 = 9
  · have h := Eq.mp (if_pos hc_1) h
    refine st_tab (t := 48) rfl (by rw [hc_1]; rfl) ?_
    refine st_go 1 (pc' := 49) (lo' := [(0, .int x0)]) (st' := [.int 1]) rfl ?_
    exact st_retI rfl rfl (hQ _ _ h)
  · have h := Eq.mp (if_neg hc_1) h
    by_cases hc_2 : x0 = 10
    · have h := Eq.mp (if_pos hc_2) h
      refine st_tab (t := 50) rfl (by rw [hc_2]; rfl) ?_
      refine st_go 1 (pc' := 51) (lo' := [(0, .int x0)]) (st' := [.int 2]) rfl ?_
      exact st_retI rfl rfl (hQ _ _ h)
    · have h := Eq.mp (if_neg hc_2) h
      by_cases hc_3 : x0 = 11
      · have h := Eq.mp (if_pos hc_3) h
        refine st_tab (t := 52) rfl (by rw [hc_3]; rfl) ?_
        refine st_go 1 (pc' := 53) (lo' := [(0, .int x0)]) (st' := [.int 3]) rfl ?_
        exact st_retI rfl rfl (hQ _ _ h)
      · have h := Eq.mp (if_neg hc_3) h
        by_cases hc_4 : x0 = 12
        · have h := Eq.mp (if_pos hc_4) h
          refine st_tab (t := 54) rfl (by rw [hc_4]; rfl) ?_
          refine st_go 1 (pc' := 56) (lo' := [(0, .int x0)]) (st' := [.int 10]) rfl ?_
          exact st_retI rfl rfl (hQ _ _ h)
        · have h := Eq.mp (if_neg hc_4) h
          by_cases hc_5 : x0 = 13
          · have h := Eq.mp (if_pos hc_5) h
            refine st_tab (t := 57) rfl (by rw [hc_5]; rfl) ?_
            refine st_go 1 (pc' := 58) (lo' := [(0, .int x0)]) (st' := [.int 0]) rfl ?_
            exact st_retI rfl rfl (hQ _ _ h)
          · have h := Eq.mp (if_neg hc_5) h
            by_cases hc_6 : x0 = 15
            · have h := Eq.mp (if_pos hc_6) h
              refine st_tab (t := 59) rfl (by rw [hc_6]; rfl) ?_
              refine st_go 1 (pc' := 61) (lo' := [(0, .int x0)]) (st' := [.int 8]) rfl ?_
              exact st_retI rfl rfl (hQ _ _ h)
            · have h := Eq.mp (if_neg hc_6) h
              by_cases hc_7 : x0 = 16
              · have h := Eq.mp (if_pos hc_7) h
                refine st_tab (t := 62) rfl (by rw [hc_7]; rfl) ?_
                refine st_go 1 (pc' := 64) (lo' := [(0, .int x0)]) (st' := [.int 9]) rfl ?_
                exact st_retI rfl rfl (hQ _ _ h)
              · have h := Eq.mp (if_neg hc_7) h
                refine st_tab (t := 65) rfl (tab_def rfl (by decide) rfl (by
                  intro j hj hx
                  have hj : j < 8 := hj
                  rcases (j = 0 ∨ j = 1 ∨ j = 2 ∨ j = 3 ∨ j = 4 ∨ j = 5 ∨ j = 6 ∨ j = 7 : Prop) |> fun _ => (show j = 0 ∨ j = 1 ∨ j = 2 ∨ j = 3 ∨ j = 4 ∨ j = 5 ∨ j = 6 ∨ j = 7 by omega) with rfl | rfl | rfl | rfl | rfl | rfl | rfl | rfl <;> first | rfl | exact absurd hx hc_1 | exact absurd hx hc_2 | exact absurd hx hc_3 | exact absurd hx hc_4 | exact absurd hx hc_5 | exact absurd hx hc_6 | exact absurd hx hc_7)) ?_
                refine st_go 1 (pc' := 66) (lo' := [(0, .int x0)]) (st' := [.int (-1)]) rfl ?_
                exact st_retI rfl rfl (hQ _ _ h)
set_option maxRecDepth 100000 in
def Instruction_number (d : vmD) (Q : Int32 → vmD → Prop) : Prop :=
  Q (gF d 19 9) d
set_option maxRecDepth 100000 in
set_option maxHeartbeats 4000000 in
theorem tInstruction_number {L : Nat} {e : vmD} {Qo : Option Value → vmW → Prop} {Q : Int32 → vmD → Prop} (hQ : ∀ r d, Q r d → Qo (some (.int r)) (wC L d e)) (d : vmD) (h : Instruction_number d Q) : vmWp 68 0 [(0, .ref 19)] [] (wC L d e) Qo := by
  unfold Instruction_number at h
  refine st_go 2 (pc' := 4) (lo' := [(0, .ref 19)]) (st' := [.int (gF d 19 9)]) rfl ?_
  exact st_retI rfl rfl (hQ _ _ h)
set_option maxRecDepth 100000 in
def Instruction_distance (d : vmD) (Q : Int32 → vmD → Prop) : Prop :=
  Q (gF d 19 8) d
set_option maxRecDepth 100000 in
set_option maxHeartbeats 4000000 in
theorem tInstruction_distance {L : Nat} {e : vmD} {Qo : Option Value → vmW → Prop} {Q : Int32 → vmD → Prop} (hQ : ∀ r d, Q r d → Qo (some (.int r)) (wC L d e)) (d : vmD) (h : Instruction_distance d Q) : vmWp 67 0 [(0, .ref 19)] [] (wC L d e) Qo := by
  unfold Instruction_distance at h
  refine st_go 2 (pc' := 4) (lo' := [(0, .ref 19)]) (st' := [.int (gF d 19 8)]) rfl ?_
  exact st_retI rfl rfl (hQ _ _ h)
set_option maxRecDepth 100000 in
def Machine_addressOf (x1 : Int32) (d : vmD) (Q : Int32 → vmD → Prop) : Prop :=
  if x1 = 26 then
  (bnd (gA d 39 1) fun y_2 =>
  Q y_2 d)
  else
  if x1 = 27 then
  (bnd (gA d 39 2) fun y_4 =>
  Q y_4 d)
  else
  if x1 = 32 then
  (bnd (gA d 39 8) fun y_6 =>
  Instruction_distance d fun r_8 d_7 =>
  Q (y_6 + r_8) d_7)
  else
  if x1 = 33 then
  (bnd (gA d 39 9) fun y_10 =>
  Instruction_distance d fun r_12 d_11 =>
  Q (y_10 + r_12) d_11)
  else
  if x1 = 43 then
  (Instruction_number d fun r_15 d_14 =>
  Q r_15 d_14)
  else
  (bnd (gA d 39 3) fun y_16 =>
  Q y_16 d)
set_option maxRecDepth 100000 in
set_option maxHeartbeats 4000000 in
theorem tMachine_addressOf {L : Nat} {e : vmD} {Qo : Option Value → vmW → Prop} {Q : Int32 → vmD → Prop} (hQ : ∀ r d, Q r d → Qo (some (.int r)) (wC L d e)) (x1 : Int32) (d : vmD) (h : Machine_addressOf x1 d Q) : vmWp 94 0 [(0, .ref 38), (1, .int x1)] [] (wC L d e) Qo := by
  unfold Machine_addressOf at h
  refine st_go 1 (pc' := 1) (lo' := [(0, .ref 38), (1, .int x1)]) (st' := [.int x1]) rfl ?_
  by_cases hc_1 : x1 = 26
  · have h := Eq.mp (if_pos hc_1) h
    refine st_look (t := 52) rfl (by rw [hc_1]; rfl) ?_
    refine st_go 3 (pc' := 57) (lo' := [(0, .ref 38), (1, .int x1)]) (st' := [.int 1, .ref 39]) rfl ?_
    refine st_ialdC (o := 39) rfl rfl (show ixOk 1 17 by decide) rfl (fun y_2 hy_y_2 => ?_)
    have h := h y_2 hy_y_2
    exact st_retI rfl rfl (hQ _ _ h)
  · have h := Eq.mp (if_neg hc_1) h
    by_cases hc_3 : x1 = 27
    · have h := Eq.mp (if_pos hc_3) h
      refine st_look (t := 59) rfl (by rw [hc_3]; rfl) ?_
      refine st_go 3 (pc' := 64) (lo' := [(0, .ref 38), (1, .int x1)]) (st' := [.int 2, .ref 39]) rfl ?_
      refine st_ialdC (o := 39) rfl rfl (show ixOk 2 17 by decide) rfl (fun y_4 hy_y_4 => ?_)
      have h := h y_4 hy_y_4
      exact st_retI rfl rfl (hQ _ _ h)
    · have h := Eq.mp (if_neg hc_3) h
      by_cases hc_5 : x1 = 32
      · have h := Eq.mp (if_pos hc_5) h
        refine st_look (t := 66) rfl (by rw [hc_5]; rfl) ?_
        refine st_go 3 (pc' := 72) (lo' := [(0, .ref 38), (1, .int x1)]) (st' := [.int 8, .ref 39]) rfl ?_
        refine st_ialdC (o := 39) rfl rfl (show ixOk 8 17 by decide) rfl (fun y_6 hy_y_6 => ?_)
        have h := h y_6 hy_y_6
        refine st_go 2 (pc' := 77) (lo' := [(0, .ref 38), (1, .int x1)]) (st' := [.ref 19, .int y_6]) rfl ?_
        refine st_calli (k' := 67) (as := [.ref 19]) (rest := [.int y_6]) (lo' := [(0, .ref 19)]) (wf := fun d => wC L d e) rfl rfl rfl ?_
        refine tInstruction_distance (fun r_8 d_7 h => ⟨r_8, d_7, rfl, rfl, ?_⟩) d h
        refine st_go 1 (pc' := 81) (lo' := [(0, .ref 38), (1, .int x1)]) (st' := [.int (y_6 + r_8)]) rfl ?_
        exact st_retI rfl rfl (hQ _ _ h)
      · have h := Eq.mp (if_neg hc_5) h
        by_cases hc_9 : x1 = 33
        · have h := Eq.mp (if_pos hc_9) h
          refine st_look (t := 82) rfl (by rw [hc_9]; rfl) ?_
          refine st_go 3 (pc' := 88) (lo' := [(0, .ref 38), (1, .int x1)]) (st' := [.int 9, .ref 39]) rfl ?_
          refine st_ialdC (o := 39) rfl rfl (show ixOk 9 17 by decide) rfl (fun y_10 hy_y_10 => ?_)
          have h := h y_10 hy_y_10
          refine st_go 2 (pc' := 93) (lo' := [(0, .ref 38), (1, .int x1)]) (st' := [.ref 19, .int y_10]) rfl ?_
          refine st_calli (k' := 67) (as := [.ref 19]) (rest := [.int y_10]) (lo' := [(0, .ref 19)]) (wf := fun d => wC L d e) rfl rfl rfl ?_
          refine tInstruction_distance (fun r_12 d_11 h => ⟨r_12, d_11, rfl, rfl, ?_⟩) d h
          refine st_go 1 (pc' := 97) (lo' := [(0, .ref 38), (1, .int x1)]) (st' := [.int (y_10 + r_12)]) rfl ?_
          exact st_retI rfl rfl (hQ _ _ h)
        · have h := Eq.mp (if_neg hc_9) h
          by_cases hc_13 : x1 = 43
          · have h := Eq.mp (if_pos hc_13) h
            refine st_look (t := 98) rfl (by rw [hc_13]; rfl) ?_
            refine st_go 2 (pc' := 102) (lo' := [(0, .ref 38), (1, .int x1)]) (st' := [.ref 19]) rfl ?_
            refine st_calli (k' := 68) (as := [.ref 19]) (rest := []) (lo' := [(0, .ref 19)]) (wf := fun d => wC L d e) rfl rfl rfl ?_
            refine tInstruction_number (fun r_15 d_14 h => ⟨r_15, d_14, rfl, rfl, ?_⟩) d h
            exact st_retI rfl rfl (hQ _ _ h)
          · have h := Eq.mp (if_neg hc_13) h
            refine st_look (t := 106) rfl (look_def (by
              intro q hq hx
              simp only [List.mem_cons, List.not_mem_nil, or_false] at hq
              rcases hq with rfl | rfl | rfl | rfl | rfl <;> first | rfl | exact absurd (Int32.toInt_inj.mp hx.symm) hc_1 | exact absurd (Int32.toInt_inj.mp hx.symm) hc_3 | exact absurd (Int32.toInt_inj.mp hx.symm) hc_5 | exact absurd (Int32.toInt_inj.mp hx.symm) hc_9 | exact absurd (Int32.toInt_inj.mp hx.symm) hc_13) rfl) ?_
            refine st_go 3 (pc' := 111) (lo' := [(0, .ref 38), (1, .int x1)]) (st' := [.int 3, .ref 39]) rfl ?_
            refine st_ialdC (o := 39) rfl rfl (show ixOk 3 17 by decide) rfl (fun y_16 hy_y_16 => ?_)
            have h := h y_16 hy_y_16
            exact st_retI rfl rfl (hQ _ _ h)
set_option maxRecDepth 100000 in
def Machine_load_33 (x1 : Int32) (d : vmD) (Q : Int32 → vmD → Prop) : Prop :=
  if x1 = 8 then
  (bnd (gA d 39 0) fun y_3 =>
  Q ((y_3 >>> ((8 : Int32) &&& 31)) &&& 255) d)
  else
  if x1 = 17 then
  (bnd (gA d 39 12) fun y_5 =>
  Q y_5 d)
  else
  if x1 = 18 then
  (bnd (gA d 39 13) fun y_7 =>
  Q y_7 d)
  else
  if x1 = 36 then
  (Instruction_number d fun r_10 d_9 =>
  Q (r_10 &&& 255) d_9)
  else
  (Machine_addressOf x1 d fun r_12 d_11 =>
  Memory_at r_12 d_11 fun r_14 d_13 =>
  Q r_14 d_13)
set_option maxRecDepth 100000 in
set_option maxHeartbeats 4000000 in
theorem tMachine_load_33 {L : Nat} {e : vmD} {Qo : Option Value → vmW → Prop} {Q : Int32 → vmD → Prop} (hQ : ∀ r d, Q r d → Qo (some (.int r)) (wC L d e)) (x1 : Int32) (d : vmD) (h : Machine_load_33 x1 d Q) : vmWp 92 33 [(0, .ref 38), (1, .int x1)] [] (wC L d e) Qo := by
  unfold Machine_load_33 at h
  refine st_go 1 (pc' := 34) (lo' := [(0, .ref 38), (1, .int x1)]) (st' := [.int x1]) rfl ?_
  by_cases hc_2 : x1 = 8
  · have h := Eq.mp (if_pos hc_2) h
    refine st_look (t := 76) rfl (by rw [hc_2]; rfl) ?_
    refine st_go 3 (pc' := 81) (lo' := [(0, .ref 38), (1, .int x1)]) (st' := [.int 0, .ref 39]) rfl ?_
    refine st_ialdC (o := 39) rfl rfl (show ixOk 0 17 by decide) rfl (fun y_3 hy_y_3 => ?_)
    have h := h y_3 hy_y_3
    refine st_go 4 (pc' := 89) (lo' := [(0, .ref 38), (1, .int x1)]) (st' := [.int ((y_3 >>> ((8 : Int32) &&& 31)) &&& 255)]) rfl ?_
    exact st_retI rfl rfl (hQ _ _ h)
  · have h := Eq.mp (if_neg hc_2) h
    by_cases hc_4 : x1 = 17
    · have h := Eq.mp (if_pos hc_4) h
      refine st_look (t := 90) rfl (by rw [hc_4]; rfl) ?_
      refine st_go 3 (pc' := 96) (lo' := [(0, .ref 38), (1, .int x1)]) (st' := [.int 12, .ref 39]) rfl ?_
      refine st_ialdC (o := 39) rfl rfl (show ixOk 12 17 by decide) rfl (fun y_5 hy_y_5 => ?_)
      have h := h y_5 hy_y_5
      exact st_retI rfl rfl (hQ _ _ h)
    · have h := Eq.mp (if_neg hc_4) h
      by_cases hc_6 : x1 = 18
      · have h := Eq.mp (if_pos hc_6) h
        refine st_look (t := 98) rfl (by rw [hc_6]; rfl) ?_
        refine st_go 3 (pc' := 104) (lo' := [(0, .ref 38), (1, .int x1)]) (st' := [.int 13, .ref 39]) rfl ?_
        refine st_ialdC (o := 39) rfl rfl (show ixOk 13 17 by decide) rfl (fun y_7 hy_y_7 => ?_)
        have h := h y_7 hy_y_7
        exact st_retI rfl rfl (hQ _ _ h)
      · have h := Eq.mp (if_neg hc_6) h
        by_cases hc_8 : x1 = 36
        · have h := Eq.mp (if_pos hc_8) h
          refine st_look (t := 106) rfl (by rw [hc_8]; rfl) ?_
          refine st_go 2 (pc' := 110) (lo' := [(0, .ref 38), (1, .int x1)]) (st' := [.ref 19]) rfl ?_
          refine st_calli (k' := 68) (as := [.ref 19]) (rest := []) (lo' := [(0, .ref 19)]) (wf := fun d => wC L d e) rfl rfl rfl ?_
          refine tInstruction_number (fun r_10 d_9 h => ⟨r_10, d_9, rfl, rfl, ?_⟩) d h
          refine st_go 2 (pc' := 117) (lo' := [(0, .ref 38), (1, .int x1)]) (st' := [.int (r_10 &&& 255)]) rfl ?_
          exact st_retI rfl rfl (hQ _ _ h)
        · have h := Eq.mp (if_neg hc_8) h
          refine st_look (t := 118) rfl (look_def (by
            intro q hq hx
            simp only [List.mem_cons, List.not_mem_nil, or_false] at hq
            rcases hq with rfl | rfl | rfl | rfl <;> first | rfl | exact absurd (Int32.toInt_inj.mp hx.symm) hc_2 | exact absurd (Int32.toInt_inj.mp hx.symm) hc_4 | exact absurd (Int32.toInt_inj.mp hx.symm) hc_6 | exact absurd (Int32.toInt_inj.mp hx.symm) hc_8) rfl) ?_
          refine st_go 4 (pc' := 124) (lo' := [(0, .ref 38), (1, .int x1)]) (st' := [.int x1, .ref 38, .ref 1]) rfl ?_
          refine st_calli (k' := 94) (as := [.ref 38, .int x1]) (rest := [.ref 1]) (lo' := [(0, .ref 38), (1, .int x1)]) (wf := fun d => wC L d e) rfl rfl rfl ?_
          refine tMachine_addressOf (fun r_12 d_11 h => ⟨r_12, d_11, rfl, rfl, ?_⟩) x1 d h
          refine st_calli (k' := 128) (as := [.ref 1, .int r_12]) (rest := []) (lo' := [(0, .ref 1), (1, .int r_12)]) (wf := fun d => wC L d e) rfl rfl rfl ?_
          refine tMemory_at (fun r_14 d_13 h => ⟨r_14, d_13, rfl, rfl, ?_⟩) r_12 d_11 h
          exact st_retI rfl rfl (hQ _ _ h)
set_option maxRecDepth 100000 in
def Machine_load (x1 : Int32) (d : vmD) (Q : Int32 → vmD → Prop) : Prop :=
  if x1 < 1 then
  (Machine_load_33 x1 d Q)
  else
  (if (6 : Int32) < x1 then
  (Machine_load_33 x1 d Q)
  else
  (ixOk ((x1 + 1) / 2) 17 ∧
  bnd (gA d 39 ((x1 + 1) / 2).toNatClampNeg) fun y_17 =>
  Q ((y_17 >>> (((x1 - x1 / 2 * 2) * 8) &&& 31)) &&& 255) d))
set_option maxRecDepth 100000 in
set_option maxHeartbeats 4000000 in
theorem tMachine_load {L : Nat} {e : vmD} {Qo : Option Value → vmW → Prop} {Q : Int32 → vmD → Prop} (hQ : ∀ r d, Q r d → Qo (some (.int r)) (wC L d e)) (x1 : Int32) (d : vmD) (h : Machine_load x1 d Q) : vmWp 92 0 [(0, .ref 38), (1, .int x1)] [] (wC L d e) Qo := by
  unfold Machine_load at h
  refine st_go 2 (pc' := 2) (lo' := [(0, .ref 38), (1, .int x1)]) (st' := [.int 1, .int x1]) rfl ?_
  by_cases hc_1 : x1 < 1
  · have h := Eq.mp (if_pos hc_1) h
    refine st_icmp (t := 33) (b := true) rfl (decide_eq_true hc_1) rfl ?_
    refine vmWp.sub (lo' := [(0, .ref 38), (1, .int x1)]) ⟨rfl, rfl, trivial⟩ ?_
    exact tMachine_load_33 hQ x1 d h
  · have h := Eq.mp (if_neg hc_1) h
    refine st_icmp (t := 5) (b := false) rfl (decide_eq_false hc_1) rfl ?_
    refine st_go 2 (pc' := 8) (lo' := [(0, .ref 38), (1, .int x1)]) (st' := [.int 6, .int x1]) rfl ?_
    by_cases hc_15 : (6 : Int32) < x1
    · have h := Eq.mp (if_pos hc_15) h
      refine st_icmp (t := 33) (b := true) rfl (decide_eq_true hc_15) rfl ?_
      refine vmWp.sub (lo' := [(0, .ref 38), (1, .int x1)]) ⟨rfl, rfl, trivial⟩ ?_
      exact tMachine_load_33 hQ x1 d h
    · have h := Eq.mp (if_neg hc_15) h
      refine st_icmp (t := 11) (b := false) rfl (decide_eq_false hc_15) rfl ?_
      refine st_go 6 (pc' := 19) (lo' := [(0, .ref 38), (1, .int x1)]) (st' := [.int 2, .int (x1 + 1), .ref 39]) rfl ?_
      refine st_idiv rfl (by decide) ?_
      obtain ⟨hj_16, h⟩ := h
      refine st_ialdC (o := 39) rfl rfl hj_16 rfl (fun y_17 hy_y_17 => ?_)
      have h := h y_17 hy_y_17
      refine st_go 2 (pc' := 23) (lo' := [(0, .ref 38), (1, .int x1)]) (st' := [.int 2, .int x1, .int y_17]) rfl ?_
      refine st_irem rfl (by decide) ?_
      refine st_go 5 (pc' := 32) (lo' := [(0, .ref 38), (1, .int x1)]) (st' := [.int ((y_17 >>> (((x1 - x1 / 2 * 2) * 8) &&& 31)) &&& 255)]) rfl ?_
      exact st_retI rfl rfl (hQ _ _ h)
set_option maxRecDepth 100000 in
def Machine_save_70 (x1 : Int32) (x3 : Int32) (d : vmD) (Q : vmD → Prop) : Prop :=
  if x1 = 8 then
  (bnd (gA d 39 0) fun y_4 =>
  bnd (sA d 39 0 ((x3 <<< ((8 : Int32) &&& 31)) ||| (y_4 &&& 255))) fun d_5 =>
  Q d_5)
  else
  if x1 = 17 then
  (bnd (sA d 39 12 x3) fun d_7 =>
  Q d_7)
  else
  if x1 = 18 then
  (bnd (sA d 39 13 x3) fun d_9 =>
  Q d_9)
  else
  (Machine_addressOf x1 d fun r_11 d_10 =>
  Memory_store r_11 x3 d_10 fun d_12 =>
  Q d_12)
set_option maxRecDepth 100000 in
set_option maxHeartbeats 4000000 in
theorem tMachine_save_70 {L : Nat} {e : vmD} {Qo : Option Value → vmW → Prop} {Q : vmD → Prop} (hQ : ∀ d, Q d → Qo none (wC L d e)) (x1 : Int32) (x3 : Int32) (d : vmD) (h : Machine_save_70 x1 x3 d Q) : vmWp 93 70 [(0, .ref 38), (1, .int x1), (3, .int x3)] [] (wC L d e) Qo := by
  unfold Machine_save_70 at h
  refine st_go 1 (pc' := 71) (lo' := [(0, .ref 38), (1, .int x1), (3, .int x3)]) (st' := [.int x1]) rfl ?_
  by_cases hc_3 : x1 = 8
  · have h := Eq.mp (if_pos hc_3) h
    refine st_look (t := 104) rfl (by rw [hc_3]; rfl) ?_
    refine st_go 9 (pc' := 118) (lo' := [(0, .ref 38), (1, .int x1), (3, .int x3)]) (st' := [.int 0, .ref 39, .int (x3 <<< ((8 : Int32) &&& 31)), .int 0, .ref 39]) rfl ?_
    refine st_ialdC (o := 39) rfl rfl (show ixOk 0 17 by decide) rfl (fun y_4 hy_y_4 => ?_)
    have h := h y_4 hy_y_4
    refine st_go 3 (pc' := 124) (lo' := [(0, .ref 38), (1, .int x1), (3, .int x3)]) (st' := [.int ((x3 <<< ((8 : Int32) &&& 31)) ||| (y_4 &&& 255)), .int 0, .ref 39]) rfl ?_
    refine st_iastC (o := 39) rfl rfl (show ixOk 0 17 by decide) rfl (fun d_5 hy_d_5 => ?_)
    have h := h d_5 hy_d_5
    refine st_go 1 (pc' := 163) (lo' := [(0, .ref 38), (1, .int x1), (3, .int x3)]) (st' := []) rfl ?_
    exact st_retV rfl rfl (hQ _ h)
  · have h := Eq.mp (if_neg hc_3) h
    by_cases hc_6 : x1 = 17
    · have h := Eq.mp (if_pos hc_6) h
      refine st_look (t := 128) rfl (by rw [hc_6]; rfl) ?_
      refine st_go 4 (pc' := 135) (lo' := [(0, .ref 38), (1, .int x1), (3, .int x3)]) (st' := [.int x3, .int 12, .ref 39]) rfl ?_
      refine st_iastC (o := 39) rfl rfl (show ixOk 12 17 by decide) rfl (fun d_7 hy_d_7 => ?_)
      have h := h d_7 hy_d_7
      refine st_go 1 (pc' := 163) (lo' := [(0, .ref 38), (1, .int x1), (3, .int x3)]) (st' := []) rfl ?_
      exact st_retV rfl rfl (hQ _ h)
    · have h := Eq.mp (if_neg hc_6) h
      by_cases hc_8 : x1 = 18
      · have h := Eq.mp (if_pos hc_8) h
        refine st_look (t := 139) rfl (by rw [hc_8]; rfl) ?_
        refine st_go 4 (pc' := 146) (lo' := [(0, .ref 38), (1, .int x1), (3, .int x3)]) (st' := [.int x3, .int 13, .ref 39]) rfl ?_
        refine st_iastC (o := 39) rfl rfl (show ixOk 13 17 by decide) rfl (fun d_9 hy_d_9 => ?_)
        have h := h d_9 hy_d_9
        refine st_go 1 (pc' := 163) (lo' := [(0, .ref 38), (1, .int x1), (3, .int x3)]) (st' := []) rfl ?_
        exact st_retV rfl rfl (hQ _ h)
      · have h := Eq.mp (if_neg hc_8) h
        refine st_look (t := 150) rfl (look_def (by
          intro q hq hx
          simp only [List.mem_cons, List.not_mem_nil, or_false] at hq
          rcases hq with rfl | rfl | rfl <;> first | rfl | exact absurd (Int32.toInt_inj.mp hx.symm) hc_3 | exact absurd (Int32.toInt_inj.mp hx.symm) hc_6 | exact absurd (Int32.toInt_inj.mp hx.symm) hc_8) rfl) ?_
        refine st_go 4 (pc' := 156) (lo' := [(0, .ref 38), (1, .int x1), (3, .int x3)]) (st' := [.int x1, .ref 38, .ref 1]) rfl ?_
        refine st_calli (k' := 94) (as := [.ref 38, .int x1]) (rest := [.ref 1]) (lo' := [(0, .ref 38), (1, .int x1)]) (wf := fun d => wC L d e) rfl rfl rfl ?_
        refine tMachine_addressOf (fun r_11 d_10 h => ⟨r_11, d_10, rfl, rfl, ?_⟩) x1 d h
        refine st_go 1 (pc' := 160) (lo' := [(0, .ref 38), (1, .int x1), (3, .int x3)]) (st' := [.int x3, .int r_11, .ref 1]) rfl ?_
        refine st_callv (k' := 130) (as := [.ref 1, .int r_11, .int x3]) (rest := []) (lo' := [(0, .ref 1), (1, .int r_11), (2, .int x3)]) (wf := fun d => wC L d e) rfl rfl rfl ?_
        refine tMemory_store (fun d_12 h => ⟨d_12, rfl, rfl, ?_⟩) r_11 x3 d_10 h
        exact st_retV rfl rfl (hQ _ h)
set_option maxRecDepth 100000 in
def Machine_save_68 (s0 : Int32) (s1 : Int32) (d : vmD) (Q : vmD → Prop) : Prop :=
  ixOk s1 17 ∧
  bnd (sA d 39 s1.toNatClampNeg s0) fun d_19 =>
  Q d_19
set_option maxRecDepth 100000 in
set_option maxHeartbeats 4000000 in
theorem tMachine_save_68 {L : Nat} {e : vmD} {Qo : Option Value → vmW → Prop} {Q : vmD → Prop} (hQ : ∀ d, Q d → Qo none (wC L d e)) (s0 : Int32) (s1 : Int32) (d : vmD) (h : Machine_save_68 s0 s1 d Q) : vmWp 93 68 [] [.int s0, .int s1, .ref 39] (wC L d e) Qo := by
  unfold Machine_save_68 at h
  obtain ⟨hj_18, h⟩ := h
  refine st_iastC (o := 39) rfl rfl hj_18 rfl (fun d_19 hy_d_19 => ?_)
  have h := h d_19 hy_d_19
  exact st_retV rfl rfl (hQ _ h)
set_option maxRecDepth 100000 in
def Machine_save (x1 : Int32) (x2 : Int32) (d : vmD) (Q : vmD → Prop) : Prop :=
  bnd (x2 &&& 255) fun x3_1 =>
  if x1 < 1 then
  (Machine_save_70 x1 x3_1 d Q)
  else
  (if (6 : Int32) < x1 then
  (Machine_save_70 x1 x3_1 d Q)
  else
  (bnd ((x1 + 1) / 2) fun x4_14 =>
  if (x1 - x1 / 2 * 2) = 1 then
  (ixOk x4_14 17 ∧
  bnd (gA d 39 x4_14.toNatClampNeg) fun y_17 =>
  Machine_save_68 ((x3_1 <<< ((8 : Int32) &&& 31)) ||| (y_17 &&& 255)) x4_14 d Q)
  else
  (ixOk x4_14 17 ∧
  bnd (gA d 39 x4_14.toNatClampNeg) fun y_21 =>
  Machine_save_68 ((y_21 &&& 65280) ||| x3_1) x4_14 d Q)))
set_option maxRecDepth 100000 in
set_option maxHeartbeats 4000000 in
theorem tMachine_save {L : Nat} {e : vmD} {Qo : Option Value → vmW → Prop} {Q : vmD → Prop} (hQ : ∀ d, Q d → Qo none (wC L d e)) (x1 : Int32) (x2 : Int32) (d : vmD) (h : Machine_save x1 x2 d Q) : vmWp 93 0 [(0, .ref 38), (1, .int x1), (2, .int x2)] [] (wC L d e) Qo := by
  unfold Machine_save at h
  refine st_go 4 (pc' := 6) (lo' := [(3, .int (x2 &&& 255)), (0, .ref 38), (1, .int x1), (2, .int x2)]) (st' := []) rfl ?_
  refine st_locI (fun x3_1 hy_x3_1 => ?_)
  have h := h x3_1 hy_x3_1
  refine st_go 2 (pc' := 8) (lo' := [(3, .int x3_1), (0, .ref 38), (1, .int x1), (2, .int x2)]) (st' := [.int 1, .int x1]) rfl ?_
  by_cases hc_2 : x1 < 1
  · have h := Eq.mp (if_pos hc_2) h
    refine st_icmp (t := 70) (b := true) rfl (decide_eq_true hc_2) rfl ?_
    refine vmWp.sub (lo' := [(0, .ref 38), (1, .int x1), (3, .int x3_1)]) ⟨rfl, rfl, rfl, trivial⟩ ?_
    exact tMachine_save_70 hQ x1 x3_1 d h
  · have h := Eq.mp (if_neg hc_2) h
    refine st_icmp (t := 11) (b := false) rfl (decide_eq_false hc_2) rfl ?_
    refine st_go 2 (pc' := 14) (lo' := [(3, .int x3_1), (0, .ref 38), (1, .int x1), (2, .int x2)]) (st' := [.int 6, .int x1]) rfl ?_
    by_cases hc_13 : (6 : Int32) < x1
    · have h := Eq.mp (if_pos hc_13) h
      refine st_icmp (t := 70) (b := true) rfl (decide_eq_true hc_13) rfl ?_
      refine vmWp.sub (lo' := [(0, .ref 38), (1, .int x1), (3, .int x3_1)]) ⟨rfl, rfl, rfl, trivial⟩ ?_
      exact tMachine_save_70 hQ x1 x3_1 d h
    · have h := Eq.mp (if_neg hc_13) h
      refine st_icmp (t := 17) (b := false) rfl (decide_eq_false hc_13) rfl ?_
      refine st_go 4 (pc' := 21) (lo' := [(3, .int x3_1), (0, .ref 38), (1, .int x1), (2, .int x2)]) (st' := [.int 2, .int (x1 + 1)]) rfl ?_
      refine st_idiv rfl (by decide) ?_
      refine st_go 1 (pc' := 24) (lo' := [(4, .int ((x1 + 1) / 2)), (3, .int x3_1), (0, .ref 38), (1, .int x1), (2, .int x2)]) (st' := []) rfl ?_
      refine st_locI (fun x4_14 hy_x4_14 => ?_)
      have h := h x4_14 hy_x4_14
      refine st_go 5 (pc' := 32) (lo' := [(4, .int x4_14), (3, .int x3_1), (0, .ref 38), (1, .int x1), (2, .int x2)]) (st' := [.int 2, .int x1, .int x4_14, .ref 39]) rfl ?_
      refine st_irem rfl (by decide) ?_
      refine st_go 1 (pc' := 34) (lo' := [(4, .int x4_14), (3, .int x3_1), (0, .ref 38), (1, .int x1), (2, .int x2)]) (st' := [.int 1, .int (x1 - x1 / 2 * 2), .int x4_14, .ref 39]) rfl ?_
      by_cases hc_15 : (x1 - x1 / 2 * 2) = 1
      · have h := Eq.mp (if_pos hc_15) h
        refine st_icmp (t := 37) (b := false) rfl (decide_eq_false (fun z => z hc_15)) rfl ?_
        refine st_go 6 (pc' := 47) (lo' := [(4, .int x4_14), (3, .int x3_1), (0, .ref 38), (1, .int x1), (2, .int x2)]) (st' := [.int x4_14, .ref 39, .int (x3_1 <<< ((8 : Int32) &&& 31)), .int x4_14, .ref 39]) rfl ?_
        obtain ⟨hj_16, h⟩ := h
        refine st_ialdC (o := 39) rfl rfl hj_16 rfl (fun y_17 hy_y_17 => ?_)
        have h := h y_17 hy_y_17
        refine st_go 4 (pc' := 68) (lo' := [(4, .int x4_14), (3, .int x3_1), (0, .ref 38), (1, .int x1), (2, .int x2)]) (st' := [.int ((x3_1 <<< ((8 : Int32) &&& 31)) ||| (y_17 &&& 255)), .int x4_14, .ref 39]) rfl ?_
        refine vmWp.sub (lo' := []) trivial ?_
        exact tMachine_save_68 hQ ((x3_1 <<< ((8 : Int32) &&& 31)) ||| (y_17 &&& 255)) x4_14 d h
      · have h := Eq.mp (if_neg hc_15) h
        refine st_icmp (t := 56) (b := true) rfl (decide_eq_true hc_15) rfl ?_
        refine st_go 3 (pc' := 62) (lo' := [(4, .int x4_14), (3, .int x3_1), (0, .ref 38), (1, .int x1), (2, .int x2)]) (st' := [.int x4_14, .ref 39, .int x4_14, .ref 39]) rfl ?_
        obtain ⟨hj_20, h⟩ := h
        refine st_ialdC (o := 39) rfl rfl hj_20 rfl (fun y_21 hy_y_21 => ?_)
        have h := h y_21 hy_y_21
        refine st_go 4 (pc' := 68) (lo' := [(4, .int x4_14), (3, .int x3_1), (0, .ref 38), (1, .int x1), (2, .int x2)]) (st' := [.int ((y_21 &&& 65280) ||| x3_1), .int x4_14, .ref 39]) rfl ?_
        refine vmWp.sub (lo' := []) trivial ?_
        exact tMachine_save_68 hQ ((y_21 &&& 65280) ||| x3_1) x4_14 d h
set_option maxRecDepth 100000 in
def Machine_flags (d : vmD) (Q : Int32 → vmD → Prop) : Prop :=
  bnd (gA d 39 0) fun y_1 =>
  Q (y_1 &&& 255) d
set_option maxRecDepth 100000 in
set_option maxHeartbeats 4000000 in
theorem tMachine_flags {L : Nat} {e : vmD} {Qo : Option Value → vmW → Prop} {Q : Int32 → vmD → Prop} (hQ : ∀ r d, Q r d → Qo (some (.int r)) (wC L d e)) (d : vmD) (h : Machine_flags d Q) : vmWp 88 0 [(0, .ref 38)] [] (wC L d e) Qo := by
  unfold Machine_flags at h
  refine st_go 3 (pc' := 5) (lo' := [(0, .ref 38)]) (st' := [.int 0, .ref 39]) rfl ?_
  refine st_ialdC (o := 39) rfl rfl (show ixOk 0 17 by decide) rfl (fun y_1 hy_y_1 => ?_)
  have h := h y_1 hy_y_1
  refine st_go 2 (pc' := 10) (lo' := [(0, .ref 38)]) (st' := [.int (y_1 &&& 255)]) rfl ?_
  exact st_retI rfl rfl (hQ _ _ h)
set_option maxRecDepth 100000 in
def Machine_signsOf (x0 : Int32) (d : vmD) (Q : Int32 → vmD → Prop) : Prop :=
  if x0 = 0 then
  (Q ((x0 &&& 168) ||| 64) d)
  else
  (Q ((x0 &&& 168) ||| 0) d)
set_option maxRecDepth 100000 in
set_option maxHeartbeats 4000000 in
theorem tMachine_signsOf {L : Nat} {e : vmD} {Qo : Option Value → vmW → Prop} {Q : Int32 → vmD → Prop} (hQ : ∀ r d, Q r d → Qo (some (.int r)) (wC L d e)) (x0 : Int32) (d : vmD) (h : Machine_signsOf x0 d Q) : vmWp 90 0 [(0, .int x0)] [] (wC L d e) Qo := by
  unfold Machine_signsOf at h
  refine st_go 4 (pc' := 6) (lo' := [(0, .int x0)]) (st' := [.int x0, .int (x0 &&& 168)]) rfl ?_
  by_cases hc_1 : x0 = 0
  · have h := Eq.mp (if_pos hc_1) h
    refine st_if (t := 9) (b := false) rfl (decide_eq_false (fun z => z hc_1)) rfl ?_
    refine st_go 3 (pc' := 16) (lo' := [(0, .int x0)]) (st' := [.int ((x0 &&& 168) ||| 64)]) rfl ?_
    exact st_retI rfl rfl (hQ _ _ h)
  · have h := Eq.mp (if_neg hc_1) h
    refine st_if (t := 14) (b := true) rfl (decide_eq_true hc_1) rfl ?_
    refine st_go 2 (pc' := 16) (lo' := [(0, .int x0)]) (st' := [.int ((x0 &&& 168) ||| 0)]) rfl ?_
    exact st_retI rfl rfl (hQ _ _ h)
set_option maxRecDepth 100000 in
def Machine_setFlags (x1 : Int32) (d : vmD) (Q : vmD → Prop) : Prop :=
  bnd (gA d 39 0) fun y_1 =>
  bnd (sA d 39 0 ((y_1 &&& 65280) ||| (x1 &&& 255))) fun d_2 =>
  Q d_2
set_option maxRecDepth 100000 in
set_option maxHeartbeats 4000000 in
theorem tMachine_setFlags {L : Nat} {e : vmD} {Qo : Option Value → vmW → Prop} {Q : vmD → Prop} (hQ : ∀ d, Q d → Qo none (wC L d e)) (x1 : Int32) (d : vmD) (h : Machine_setFlags x1 d Q) : vmWp 89 0 [(0, .ref 38), (1, .int x1)] [] (wC L d e) Qo := by
  unfold Machine_setFlags at h
  refine st_go 6 (pc' := 10) (lo' := [(0, .ref 38), (1, .int x1)]) (st' := [.int 0, .ref 39, .int 0, .ref 39]) rfl ?_
  refine st_ialdC (o := 39) rfl rfl (show ixOk 0 17 by decide) rfl (fun y_1 hy_y_1 => ?_)
  have h := h y_1 hy_y_1
  refine st_go 6 (pc' := 20) (lo' := [(0, .ref 38), (1, .int x1)]) (st' := [.int ((y_1 &&& 65280) ||| (x1 &&& 255)), .int 0, .ref 39]) rfl ?_
  refine st_iastC (o := 39) rfl rfl (show ixOk 0 17 by decide) rfl (fun d_2 hy_d_2 => ?_)
  have h := h d_2 hy_d_2
  exact st_retV rfl rfl (hQ _ h)
set_option maxRecDepth 100000 in
def Machine_pair_22 (x1 : Int32) (d : vmD) (Q : Int32 → vmD → Prop) : Prop :=
  if x1 = 43 then
  (Instruction_number d fun r_6 d_5 =>
  Memory_wordAt r_6 d_5 fun r_8 d_7 =>
  Q r_8 d_7)
  else
  (Instruction_number d fun r_10 d_9 =>
  Q r_10 d_9)
set_option maxRecDepth 100000 in
set_option maxHeartbeats 4000000 in
theorem tMachine_pair_22 {L : Nat} {e : vmD} {Qo : Option Value → vmW → Prop} {Q : Int32 → vmD → Prop} (hQ : ∀ r d, Q r d → Qo (some (.int r)) (wC L d e)) (x1 : Int32) (d : vmD) (h : Machine_pair_22 x1 d Q) : vmWp 96 22 [(0, .ref 38), (1, .int x1)] [] (wC L d e) Qo := by
  unfold Machine_pair_22 at h
  refine st_go 2 (pc' := 25) (lo' := [(0, .ref 38), (1, .int x1)]) (st' := [.int 43, .int x1]) rfl ?_
  by_cases hc_4 : x1 = 43
  · have h := Eq.mp (if_pos hc_4) h
    refine st_icmp (t := 28) (b := false) rfl (decide_eq_false (fun z => z hc_4)) rfl ?_
    refine st_go 4 (pc' := 36) (lo' := [(0, .ref 38), (1, .int x1)]) (st' := [.ref 19, .ref 1]) rfl ?_
    refine st_calli (k' := 68) (as := [.ref 19]) (rest := [.ref 1]) (lo' := [(0, .ref 19)]) (wf := fun d => wC L d e) rfl rfl rfl ?_
    refine tInstruction_number (fun r_6 d_5 h => ⟨r_6, d_5, rfl, rfl, ?_⟩) d h
    refine st_calli (k' := 129) (as := [.ref 1, .int r_6]) (rest := []) (lo' := [(0, .ref 1), (1, .int r_6)]) (wf := fun d => wC L d e) rfl rfl rfl ?_
    refine tMemory_wordAt (fun r_8 d_7 h => ⟨r_8, d_7, rfl, rfl, ?_⟩) r_6 d_5 h
    refine st_go 1 (pc' := 52) (lo' := [(0, .ref 38), (1, .int x1)]) (st' := [.int r_8]) rfl ?_
    exact st_retI rfl rfl (hQ _ _ h)
  · have h := Eq.mp (if_neg hc_4) h
    refine st_icmp (t := 45) (b := true) rfl (decide_eq_true hc_4) rfl ?_
    refine st_go 2 (pc' := 49) (lo' := [(0, .ref 38), (1, .int x1)]) (st' := [.ref 19]) rfl ?_
    refine st_calli (k' := 68) (as := [.ref 19]) (rest := []) (lo' := [(0, .ref 19)]) (wf := fun d => wC L d e) rfl rfl rfl ?_
    refine tInstruction_number (fun r_10 d_9 h => ⟨r_10, d_9, rfl, rfl, ?_⟩) d h
    exact st_retI rfl rfl (hQ _ _ h)
set_option maxRecDepth 100000 in
def Machine_pair (x1 : Int32) (d : vmD) (Q : Int32 → vmD → Prop) : Prop :=
  Machine_pairOf x1 d fun r_2 d_1 =>
  if r_2 < 0 then
  (Machine_pair_22 x1 d_1 Q)
  else
  (if r_2 < 17 then
  (ixOk r_2 17 ∧
  bnd (gA d_1 39 r_2.toNatClampNeg) fun y_13 =>
  Q y_13 d_1)
  else
  (Machine_pair_22 x1 d_1 Q))
set_option maxRecDepth 100000 in
set_option maxHeartbeats 4000000 in
theorem tMachine_pair {L : Nat} {e : vmD} {Qo : Option Value → vmW → Prop} {Q : Int32 → vmD → Prop} (hQ : ∀ r d, Q r d → Qo (some (.int r)) (wC L d e)) (x1 : Int32) (d : vmD) (h : Machine_pair x1 d Q) : vmWp 96 0 [(0, .ref 38), (1, .int x1)] [] (wC L d e) Qo := by
  unfold Machine_pair at h
  refine st_go 1 (pc' := 1) (lo' := [(0, .ref 38), (1, .int x1)]) (st' := [.int x1]) rfl ?_
  refine st_calli (k' := 95) (as := [.int x1]) (rest := []) (lo' := [(0, .int x1)]) (wf := fun d => wC L d e) rfl rfl rfl ?_
  refine tMachine_pairOf (fun r_2 d_1 h => ⟨r_2, d_1, rfl, rfl, ?_⟩) x1 d h
  refine st_go 2 (pc' := 6) (lo' := [(2, .int r_2), (0, .ref 38), (1, .int x1)]) (st' := [.int r_2]) rfl ?_
  by_cases hc_3 : r_2 < 0
  · have h := Eq.mp (if_pos hc_3) h
    refine st_if (t := 22) (b := true) rfl (decide_eq_true hc_3) rfl ?_
    refine vmWp.sub (lo' := [(0, .ref 38), (1, .int x1)]) ⟨rfl, rfl, trivial⟩ ?_
    exact tMachine_pair_22 hQ x1 d_1 h
  · have h := Eq.mp (if_neg hc_3) h
    refine st_if (t := 9) (b := false) rfl (decide_eq_false hc_3) rfl ?_
    refine st_go 2 (pc' := 12) (lo' := [(2, .int r_2), (0, .ref 38), (1, .int x1)]) (st' := [.int 17, .int r_2]) rfl ?_
    by_cases hc_11 : r_2 < 17
    · have h := Eq.mp (if_pos hc_11) h
      refine st_icmp (t := 15) (b := false) rfl (decide_eq_false (Int32.not_le.mpr hc_11)) rfl ?_
      refine st_go 3 (pc' := 20) (lo' := [(2, .int r_2), (0, .ref 38), (1, .int x1)]) (st' := [.int r_2, .ref 39]) rfl ?_
      obtain ⟨hj_12, h⟩ := h
      refine st_ialdC (o := 39) rfl rfl hj_12 rfl (fun y_13 hy_y_13 => ?_)
      have h := h y_13 hy_y_13
      exact st_retI rfl rfl (hQ _ _ h)
    · have h := Eq.mp (if_neg hc_11) h
      refine st_icmp (t := 22) (b := true) rfl (decide_eq_true (Int32.not_lt.mp hc_11)) rfl ?_
      refine vmWp.sub (lo' := [(0, .ref 38), (1, .int x1)]) ⟨rfl, rfl, trivial⟩ ?_
      exact tMachine_pair_22 hQ x1 d_1 h
set_option maxRecDepth 100000 in
def Memory_storeWord (x1 : Int32) (x2 : Int32) (d : vmD) (Q : vmD → Prop) : Prop :=
  Memory_store x1 x2 d fun d_1 =>
  Memory_store (x1 + 1) (x2 >>> ((8 : Int32) &&& 31)) d_1 fun d_2 =>
  Q d_2
set_option maxRecDepth 100000 in
set_option maxHeartbeats 4000000 in
theorem tMemory_storeWord {L : Nat} {e : vmD} {Qo : Option Value → vmW → Prop} {Q : vmD → Prop} (hQ : ∀ d, Q d → Qo none (wC L d e)) (x1 : Int32) (x2 : Int32) (d : vmD) (h : Memory_storeWord x1 x2 d Q) : vmWp 131 0 [(0, .ref 1), (1, .int x1), (2, .int x2)] [] (wC L d e) Qo := by
  unfold Memory_storeWord at h
  refine st_go 3 (pc' := 3) (lo' := [(0, .ref 1), (1, .int x1), (2, .int x2)]) (st' := [.int x2, .int x1, .ref 1]) rfl ?_
  refine st_callv (k' := 130) (as := [.ref 1, .int x1, .int x2]) (rest := []) (lo' := [(0, .ref 1), (1, .int x1), (2, .int x2)]) (wf := fun d => wC L d e) rfl rfl rfl ?_
  refine tMemory_store (fun d_1 h => ⟨d_1, rfl, rfl, ?_⟩) x1 x2 d h
  refine st_go 7 (pc' := 14) (lo' := [(0, .ref 1), (1, .int x1), (2, .int x2)]) (st' := [.int (x2 >>> ((8 : Int32) &&& 31)), .int (x1 + 1), .ref 1]) rfl ?_
  refine st_callv (k' := 130) (as := [.ref 1, .int (x1 + 1), .int (x2 >>> ((8 : Int32) &&& 31))]) (rest := []) (lo' := [(0, .ref 1), (1, .int (x1 + 1)), (2, .int (x2 >>> ((8 : Int32) &&& 31)))]) (wf := fun d => wC L d e) rfl rfl rfl ?_
  refine tMemory_store (fun d_2 h => ⟨d_2, rfl, rfl, ?_⟩) (x1 + 1) (x2 >>> ((8 : Int32) &&& 31)) d_1 h
  exact st_retV rfl rfl (hQ _ h)
set_option maxRecDepth 100000 in
def Machine_savePair_28 (x1 : Int32) (x2 : Int32) (d : vmD) (Q : vmD → Prop) : Prop :=
  if x1 = 43 then
  (Instruction_number d fun r_6 d_5 =>
  Memory_storeWord r_6 x2 d_5 fun d_7 =>
  Q d_7)
  else
  (Q d)
set_option maxRecDepth 100000 in
set_option maxHeartbeats 4000000 in
theorem tMachine_savePair_28 {L : Nat} {e : vmD} {Qo : Option Value → vmW → Prop} {Q : vmD → Prop} (hQ : ∀ d, Q d → Qo none (wC L d e)) (x1 : Int32) (x2 : Int32) (d : vmD) (h : Machine_savePair_28 x1 x2 d Q) : vmWp 97 28 [(0, .ref 38), (1, .int x1), (2, .int x2)] [] (wC L d e) Qo := by
  unfold Machine_savePair_28 at h
  refine st_go 2 (pc' := 31) (lo' := [(0, .ref 38), (1, .int x1), (2, .int x2)]) (st' := [.int 43, .int x1]) rfl ?_
  by_cases hc_4 : x1 = 43
  · have h := Eq.mp (if_pos hc_4) h
    refine st_icmp (t := 34) (b := false) rfl (decide_eq_false (fun z => z hc_4)) rfl ?_
    refine st_go 4 (pc' := 42) (lo' := [(0, .ref 38), (1, .int x1), (2, .int x2)]) (st' := [.ref 19, .ref 1]) rfl ?_
    refine st_calli (k' := 68) (as := [.ref 19]) (rest := [.ref 1]) (lo' := [(0, .ref 19)]) (wf := fun d => wC L d e) rfl rfl rfl ?_
    refine tInstruction_number (fun r_6 d_5 h => ⟨r_6, d_5, rfl, rfl, ?_⟩) d h
    refine st_go 1 (pc' := 46) (lo' := [(0, .ref 38), (1, .int x1), (2, .int x2)]) (st' := [.int x2, .int r_6, .ref 1]) rfl ?_
    refine st_callv (k' := 131) (as := [.ref 1, .int r_6, .int x2]) (rest := []) (lo' := [(0, .ref 1), (1, .int r_6), (2, .int x2)]) (wf := fun d => wC L d e) rfl rfl rfl ?_
    refine tMemory_storeWord (fun d_7 h => ⟨d_7, rfl, rfl, ?_⟩) r_6 x2 d_5 h
    exact st_retV rfl rfl (hQ _ h)
  · have h := Eq.mp (if_neg hc_4) h
    refine st_icmp (t := 49) (b := true) rfl (decide_eq_true hc_4) rfl ?_
    exact st_retV rfl rfl (hQ _ h)
set_option maxRecDepth 100000 in
def Machine_savePair (x1 : Int32) (x2 : Int32) (d : vmD) (Q : vmD → Prop) : Prop :=
  Machine_pairOf x1 d fun r_2 d_1 =>
  if r_2 < 0 then
  (Machine_savePair_28 x1 x2 d_1 Q)
  else
  (if r_2 < 17 then
  (ixOk r_2 17 ∧
  bnd (sA d_1 39 r_2.toNatClampNeg (x2 &&& 65535)) fun d_10 =>
  Q d_10)
  else
  (Machine_savePair_28 x1 x2 d_1 Q))
set_option maxRecDepth 100000 in
set_option maxHeartbeats 4000000 in
theorem tMachine_savePair {L : Nat} {e : vmD} {Qo : Option Value → vmW → Prop} {Q : vmD → Prop} (hQ : ∀ d, Q d → Qo none (wC L d e)) (x1 : Int32) (x2 : Int32) (d : vmD) (h : Machine_savePair x1 x2 d Q) : vmWp 97 0 [(0, .ref 38), (1, .int x1), (2, .int x2)] [] (wC L d e) Qo := by
  unfold Machine_savePair at h
  refine st_go 1 (pc' := 1) (lo' := [(0, .ref 38), (1, .int x1), (2, .int x2)]) (st' := [.int x1]) rfl ?_
  refine st_calli (k' := 95) (as := [.int x1]) (rest := []) (lo' := [(0, .int x1)]) (wf := fun d => wC L d e) rfl rfl rfl ?_
  refine tMachine_pairOf (fun r_2 d_1 h => ⟨r_2, d_1, rfl, rfl, ?_⟩) x1 d h
  refine st_go 2 (pc' := 6) (lo' := [(3, .int r_2), (0, .ref 38), (1, .int x1), (2, .int x2)]) (st' := [.int r_2]) rfl ?_
  by_cases hc_3 : r_2 < 0
  · have h := Eq.mp (if_pos hc_3) h
    refine st_if (t := 28) (b := true) rfl (decide_eq_true hc_3) rfl ?_
    refine vmWp.sub (lo' := [(0, .ref 38), (1, .int x1), (2, .int x2)]) ⟨rfl, rfl, rfl, trivial⟩ ?_
    exact tMachine_savePair_28 hQ x1 x2 d_1 h
  · have h := Eq.mp (if_neg hc_3) h
    refine st_if (t := 9) (b := false) rfl (decide_eq_false hc_3) rfl ?_
    refine st_go 2 (pc' := 12) (lo' := [(3, .int r_2), (0, .ref 38), (1, .int x1), (2, .int x2)]) (st' := [.int 17, .int r_2]) rfl ?_
    by_cases hc_8 : r_2 < 17
    · have h := Eq.mp (if_pos hc_8) h
      refine st_icmp (t := 15) (b := false) rfl (decide_eq_false (Int32.not_le.mpr hc_8)) rfl ?_
      refine st_go 6 (pc' := 24) (lo' := [(3, .int r_2), (0, .ref 38), (1, .int x1), (2, .int x2)]) (st' := [.int (x2 &&& 65535), .int r_2, .ref 39]) rfl ?_
      obtain ⟨hj_9, h⟩ := h
      refine st_iastC (o := 39) rfl rfl hj_9 rfl (fun d_10 hy_d_10 => ?_)
      have h := h d_10 hy_d_10
      refine st_go 1 (pc' := 49) (lo' := [(3, .int r_2), (0, .ref 38), (1, .int x1), (2, .int x2)]) (st' := []) rfl ?_
      exact st_retV rfl rfl (hQ _ h)
    · have h := Eq.mp (if_neg hc_8) h
      refine st_icmp (t := 28) (b := true) rfl (decide_eq_true (Int32.not_lt.mp hc_8)) rfl ?_
      refine vmWp.sub (lo' := [(0, .ref 38), (1, .int x1), (2, .int x2)]) ⟨rfl, rfl, rfl, trivial⟩ ?_
      exact tMachine_savePair_28 hQ x1 x2 d_1 h
set_option maxRecDepth 100000 in
def Machine_transfer_63 (s0 : Int32) (d : vmD) (Q : vmD → Prop) : Prop :=
  Machine_flags d fun r_14 d_13 =>
  Machine_load 8 d_13 fun r_16 d_15 =>
  Machine_signsOf r_16 d_15 fun r_18 d_17 =>
  Machine_setFlags (((r_14 &&& 1) ||| r_18) ||| s0) d_17 fun d_19 =>
  Q d_19
set_option maxRecDepth 100000 in
set_option maxHeartbeats 4000000 in
theorem tMachine_transfer_63 {L : Nat} {e : vmD} {Qo : Option Value → vmW → Prop} {Q : vmD → Prop} (hQ : ∀ d, Q d → Qo none (wC L d e)) (s0 : Int32) (d : vmD) (h : Machine_transfer_63 s0 d Q) : vmWp 102 63 [(0, .ref 38)] [.int s0] (wC L d e) Qo := by
  unfold Machine_transfer_63 at h
  refine st_go 3 (pc' := 66) (lo' := [(3, .int s0), (0, .ref 38)]) (st' := [.ref 38, .ref 38]) rfl ?_
  refine st_calli (k' := 88) (as := [.ref 38]) (rest := [.ref 38]) (lo' := [(0, .ref 38)]) (wf := fun d => wC L d e) rfl rfl rfl ?_
  refine tMachine_flags (fun r_14 d_13 h => ⟨r_14, d_13, rfl, rfl, ?_⟩) d h
  refine st_go 4 (pc' := 74) (lo' := [(3, .int s0), (0, .ref 38)]) (st' := [.int 8, .ref 38, .int (r_14 &&& 1), .ref 38]) rfl ?_
  refine st_calli (k' := 92) (as := [.ref 38, .int 8]) (rest := [.int (r_14 &&& 1), .ref 38]) (lo' := [(0, .ref 38), (1, .int 8)]) (wf := fun d => wC L d e) rfl rfl rfl ?_
  refine tMachine_load (fun r_16 d_15 h => ⟨r_16, d_15, rfl, rfl, ?_⟩) 8 d_13 h
  refine st_calli (k' := 90) (as := [.int r_16]) (rest := [.int (r_14 &&& 1), .ref 38]) (lo' := [(0, .int r_16)]) (wf := fun d => wC L d e) rfl rfl rfl ?_
  refine tMachine_signsOf (fun r_18 d_17 h => ⟨r_18, d_17, rfl, rfl, ?_⟩) r_16 d_15 h
  refine st_go 3 (pc' := 83) (lo' := [(3, .int s0), (0, .ref 38)]) (st' := [.int (((r_14 &&& 1) ||| r_18) ||| s0), .ref 38]) rfl ?_
  refine st_callv (k' := 89) (as := [.ref 38, .int (((r_14 &&& 1) ||| r_18) ||| s0)]) (rest := []) (lo' := [(0, .ref 38), (1, .int (((r_14 &&& 1) ||| r_18) ||| s0))]) (wf := fun d => wC L d e) rfl rfl rfl ?_
  refine tMachine_setFlags (fun d_19 h => ⟨d_19, rfl, rfl, ?_⟩) (((r_14 &&& 1) ||| r_18) ||| s0) d_17 h
  exact st_retV rfl rfl (hQ _ h)
set_option maxRecDepth 100000 in
def Machine_transfer_47 (d : vmD) (Q : vmD → Prop) : Prop :=
  bnd (gA d 39 15) fun y_11 =>
  if y_11 = 1 then
  (Machine_transfer_63 4 d Q)
  else
  (Machine_transfer_63 0 d Q)
set_option maxRecDepth 100000 in
set_option maxHeartbeats 4000000 in
theorem tMachine_transfer_47 {L : Nat} {e : vmD} {Qo : Option Value → vmW → Prop} {Q : vmD → Prop} (hQ : ∀ d, Q d → Qo none (wC L d e)) (d : vmD) (h : Machine_transfer_47 d Q) : vmWp 102 47 [(0, .ref 38)] [] (wC L d e) Qo := by
  unfold Machine_transfer_47 at h
  refine st_go 3 (pc' := 53) (lo' := [(0, .ref 38)]) (st' := [.int 15, .ref 39]) rfl ?_
  refine st_ialdC (o := 39) rfl rfl (show ixOk 15 17 by decide) rfl (fun y_11 hy_y_11 => ?_)
  have h := h y_11 hy_y_11
  refine st_go 1 (pc' := 55) (lo' := [(0, .ref 38)]) (st' := [.int 1, .int y_11]) rfl ?_
  by_cases hc_12 : y_11 = 1
  · have h := Eq.mp (if_pos hc_12) h
    refine st_icmp (t := 58) (b := false) rfl (decide_eq_false (fun z => z hc_12)) rfl ?_
    refine st_go 2 (pc' := 63) (lo' := [(0, .ref 38)]) (st' := [.int 4]) rfl ?_
    refine vmWp.sub (lo' := [(0, .ref 38)]) ⟨rfl, trivial⟩ ?_
    exact tMachine_transfer_63 hQ 4 d h
  · have h := Eq.mp (if_neg hc_12) h
    refine st_icmp (t := 62) (b := true) rfl (decide_eq_true hc_12) rfl ?_
    refine st_go 1 (pc' := 63) (lo' := [(0, .ref 38)]) (st' := [.int 0]) rfl ?_
    refine vmWp.sub (lo' := [(0, .ref 38)]) ⟨rfl, trivial⟩ ?_
    exact tMachine_transfer_63 hQ 0 d h
set_option maxRecDepth 100000 in
def Machine_transfer_14 (x1 : Int32) (x2 : Int32) (d : vmD) (Q : vmD → Prop) : Prop :=
  Machine_pair x2 d fun r_22 d_21 =>
  Machine_savePair x1 r_22 d_21 fun d_23 =>
  Q d_23
set_option maxRecDepth 100000 in
set_option maxHeartbeats 4000000 in
theorem tMachine_transfer_14 {L : Nat} {e : vmD} {Qo : Option Value → vmW → Prop} {Q : vmD → Prop} (hQ : ∀ d, Q d → Qo none (wC L d e)) (x1 : Int32) (x2 : Int32) (d : vmD) (h : Machine_transfer_14 x1 x2 d Q) : vmWp 102 14 [(0, .ref 38), (1, .int x1), (2, .int x2)] [] (wC L d e) Qo := by
  unfold Machine_transfer_14 at h
  refine st_go 4 (pc' := 18) (lo' := [(0, .ref 38), (1, .int x1), (2, .int x2)]) (st' := [.int x2, .ref 38, .int x1, .ref 38]) rfl ?_
  refine st_calli (k' := 96) (as := [.ref 38, .int x2]) (rest := [.int x1, .ref 38]) (lo' := [(0, .ref 38), (1, .int x2)]) (wf := fun d => wC L d e) rfl rfl rfl ?_
  refine tMachine_pair (fun r_22 d_21 h => ⟨r_22, d_21, rfl, rfl, ?_⟩) x2 d h
  refine st_callv (k' := 97) (as := [.ref 38, .int x1, .int r_22]) (rest := []) (lo' := [(0, .ref 38), (1, .int x1), (2, .int r_22)]) (wf := fun d => wC L d e) rfl rfl rfl ?_
  refine tMachine_savePair (fun d_23 h => ⟨d_23, rfl, rfl, ?_⟩) x1 r_22 d_21 h
  exact st_retV rfl rfl (hQ _ h)
set_option maxRecDepth 100000 in
def Machine_transfer (x1 : Int32) (x2 : Int32) (d : vmD) (Q : vmD → Prop) : Prop :=
  Machine_pairOf x1 d fun r_2 d_1 =>
  if r_2 < 0 then
  (Machine_pairOf x2 d_1 fun r_5 d_4 =>
  if r_5 < 0 then
  (Machine_load x2 d_4 fun r_8 d_7 =>
  Machine_save x1 r_8 d_7 fun d_9 =>
  if x2 = 17 then
  (Machine_transfer_47 d_9 Q)
  else
  (if x2 = 18 then
  (Machine_transfer_47 d_9 Q)
  else
  (Q d_9)))
  else
  (Machine_transfer_14 x1 x2 d_4 Q))
  else
  (Machine_transfer_14 x1 x2 d_1 Q)
set_option maxRecDepth 100000 in
set_option maxHeartbeats 4000000 in
theorem tMachine_transfer {L : Nat} {e : vmD} {Qo : Option Value → vmW → Prop} {Q : vmD → Prop} (hQ : ∀ d, Q d → Qo none (wC L d e)) (x1 : Int32) (x2 : Int32) (d : vmD) (h : Machine_transfer x1 x2 d Q) : vmWp 102 0 [(0, .ref 38), (1, .int x1), (2, .int x2)] [] (wC L d e) Qo := by
  unfold Machine_transfer at h
  refine st_go 1 (pc' := 1) (lo' := [(0, .ref 38), (1, .int x1), (2, .int x2)]) (st' := [.int x1]) rfl ?_
  refine st_calli (k' := 95) (as := [.int x1]) (rest := []) (lo' := [(0, .int x1)]) (wf := fun d => wC L d e) rfl rfl rfl ?_
  refine tMachine_pairOf (fun r_2 d_1 h => ⟨r_2, d_1, rfl, rfl, ?_⟩) x1 d h
  by_cases hc_3 : r_2 < 0
  · have h := Eq.mp (if_pos hc_3) h
    refine st_if (t := 7) (b := false) rfl (decide_eq_false (Int32.not_le.mpr hc_3)) rfl ?_
    refine st_go 1 (pc' := 8) (lo' := [(0, .ref 38), (1, .int x1), (2, .int x2)]) (st' := [.int x2]) rfl ?_
    refine st_calli (k' := 95) (as := [.int x2]) (rest := []) (lo' := [(0, .int x2)]) (wf := fun d => wC L d e) rfl rfl rfl ?_
    refine tMachine_pairOf (fun r_5 d_4 h => ⟨r_5, d_4, rfl, rfl, ?_⟩) x2 d_1 h
    by_cases hc_6 : r_5 < 0
    · have h := Eq.mp (if_pos hc_6) h
      refine st_if (t := 25) (b := true) rfl (decide_eq_true hc_6) rfl ?_
      refine st_go 4 (pc' := 29) (lo' := [(0, .ref 38), (1, .int x1), (2, .int x2)]) (st' := [.int x2, .ref 38, .int x1, .ref 38]) rfl ?_
      refine st_calli (k' := 92) (as := [.ref 38, .int x2]) (rest := [.int x1, .ref 38]) (lo' := [(0, .ref 38), (1, .int x2)]) (wf := fun d => wC L d e) rfl rfl rfl ?_
      refine tMachine_load (fun r_8 d_7 h => ⟨r_8, d_7, rfl, rfl, ?_⟩) x2 d_4 h
      refine st_callv (k' := 93) (as := [.ref 38, .int x1, .int r_8]) (rest := []) (lo' := [(0, .ref 38), (1, .int x1), (2, .int r_8)]) (wf := fun d => wC L d e) rfl rfl rfl ?_
      refine tMachine_save (fun d_9 h => ⟨d_9, rfl, rfl, ?_⟩) x1 r_8 d_7 h
      refine st_go 2 (pc' := 38) (lo' := [(0, .ref 38), (1, .int x1), (2, .int x2)]) (st' := [.int 17, .int x2]) rfl ?_
      by_cases hc_10 : x2 = 17
      · have h := Eq.mp (if_pos hc_10) h
        refine st_icmp (t := 47) (b := true) rfl (decide_eq_true hc_10) rfl ?_
        refine vmWp.sub (lo' := [(0, .ref 38)]) ⟨rfl, trivial⟩ ?_
        exact tMachine_transfer_47 hQ d_9 h
      · have h := Eq.mp (if_neg hc_10) h
        refine st_icmp (t := 41) (b := false) rfl (decide_eq_false hc_10) rfl ?_
        refine st_go 2 (pc' := 44) (lo' := [(0, .ref 38), (1, .int x1), (2, .int x2)]) (st' := [.int 18, .int x2]) rfl ?_
        by_cases hc_20 : x2 = 18
        · have h := Eq.mp (if_pos hc_20) h
          refine st_icmp (t := 47) (b := false) rfl (decide_eq_false (fun z => z hc_20)) rfl ?_
          refine vmWp.sub (lo' := [(0, .ref 38)]) ⟨rfl, trivial⟩ ?_
          exact tMachine_transfer_47 hQ d_9 h
        · have h := Eq.mp (if_neg hc_20) h
          refine st_icmp (t := 86) (b := true) rfl (decide_eq_true hc_20) rfl ?_
          exact st_retV rfl rfl (hQ _ h)
    · have h := Eq.mp (if_neg hc_6) h
      refine st_if (t := 14) (b := false) rfl (decide_eq_false hc_6) rfl ?_
      refine vmWp.sub (lo' := [(0, .ref 38), (1, .int x1), (2, .int x2)]) ⟨rfl, rfl, rfl, trivial⟩ ?_
      exact tMachine_transfer_14 hQ x1 x2 d_4 h
  · have h := Eq.mp (if_neg hc_3) h
    refine st_if (t := 14) (b := true) rfl (decide_eq_true (Int32.not_lt.mp hc_3)) rfl ?_
    refine vmWp.sub (lo' := [(0, .ref 38), (1, .int x1), (2, .int x2)]) ⟨rfl, rfl, rfl, trivial⟩ ?_
    exact tMachine_transfer_14 hQ x1 x2 d_1 h
set_option maxRecDepth 100000 in
def Machine_sum (x1 : Int32) (x2 : Int32) (x3 : Int32) (d : vmD) (Q : Int32 → vmD → Prop) : Prop :=
  bnd ((x1 + x2) + x3) fun x4_1 =>
  bnd (((x1 ^^^ x4_1) &&& (x2 ^^^ x4_1)) &&& 128) fun x5_2 =>
  Machine_signsOf (x4_1 &&& 255) d fun r_4 d_3 =>
  Machine_setFlags (((r_4 ||| (((x1 ^^^ x2) ^^^ x4_1) &&& 16)) ||| (x5_2 >>> ((5 : Int32) &&& 31))) ||| ((x4_1 >>> ((8 : Int32) &&& 31)) &&& 1)) d_3 fun d_5 =>
  Q (x4_1 &&& 255) d_5
set_option maxRecDepth 100000 in
set_option maxHeartbeats 4000000 in
theorem tMachine_sum {L : Nat} {e : vmD} {Qo : Option Value → vmW → Prop} {Q : Int32 → vmD → Prop} (hQ : ∀ r d, Q r d → Qo (some (.int r)) (wC L d e)) (x1 : Int32) (x2 : Int32) (x3 : Int32) (d : vmD) (h : Machine_sum x1 x2 x3 d Q) : vmWp 107 0 [(0, .ref 38), (1, .int x1), (2, .int x2), (3, .int x3)] [] (wC L d e) Qo := by
  unfold Machine_sum at h
  refine st_go 6 (pc' := 7) (lo' := [(4, .int ((x1 + x2) + x3)), (0, .ref 38), (1, .int x1), (2, .int x2), (3, .int x3)]) (st' := []) rfl ?_
  refine st_locI (fun x4_1 hy_x4_1 => ?_)
  have h := h x4_1 hy_x4_1
  refine st_go 10 (pc' := 22) (lo' := [(5, .int (((x1 ^^^ x4_1) &&& (x2 ^^^ x4_1)) &&& 128)), (4, .int x4_1), (0, .ref 38), (1, .int x1), (2, .int x2), (3, .int x3)]) (st' := []) rfl ?_
  refine st_locI (fun x5_2 hy_x5_2 => ?_)
  have h := h x5_2 hy_x5_2
  refine st_go 4 (pc' := 29) (lo' := [(5, .int x5_2), (4, .int x4_1), (0, .ref 38), (1, .int x1), (2, .int x2), (3, .int x3)]) (st' := [.int (x4_1 &&& 255), .ref 38]) rfl ?_
  refine st_calli (k' := 90) (as := [.int (x4_1 &&& 255)]) (rest := [.ref 38]) (lo' := [(0, .int (x4_1 &&& 255))]) (wf := fun d => wC L d e) rfl rfl rfl ?_
  refine tMachine_signsOf (fun r_4 d_3 h => ⟨r_4, d_3, rfl, rfl, ?_⟩) (x4_1 &&& 255) d h
  refine st_go 18 (pc' := 55) (lo' := [(5, .int x5_2), (4, .int x4_1), (0, .ref 38), (1, .int x1), (2, .int x2), (3, .int x3)]) (st' := [.int (((r_4 ||| (((x1 ^^^ x2) ^^^ x4_1) &&& 16)) ||| (x5_2 >>> ((5 : Int32) &&& 31))) ||| ((x4_1 >>> ((8 : Int32) &&& 31)) &&& 1)), .ref 38]) rfl ?_
  refine st_callv (k' := 89) (as := [.ref 38, .int (((r_4 ||| (((x1 ^^^ x2) ^^^ x4_1) &&& 16)) ||| (x5_2 >>> ((5 : Int32) &&& 31))) ||| ((x4_1 >>> ((8 : Int32) &&& 31)) &&& 1))]) (rest := []) (lo' := [(0, .ref 38), (1, .int (((r_4 ||| (((x1 ^^^ x2) ^^^ x4_1) &&& 16)) ||| (x5_2 >>> ((5 : Int32) &&& 31))) ||| ((x4_1 >>> ((8 : Int32) &&& 31)) &&& 1)))]) (wf := fun d => wC L d e) rfl rfl rfl ?_
  refine tMachine_setFlags (fun d_5 h => ⟨d_5, rfl, rfl, ?_⟩) (((r_4 ||| (((x1 ^^^ x2) ^^^ x4_1) &&& 16)) ||| (x5_2 >>> ((5 : Int32) &&& 31))) ||| ((x4_1 >>> ((8 : Int32) &&& 31)) &&& 1)) d_3 h
  refine st_go 3 (pc' := 64) (lo' := [(5, .int x5_2), (4, .int x4_1), (0, .ref 38), (1, .int x1), (2, .int x2), (3, .int x3)]) (st' := [.int (x4_1 &&& 255)]) rfl ?_
  exact st_retI rfl rfl (hQ _ _ h)
set_option maxRecDepth 100000 in
def Machine_difference (x1 : Int32) (x2 : Int32) (x3 : Int32) (d : vmD) (Q : Int32 → vmD → Prop) : Prop :=
  bnd ((x1 - x2) - x3) fun x4_1 =>
  bnd (((x1 ^^^ x2) &&& (x1 ^^^ x4_1)) &&& 128) fun x5_2 =>
  Machine_signsOf (x4_1 &&& 255) d fun r_4 d_3 =>
  Machine_setFlags ((((r_4 ||| (((x1 ^^^ x2) ^^^ x4_1) &&& 16)) ||| (x5_2 >>> ((5 : Int32) &&& 31))) ||| 2) ||| ((x4_1 >>> ((8 : Int32) &&& 31)) &&& 1)) d_3 fun d_5 =>
  Q (x4_1 &&& 255) d_5
set_option maxRecDepth 100000 in
set_option maxHeartbeats 4000000 in
theorem tMachine_difference {L : Nat} {e : vmD} {Qo : Option Value → vmW → Prop} {Q : Int32 → vmD → Prop} (hQ : ∀ r d, Q r d → Qo (some (.int r)) (wC L d e)) (x1 : Int32) (x2 : Int32) (x3 : Int32) (d : vmD) (h : Machine_difference x1 x2 x3 d Q) : vmWp 108 0 [(0, .ref 38), (1, .int x1), (2, .int x2), (3, .int x3)] [] (wC L d e) Qo := by
  unfold Machine_difference at h
  refine st_go 6 (pc' := 7) (lo' := [(4, .int ((x1 - x2) - x3)), (0, .ref 38), (1, .int x1), (2, .int x2), (3, .int x3)]) (st' := []) rfl ?_
  refine st_locI (fun x4_1 hy_x4_1 => ?_)
  have h := h x4_1 hy_x4_1
  refine st_go 10 (pc' := 21) (lo' := [(5, .int (((x1 ^^^ x2) &&& (x1 ^^^ x4_1)) &&& 128)), (4, .int x4_1), (0, .ref 38), (1, .int x1), (2, .int x2), (3, .int x3)]) (st' := []) rfl ?_
  refine st_locI (fun x5_2 hy_x5_2 => ?_)
  have h := h x5_2 hy_x5_2
  refine st_go 4 (pc' := 28) (lo' := [(5, .int x5_2), (4, .int x4_1), (0, .ref 38), (1, .int x1), (2, .int x2), (3, .int x3)]) (st' := [.int (x4_1 &&& 255), .ref 38]) rfl ?_
  refine st_calli (k' := 90) (as := [.int (x4_1 &&& 255)]) (rest := [.ref 38]) (lo' := [(0, .int (x4_1 &&& 255))]) (wf := fun d => wC L d e) rfl rfl rfl ?_
  refine tMachine_signsOf (fun r_4 d_3 h => ⟨r_4, d_3, rfl, rfl, ?_⟩) (x4_1 &&& 255) d h
  refine st_go 20 (pc' := 56) (lo' := [(5, .int x5_2), (4, .int x4_1), (0, .ref 38), (1, .int x1), (2, .int x2), (3, .int x3)]) (st' := [.int ((((r_4 ||| (((x1 ^^^ x2) ^^^ x4_1) &&& 16)) ||| (x5_2 >>> ((5 : Int32) &&& 31))) ||| 2) ||| ((x4_1 >>> ((8 : Int32) &&& 31)) &&& 1)), .ref 38]) rfl ?_
  refine st_callv (k' := 89) (as := [.ref 38, .int ((((r_4 ||| (((x1 ^^^ x2) ^^^ x4_1) &&& 16)) ||| (x5_2 >>> ((5 : Int32) &&& 31))) ||| 2) ||| ((x4_1 >>> ((8 : Int32) &&& 31)) &&& 1))]) (rest := []) (lo' := [(0, .ref 38), (1, .int ((((r_4 ||| (((x1 ^^^ x2) ^^^ x4_1) &&& 16)) ||| (x5_2 >>> ((5 : Int32) &&& 31))) ||| 2) ||| ((x4_1 >>> ((8 : Int32) &&& 31)) &&& 1)))]) (wf := fun d => wC L d e) rfl rfl rfl ?_
  refine tMachine_setFlags (fun d_5 h => ⟨d_5, rfl, rfl, ?_⟩) ((((r_4 ||| (((x1 ^^^ x2) ^^^ x4_1) &&& 16)) ||| (x5_2 >>> ((5 : Int32) &&& 31))) ||| 2) ||| ((x4_1 >>> ((8 : Int32) &&& 31)) &&& 1)) d_3 h
  refine st_go 3 (pc' := 65) (lo' := [(5, .int x5_2), (4, .int x4_1), (0, .ref 38), (1, .int x1), (2, .int x2), (3, .int x3)]) (st' := [.int (x4_1 &&& 255)]) rfl ?_
  exact st_retI rfl rfl (hQ _ _ h)
set_option maxRecDepth 100000 in
def Machine_change_59 (x3 : Int32) (s0 : Int32) (s1 : Int32) (d : vmD) (Q : vmD → Prop) : Prop :=
  Machine_save s1 s0 d fun d_12 =>
  Machine_flags d_12 fun r_14 d_13 =>
  Machine_setFlags ((r_14 &&& (-2)) ||| x3) d_13 fun d_15 =>
  Q d_15
set_option maxRecDepth 100000 in
set_option maxHeartbeats 4000000 in
theorem tMachine_change_59 {L : Nat} {e : vmD} {Qo : Option Value → vmW → Prop} {Q : vmD → Prop} (hQ : ∀ d, Q d → Qo none (wC L d e)) (x3 : Int32) (s0 : Int32) (s1 : Int32) (d : vmD) (h : Machine_change_59 x3 s0 s1 d Q) : vmWp 111 59 [(0, .ref 38), (3, .int x3)] [.int s0, .int s1, .ref 38] (wC L d e) Qo := by
  unfold Machine_change_59 at h
  refine st_callv (k' := 93) (as := [.ref 38, .int s1, .int s0]) (rest := []) (lo' := [(0, .ref 38), (1, .int s1), (2, .int s0)]) (wf := fun d => wC L d e) rfl rfl rfl ?_
  refine tMachine_save (fun d_12 h => ⟨d_12, rfl, rfl, ?_⟩) s1 s0 d h
  refine st_go 2 (pc' := 64) (lo' := [(0, .ref 38), (3, .int x3)]) (st' := [.ref 38, .ref 38]) rfl ?_
  refine st_calli (k' := 88) (as := [.ref 38]) (rest := [.ref 38]) (lo' := [(0, .ref 38)]) (wf := fun d => wC L d e) rfl rfl rfl ?_
  refine tMachine_flags (fun r_14 d_13 h => ⟨r_14, d_13, rfl, rfl, ?_⟩) d_12 h
  refine st_go 4 (pc' := 72) (lo' := [(0, .ref 38), (3, .int x3)]) (st' := [.int ((r_14 &&& (-2)) ||| x3), .ref 38]) rfl ?_
  refine st_callv (k' := 89) (as := [.ref 38, .int ((r_14 &&& (-2)) ||| x3)]) (rest := []) (lo' := [(0, .ref 38), (1, .int ((r_14 &&& (-2)) ||| x3))]) (wf := fun d => wC L d e) rfl rfl rfl ?_
  refine tMachine_setFlags (fun d_15 h => ⟨d_15, rfl, rfl, ?_⟩) ((r_14 &&& (-2)) ||| x3) d_13 h
  exact st_retV rfl rfl (hQ _ h)
set_option maxRecDepth 100000 in
def Machine_change (x1 : Int32) (x2 : Int32) (d : vmD) (Q : vmD → Prop) : Prop :=
  Machine_pairOf x1 d fun r_2 d_1 =>
  if r_2 < 0 then
  (Machine_flags d_1 fun r_5 d_4 =>
  bnd (r_5 &&& 1) fun x3_6 =>
  Machine_load x1 d_4 fun r_8 d_7 =>
  if (0 : Int32) < x2 then
  (Machine_sum r_8 1 0 d_7 fun r_11 d_10 =>
  Machine_change_59 x3_6 r_11 x1 d_10 Q)
  else
  (Machine_difference r_8 1 0 d_7 fun r_17 d_16 =>
  Machine_change_59 x3_6 r_17 x1 d_16 Q))
  else
  (Machine_pair x1 d_1 fun r_19 d_18 =>
  Machine_savePair x1 (r_19 + x2) d_18 fun d_20 =>
  Q d_20)
set_option maxRecDepth 100000 in
set_option maxHeartbeats 4000000 in
theorem tMachine_change {L : Nat} {e : vmD} {Qo : Option Value → vmW → Prop} {Q : vmD → Prop} (hQ : ∀ d, Q d → Qo none (wC L d e)) (x1 : Int32) (x2 : Int32) (d : vmD) (h : Machine_change x1 x2 d Q) : vmWp 111 0 [(0, .ref 38), (1, .int x1), (2, .int x2)] [] (wC L d e) Qo := by
  unfold Machine_change at h
  refine st_go 1 (pc' := 1) (lo' := [(0, .ref 38), (1, .int x1), (2, .int x2)]) (st' := [.int x1]) rfl ?_
  refine st_calli (k' := 95) (as := [.int x1]) (rest := []) (lo' := [(0, .int x1)]) (wf := fun d => wC L d e) rfl rfl rfl ?_
  refine tMachine_pairOf (fun r_2 d_1 h => ⟨r_2, d_1, rfl, rfl, ?_⟩) x1 d h
  by_cases hc_3 : r_2 < 0
  · have h := Eq.mp (if_pos hc_3) h
    refine st_if (t := 20) (b := true) rfl (decide_eq_true hc_3) rfl ?_
    refine st_go 1 (pc' := 21) (lo' := [(0, .ref 38), (1, .int x1), (2, .int x2)]) (st' := [.ref 38]) rfl ?_
    refine st_calli (k' := 88) (as := [.ref 38]) (rest := []) (lo' := [(0, .ref 38)]) (wf := fun d => wC L d e) rfl rfl rfl ?_
    refine tMachine_flags (fun r_5 d_4 h => ⟨r_5, d_4, rfl, rfl, ?_⟩) d_1 h
    refine st_go 3 (pc' := 27) (lo' := [(3, .int (r_5 &&& 1)), (0, .ref 38), (1, .int x1), (2, .int x2)]) (st' := []) rfl ?_
    refine st_locI (fun x3_6 hy_x3_6 => ?_)
    have h := h x3_6 hy_x3_6
    refine st_go 2 (pc' := 29) (lo' := [(3, .int x3_6), (0, .ref 38), (1, .int x1), (2, .int x2)]) (st' := [.int x1, .ref 38]) rfl ?_
    refine st_calli (k' := 92) (as := [.ref 38, .int x1]) (rest := []) (lo' := [(0, .ref 38), (1, .int x1)]) (wf := fun d => wC L d e) rfl rfl rfl ?_
    refine tMachine_load (fun r_8 d_7 h => ⟨r_8, d_7, rfl, rfl, ?_⟩) x1 d_4 h
    refine st_go 4 (pc' := 37) (lo' := [(4, .int r_8), (3, .int x3_6), (0, .ref 38), (1, .int x1), (2, .int x2)]) (st' := [.int x2, .int x1, .ref 38]) rfl ?_
    by_cases hc_9 : (0 : Int32) < x2
    · have h := Eq.mp (if_pos hc_9) h
      refine st_if (t := 40) (b := false) rfl (decide_eq_false (Int32.not_le.mpr hc_9)) rfl ?_
      refine st_go 4 (pc' := 45) (lo' := [(4, .int r_8), (3, .int x3_6), (0, .ref 38), (1, .int x1), (2, .int x2)]) (st' := [.int 0, .int 1, .int r_8, .ref 38, .int x1, .ref 38]) rfl ?_
      refine st_calli (k' := 107) (as := [.ref 38, .int r_8, .int 1, .int 0]) (rest := [.int x1, .ref 38]) (lo' := [(0, .ref 38), (1, .int r_8), (2, .int 1), (3, .int 0)]) (wf := fun d => wC L d e) rfl rfl rfl ?_
      refine tMachine_sum (fun r_11 d_10 h => ⟨r_11, d_10, rfl, rfl, ?_⟩) r_8 1 0 d_7 h
      refine st_go 1 (pc' := 59) (lo' := [(4, .int r_8), (3, .int x3_6), (0, .ref 38), (1, .int x1), (2, .int x2)]) (st' := [.int r_11, .int x1, .ref 38]) rfl ?_
      refine vmWp.sub (lo' := [(0, .ref 38), (3, .int x3_6)]) ⟨rfl, rfl, trivial⟩ ?_
      exact tMachine_change_59 hQ x3_6 r_11 x1 d_10 h
    · have h := Eq.mp (if_neg hc_9) h
      refine st_if (t := 51) (b := true) rfl (decide_eq_true (Int32.not_lt.mp hc_9)) rfl ?_
      refine st_go 4 (pc' := 56) (lo' := [(4, .int r_8), (3, .int x3_6), (0, .ref 38), (1, .int x1), (2, .int x2)]) (st' := [.int 0, .int 1, .int r_8, .ref 38, .int x1, .ref 38]) rfl ?_
      refine st_calli (k' := 108) (as := [.ref 38, .int r_8, .int 1, .int 0]) (rest := [.int x1, .ref 38]) (lo' := [(0, .ref 38), (1, .int r_8), (2, .int 1), (3, .int 0)]) (wf := fun d => wC L d e) rfl rfl rfl ?_
      refine tMachine_difference (fun r_17 d_16 h => ⟨r_17, d_16, rfl, rfl, ?_⟩) r_8 1 0 d_7 h
      refine vmWp.sub (lo' := [(0, .ref 38), (3, .int x3_6)]) ⟨rfl, rfl, trivial⟩ ?_
      exact tMachine_change_59 hQ x3_6 r_17 x1 d_16 h
  · have h := Eq.mp (if_neg hc_3) h
    refine st_if (t := 7) (b := false) rfl (decide_eq_false hc_3) rfl ?_
    refine st_go 4 (pc' := 11) (lo' := [(0, .ref 38), (1, .int x1), (2, .int x2)]) (st' := [.int x1, .ref 38, .int x1, .ref 38]) rfl ?_
    refine st_calli (k' := 96) (as := [.ref 38, .int x1]) (rest := [.int x1, .ref 38]) (lo' := [(0, .ref 38), (1, .int x1)]) (wf := fun d => wC L d e) rfl rfl rfl ?_
    refine tMachine_pair (fun r_19 d_18 h => ⟨r_19, d_18, rfl, rfl, ?_⟩) x1 d_1 h
    refine st_go 2 (pc' := 16) (lo' := [(0, .ref 38), (1, .int x1), (2, .int x2)]) (st' := [.int (r_19 + x2), .int x1, .ref 38]) rfl ?_
    refine st_callv (k' := 97) (as := [.ref 38, .int x1, .int (r_19 + x2)]) (rest := []) (lo' := [(0, .ref 38), (1, .int x1), (2, .int (r_19 + x2))]) (wf := fun d => wC L d e) rfl rfl rfl ?_
    refine tMachine_savePair (fun d_20 h => ⟨d_20, rfl, rfl, ?_⟩) x1 (r_19 + x2) d_18 h
    exact st_retV rfl rfl (hQ _ h)
set_option maxRecDepth 100000 in
def Machine_swap (x1 : Int32) (x2 : Int32) (d : vmD) (Q : vmD → Prop) : Prop :=
  if x1 < 0 then
  (Q d)
  else
  (if x1 < 17 then
  (if x2 < 0 then
  (Q d)
  else
  (if x2 < 17 then
  (ixOk x1 17 ∧
  bnd (gA d 39 x1.toNatClampNeg) fun y_6 =>
  ixOk x2 17 ∧
  bnd (gA d 39 x2.toNatClampNeg) fun y_8 =>
  ixOk x1 17 ∧
  bnd (sA d 39 x1.toNatClampNeg y_8) fun d_10 =>
  ixOk x2 17 ∧
  bnd (sA d_10 39 x2.toNatClampNeg y_6) fun d_12 =>
  Q d_12)
  else
  (Q d)))
  else
  (Q d))
set_option maxRecDepth 100000 in
set_option maxHeartbeats 4000000 in
theorem tMachine_swap {L : Nat} {e : vmD} {Qo : Option Value → vmW → Prop} {Q : vmD → Prop} (hQ : ∀ d, Q d → Qo none (wC L d e)) (x1 : Int32) (x2 : Int32) (d : vmD) (h : Machine_swap x1 x2 d Q) : vmWp 100 0 [(0, .ref 38), (1, .int x1), (2, .int x2)] [] (wC L d e) Qo := by
  unfold Machine_swap at h
  refine st_go 1 (pc' := 1) (lo' := [(0, .ref 38), (1, .int x1), (2, .int x2)]) (st' := [.int x1]) rfl ?_
  by_cases hc_1 : x1 < 0
  · have h := Eq.mp (if_pos hc_1) h
    refine st_if (t := 46) (b := true) rfl (decide_eq_true hc_1) rfl ?_
    exact st_retV rfl rfl (hQ _ h)
  · have h := Eq.mp (if_neg hc_1) h
    refine st_if (t := 4) (b := false) rfl (decide_eq_false hc_1) rfl ?_
    refine st_go 2 (pc' := 7) (lo' := [(0, .ref 38), (1, .int x1), (2, .int x2)]) (st' := [.int 17, .int x1]) rfl ?_
    by_cases hc_2 : x1 < 17
    · have h := Eq.mp (if_pos hc_2) h
      refine st_icmp (t := 10) (b := false) rfl (decide_eq_false (Int32.not_le.mpr hc_2)) rfl ?_
      refine st_go 1 (pc' := 11) (lo' := [(0, .ref 38), (1, .int x1), (2, .int x2)]) (st' := [.int x2]) rfl ?_
      by_cases hc_3 : x2 < 0
      · have h := Eq.mp (if_pos hc_3) h
        refine st_if (t := 46) (b := true) rfl (decide_eq_true hc_3) rfl ?_
        exact st_retV rfl rfl (hQ _ h)
      · have h := Eq.mp (if_neg hc_3) h
        refine st_if (t := 14) (b := false) rfl (decide_eq_false hc_3) rfl ?_
        refine st_go 2 (pc' := 17) (lo' := [(0, .ref 38), (1, .int x1), (2, .int x2)]) (st' := [.int 17, .int x2]) rfl ?_
        by_cases hc_4 : x2 < 17
        · have h := Eq.mp (if_pos hc_4) h
          refine st_icmp (t := 20) (b := false) rfl (decide_eq_false (Int32.not_le.mpr hc_4)) rfl ?_
          refine st_go 3 (pc' := 25) (lo' := [(0, .ref 38), (1, .int x1), (2, .int x2)]) (st' := [.int x1, .ref 39]) rfl ?_
          obtain ⟨hj_5, h⟩ := h
          refine st_ialdC (o := 39) rfl rfl hj_5 rfl (fun y_6 hy_y_6 => ?_)
          have h := h y_6 hy_y_6
          refine st_go 7 (pc' := 37) (lo' := [(3, .int y_6), (0, .ref 38), (1, .int x1), (2, .int x2)]) (st' := [.int x2, .ref 39, .int x1, .ref 39]) rfl ?_
          obtain ⟨hj_7, h⟩ := h
          refine st_ialdC (o := 39) rfl rfl hj_7 rfl (fun y_8 hy_y_8 => ?_)
          have h := h y_8 hy_y_8
          obtain ⟨hj_9, h⟩ := h
          refine st_iastC (o := 39) rfl rfl hj_9 rfl (fun d_10 hy_d_10 => ?_)
          have h := h d_10 hy_d_10
          refine st_go 4 (pc' := 45) (lo' := [(3, .int y_6), (0, .ref 38), (1, .int x1), (2, .int x2)]) (st' := [.int y_6, .int x2, .ref 39]) rfl ?_
          obtain ⟨hj_11, h⟩ := h
          refine st_iastC (o := 39) rfl rfl hj_11 rfl (fun d_12 hy_d_12 => ?_)
          have h := h d_12 hy_d_12
          exact st_retV rfl rfl (hQ _ h)
        · have h := Eq.mp (if_neg hc_4) h
          refine st_icmp (t := 46) (b := true) rfl (decide_eq_true (Int32.not_lt.mp hc_4)) rfl ?_
          exact st_retV rfl rfl (hQ _ h)
    · have h := Eq.mp (if_neg hc_2) h
      refine st_icmp (t := 46) (b := true) rfl (decide_eq_true (Int32.not_lt.mp hc_2)) rfl ?_
      exact st_retV rfl rfl (hQ _ h)
set_option maxRecDepth 100000 in
def Machine_exchange (x1 : Int32) (x2 : Int32) (d : vmD) (Q : vmD → Prop) : Prop :=
  if x1 = 13 then
  (Machine_swap 0 4 d fun d_2 =>
  Q d_2)
  else
  (if x1 = 10 then
  (Machine_swap 2 3 d fun d_4 =>
  Q d_4)
  else
  (Machine_pair x2 d fun r_6 d_5 =>
  bnd (gA d_5 39 10) fun y_7 =>
  Memory_wordAt y_7 d_5 fun r_9 d_8 =>
  Machine_savePair x2 r_9 d_8 fun d_10 =>
  bnd (gA d_10 39 10) fun y_11 =>
  Memory_storeWord y_11 r_6 d_10 fun d_12 =>
  Q d_12))
set_option maxRecDepth 100000 in
set_option maxHeartbeats 4000000 in
theorem tMachine_exchange {L : Nat} {e : vmD} {Qo : Option Value → vmW → Prop} {Q : vmD → Prop} (hQ : ∀ d, Q d → Qo none (wC L d e)) (x1 : Int32) (x2 : Int32) (d : vmD) (h : Machine_exchange x1 x2 d Q) : vmWp 101 0 [(0, .ref 38), (1, .int x1), (2, .int x2)] [] (wC L d e) Qo := by
  unfold Machine_exchange at h
  refine st_go 2 (pc' := 3) (lo' := [(0, .ref 38), (1, .int x1), (2, .int x2)]) (st' := [.int 13, .int x1]) rfl ?_
  by_cases hc_1 : x1 = 13
  · have h := Eq.mp (if_pos hc_1) h
    refine st_icmp (t := 6) (b := false) rfl (decide_eq_false (fun z => z hc_1)) rfl ?_
    refine st_go 3 (pc' := 9) (lo' := [(0, .ref 38), (1, .int x1), (2, .int x2)]) (st' := [.int 4, .int 0, .ref 38]) rfl ?_
    refine st_callv (k' := 100) (as := [.ref 38, .int 0, .int 4]) (rest := []) (lo' := [(0, .ref 38), (1, .int 0), (2, .int 4)]) (wf := fun d => wC L d e) rfl rfl rfl ?_
    refine tMachine_swap (fun d_2 h => ⟨d_2, rfl, rfl, ?_⟩) 0 4 d h
    refine st_go 1 (pc' := 70) (lo' := [(0, .ref 38), (1, .int x1), (2, .int x2)]) (st' := []) rfl ?_
    exact st_retV rfl rfl (hQ _ h)
  · have h := Eq.mp (if_neg hc_1) h
    refine st_icmp (t := 15) (b := true) rfl (decide_eq_true hc_1) rfl ?_
    refine st_go 2 (pc' := 18) (lo' := [(0, .ref 38), (1, .int x1), (2, .int x2)]) (st' := [.int 10, .int x1]) rfl ?_
    by_cases hc_3 : x1 = 10
    · have h := Eq.mp (if_pos hc_3) h
      refine st_icmp (t := 21) (b := false) rfl (decide_eq_false (fun z => z hc_3)) rfl ?_
      refine st_go 3 (pc' := 24) (lo' := [(0, .ref 38), (1, .int x1), (2, .int x2)]) (st' := [.int 3, .int 2, .ref 38]) rfl ?_
      refine st_callv (k' := 100) (as := [.ref 38, .int 2, .int 3]) (rest := []) (lo' := [(0, .ref 38), (1, .int 2), (2, .int 3)]) (wf := fun d => wC L d e) rfl rfl rfl ?_
      refine tMachine_swap (fun d_4 h => ⟨d_4, rfl, rfl, ?_⟩) 2 3 d h
      refine st_go 1 (pc' := 70) (lo' := [(0, .ref 38), (1, .int x1), (2, .int x2)]) (st' := []) rfl ?_
      exact st_retV rfl rfl (hQ _ h)
    · have h := Eq.mp (if_neg hc_3) h
      refine st_icmp (t := 30) (b := true) rfl (decide_eq_true hc_3) rfl ?_
      refine st_go 2 (pc' := 32) (lo' := [(0, .ref 38), (1, .int x1), (2, .int x2)]) (st' := [.int x2, .ref 38]) rfl ?_
      refine st_calli (k' := 96) (as := [.ref 38, .int x2]) (rest := []) (lo' := [(0, .ref 38), (1, .int x2)]) (wf := fun d => wC L d e) rfl rfl rfl ?_
      refine tMachine_pair (fun r_6 d_5 h => ⟨r_6, d_5, rfl, rfl, ?_⟩) x2 d h
      refine st_go 8 (pc' := 48) (lo' := [(3, .int r_6), (0, .ref 38), (1, .int x1), (2, .int x2)]) (st' := [.int 10, .ref 39, .ref 1, .int x2, .ref 38]) rfl ?_
      refine st_ialdC (o := 39) rfl rfl (show ixOk 10 17 by decide) rfl (fun y_7 hy_y_7 => ?_)
      have h := h y_7 hy_y_7
      refine st_calli (k' := 129) (as := [.ref 1, .int y_7]) (rest := [.int x2, .ref 38]) (lo' := [(0, .ref 1), (1, .int y_7)]) (wf := fun d => wC L d e) rfl rfl rfl ?_
      refine tMemory_wordAt (fun r_9 d_8 h => ⟨r_9, d_8, rfl, rfl, ?_⟩) y_7 d_5 h
      refine st_callv (k' := 97) (as := [.ref 38, .int x2, .int r_9]) (rest := []) (lo' := [(0, .ref 38), (1, .int x2), (2, .int r_9)]) (wf := fun d => wC L d e) rfl rfl rfl ?_
      refine tMachine_savePair (fun d_10 h => ⟨d_10, rfl, rfl, ?_⟩) x2 r_9 d_8 h
      refine st_go 5 (pc' := 65) (lo' := [(3, .int r_6), (0, .ref 38), (1, .int x1), (2, .int x2)]) (st' := [.int 10, .ref 39, .ref 1]) rfl ?_
      refine st_ialdC (o := 39) rfl rfl (show ixOk 10 17 by decide) rfl (fun y_11 hy_y_11 => ?_)
      have h := h y_11 hy_y_11
      refine st_go 1 (pc' := 67) (lo' := [(3, .int r_6), (0, .ref 38), (1, .int x1), (2, .int x2)]) (st' := [.int r_6, .int y_11, .ref 1]) rfl ?_
      refine st_callv (k' := 131) (as := [.ref 1, .int y_11, .int r_6]) (rest := []) (lo' := [(0, .ref 1), (1, .int y_11), (2, .int r_6)]) (wf := fun d => wC L d e) rfl rfl rfl ?_
      refine tMemory_storeWord (fun d_12 h => ⟨d_12, rfl, rfl, ?_⟩) y_11 r_6 d_10 h
      exact st_retV rfl rfl (hQ _ h)
set_option maxRecDepth 100000 in
def Machine_pop (d : vmD) (Q : Int32 → vmD → Prop) : Prop :=
  bnd (gA d 39 10) fun y_1 =>
  Memory_wordAt y_1 d fun r_3 d_2 =>
  bnd (gA d_2 39 10) fun y_4 =>
  bnd (sA d_2 39 10 ((y_4 + 2) &&& 65535)) fun d_5 =>
  Q r_3 d_5
set_option maxRecDepth 100000 in
set_option maxHeartbeats 4000000 in
theorem tMachine_pop {L : Nat} {e : vmD} {Qo : Option Value → vmW → Prop} {Q : Int32 → vmD → Prop} (hQ : ∀ r d, Q r d → Qo (some (.int r)) (wC L d e)) (d : vmD) (h : Machine_pop d Q) : vmWp 99 0 [(0, .ref 38)] [] (wC L d e) Qo := by
  unfold Machine_pop at h
  refine st_go 5 (pc' := 10) (lo' := [(0, .ref 38)]) (st' := [.int 10, .ref 39, .ref 1]) rfl ?_
  refine st_ialdC (o := 39) rfl rfl (show ixOk 10 17 by decide) rfl (fun y_1 hy_y_1 => ?_)
  have h := h y_1 hy_y_1
  refine st_calli (k' := 129) (as := [.ref 1, .int y_1]) (rest := []) (lo' := [(0, .ref 1), (1, .int y_1)]) (wf := fun d => wC L d e) rfl rfl rfl ?_
  refine tMemory_wordAt (fun r_3 d_2 h => ⟨r_3, d_2, rfl, rfl, ?_⟩) y_1 d h
  refine st_go 7 (pc' := 27) (lo' := [(1, .int r_3), (0, .ref 38)]) (st' := [.int 10, .ref 39, .int 10, .ref 39]) rfl ?_
  refine st_ialdC (o := 39) rfl rfl (show ixOk 10 17 by decide) rfl (fun y_4 hy_y_4 => ?_)
  have h := h y_4 hy_y_4
  refine st_go 4 (pc' := 33) (lo' := [(1, .int r_3), (0, .ref 38)]) (st' := [.int ((y_4 + 2) &&& 65535), .int 10, .ref 39]) rfl ?_
  refine st_iastC (o := 39) rfl rfl (show ixOk 10 17 by decide) rfl (fun d_5 hy_d_5 => ?_)
  have h := h d_5 hy_d_5
  refine st_go 1 (pc' := 35) (lo' := [(1, .int r_3), (0, .ref 38)]) (st' := [.int r_3]) rfl ?_
  exact st_retI rfl rfl (hQ _ _ h)
set_option maxRecDepth 100000 in
def Machine_putOut (x1 : Int32) (x2 : Int32) (d : vmD) (Q : vmD → Prop) : Prop :=
  ixOk (x1 &&& 255) 256 ∧
  bnd (sA d 41 (x1 &&& 255).toNatClampNeg x2) fun d_2 =>
  bnd (sG d_2 38 5 ((gG d_2 38 5) + 1)) fun d_3 =>
  Q d_3
set_option maxRecDepth 100000 in
set_option maxHeartbeats 4000000 in
theorem tMachine_putOut {L : Nat} {e : vmD} {Qo : Option Value → vmW → Prop} {Q : vmD → Prop} (hQ : ∀ d, Q d → Qo none (wC L d e)) (x1 : Int32) (x2 : Int32) (d : vmD) (h : Machine_putOut x1 x2 d Q) : vmWp 119 0 [(0, .ref 38), (1, .int x1), (2, .int x2)] [] (wC L d e) Qo := by
  unfold Machine_putOut at h
  refine st_go 6 (pc' := 10) (lo' := [(0, .ref 38), (1, .int x1), (2, .int x2)]) (st' := [.int x2, .int (x1 &&& 255), .ref 41]) rfl ?_
  obtain ⟨hj_1, h⟩ := h
  refine st_iastC (o := 41) rfl rfl hj_1 rfl (fun d_2 hy_d_2 => ?_)
  have h := h d_2 hy_d_2
  refine st_go 5 (pc' := 18) (lo' := [(0, .ref 38), (1, .int x1), (2, .int x2)]) (st' := [.long ((gG d_2 38 5) + 1), .ref 38]) rfl ?_
  refine st_putJC (o := 38) (f := 5) rfl rfl rfl rfl rfl (fun d_3 hy_d_3 => ?_)
  have h := h d_3 hy_d_3
  exact st_retV rfl rfl (hQ _ h)
set_option maxRecDepth 100000 in
def Integer_bitCount (x0 : Int32) (d : vmD) (Q : Int32 → vmD → Prop) : Prop :=
  bnd (x0 - ((UInt32.toInt32 ((Int32.toUInt32 x0) >>> ((Int32.toUInt32 (1 : Int32)) &&& Int32.toUInt32 31))) &&& 1431655765)) fun x0_1 =>
  bnd ((x0_1 &&& 858993459) + ((UInt32.toInt32 ((Int32.toUInt32 x0_1) >>> ((Int32.toUInt32 (2 : Int32)) &&& Int32.toUInt32 31))) &&& 858993459)) fun x0_2 =>
  bnd ((x0_2 + (UInt32.toInt32 ((Int32.toUInt32 x0_2) >>> ((Int32.toUInt32 (4 : Int32)) &&& Int32.toUInt32 31)))) &&& 252645135) fun x0_3 =>
  bnd (x0_3 + (UInt32.toInt32 ((Int32.toUInt32 x0_3) >>> ((Int32.toUInt32 (8 : Int32)) &&& Int32.toUInt32 31)))) fun x0_4 =>
  bnd (x0_4 + (UInt32.toInt32 ((Int32.toUInt32 x0_4) >>> ((Int32.toUInt32 (16 : Int32)) &&& Int32.toUInt32 31)))) fun x0_5 =>
  Q (x0_5 &&& 63) d
set_option maxRecDepth 100000 in
set_option maxHeartbeats 4000000 in
theorem tInteger_bitCount {L : Nat} {e : vmD} {Qo : Option Value → vmW → Prop} {Q : Int32 → vmD → Prop} (hQ : ∀ r d, Q r d → Qo (some (.int r)) (wC L d e)) (x0 : Int32) (d : vmD) (h : Integer_bitCount x0 d Q) : vmWp 405 0 [(0, .int x0)] [] (wC L d e) Qo := by
  unfold Integer_bitCount at h
  refine st_go 8 (pc' := 10) (lo' := [(0, .int (x0 - ((UInt32.toInt32 ((Int32.toUInt32 x0) >>> ((Int32.toUInt32 (1 : Int32)) &&& Int32.toUInt32 31))) &&& 1431655765)))]) (st' := []) rfl ?_
  refine st_locI (fun x0_1 hy_x0_1 => ?_)
  have h := h x0_1 hy_x0_1
  refine st_go 10 (pc' := 24) (lo' := [(0, .int ((x0_1 &&& 858993459) + ((UInt32.toInt32 ((Int32.toUInt32 x0_1) >>> ((Int32.toUInt32 (2 : Int32)) &&& Int32.toUInt32 31))) &&& 858993459)))]) (st' := []) rfl ?_
  refine st_locI (fun x0_2 hy_x0_2 => ?_)
  have h := h x0_2 hy_x0_2
  refine st_go 8 (pc' := 34) (lo' := [(0, .int ((x0_2 + (UInt32.toInt32 ((Int32.toUInt32 x0_2) >>> ((Int32.toUInt32 (4 : Int32)) &&& Int32.toUInt32 31)))) &&& 252645135))]) (st' := []) rfl ?_
  refine st_locI (fun x0_3 hy_x0_3 => ?_)
  have h := h x0_3 hy_x0_3
  refine st_go 6 (pc' := 41) (lo' := [(0, .int (x0_3 + (UInt32.toInt32 ((Int32.toUInt32 x0_3) >>> ((Int32.toUInt32 (8 : Int32)) &&& Int32.toUInt32 31)))))]) (st' := []) rfl ?_
  refine st_locI (fun x0_4 hy_x0_4 => ?_)
  have h := h x0_4 hy_x0_4
  refine st_go 6 (pc' := 48) (lo' := [(0, .int (x0_4 + (UInt32.toInt32 ((Int32.toUInt32 x0_4) >>> ((Int32.toUInt32 (16 : Int32)) &&& Int32.toUInt32 31)))))]) (st' := []) rfl ?_
  refine st_locI (fun x0_5 hy_x0_5 => ?_)
  have h := h x0_5 hy_x0_5
  refine st_go 3 (pc' := 52) (lo' := [(0, .int x0_5)]) (st' := [.int (x0_5 &&& 63)]) rfl ?_
  exact st_retI rfl rfl (hQ _ _ h)
set_option maxRecDepth 100000 in
def Machine_parityOf (x0 : Int32) (d : vmD) (Q : Int32 → vmD → Prop) : Prop :=
  Integer_bitCount (x0 &&& 255) d fun r_2 d_1 =>
  if (r_2 - r_2 / 2 * 2) = 0 then
  (Q 4 d_1)
  else
  (Q 0 d_1)
set_option maxRecDepth 100000 in
set_option maxHeartbeats 4000000 in
theorem tMachine_parityOf {L : Nat} {e : vmD} {Qo : Option Value → vmW → Prop} {Q : Int32 → vmD → Prop} (hQ : ∀ r d, Q r d → Qo (some (.int r)) (wC L d e)) (x0 : Int32) (d : vmD) (h : Machine_parityOf x0 d Q) : vmWp 91 0 [(0, .int x0)] [] (wC L d e) Qo := by
  unfold Machine_parityOf at h
  refine st_go 3 (pc' := 5) (lo' := [(0, .int x0)]) (st' := [.int (x0 &&& 255)]) rfl ?_
  refine st_calli (k' := 405) (as := [.int (x0 &&& 255)]) (rest := []) (lo' := [(0, .int (x0 &&& 255))]) (wf := fun d => wC L d e) rfl rfl rfl ?_
  refine tInteger_bitCount (fun r_2 d_1 h => ⟨r_2, d_1, rfl, rfl, ?_⟩) (x0 &&& 255) d h
  refine st_go 1 (pc' := 9) (lo' := [(0, .int x0)]) (st' := [.int 2, .int r_2]) rfl ?_
  refine st_irem rfl (by decide) ?_
  by_cases hc_3 : (r_2 - r_2 / 2 * 2) = 0
  · have h := Eq.mp (if_pos hc_3) h
    refine st_if (t := 13) (b := false) rfl (decide_eq_false (fun z => z hc_3)) rfl ?_
    refine st_go 2 (pc' := 18) (lo' := [(0, .int x0)]) (st' := [.int 4]) rfl ?_
    exact st_retI rfl rfl (hQ _ _ h)
  · have h := Eq.mp (if_neg hc_3) h
    refine st_if (t := 17) (b := true) rfl (decide_eq_true hc_3) rfl ?_
    refine st_go 1 (pc' := 18) (lo' := [(0, .int x0)]) (st' := [.int 0]) rfl ?_
    exact st_retI rfl rfl (hQ _ _ h)
set_option maxRecDepth 100000 in
def Machine_takeIn (x1 : Int32) (x2 : Int32) (d : vmD) (Q : vmD → Prop) : Prop :=
  if x2 = 42 then
  (Instruction_number d fun r_3 d_2 =>
  ixOk (r_3 &&& 255) 256 ∧
  bnd (gA d_2 40 (r_3 &&& 255).toNatClampNeg) fun y_5 =>
  Machine_save 8 y_5 d_2 fun d_6 =>
  Q d_6)
  else
  (bnd (gA d 39 1) fun y_7 =>
  ixOk (y_7 &&& 255) 256 ∧
  bnd (gA d 40 (y_7 &&& 255).toNatClampNeg) fun y_9 =>
  Machine_save x1 y_9 d fun d_10 =>
  Machine_flags d_10 fun r_12 d_11 =>
  Machine_signsOf y_9 d_11 fun r_14 d_13 =>
  Machine_parityOf y_9 d_13 fun r_16 d_15 =>
  Machine_setFlags (((r_12 &&& 1) ||| r_14) ||| r_16) d_15 fun d_17 =>
  Q d_17)
set_option maxRecDepth 100000 in
set_option maxHeartbeats 4000000 in
theorem tMachine_takeIn {L : Nat} {e : vmD} {Qo : Option Value → vmW → Prop} {Q : vmD → Prop} (hQ : ∀ d, Q d → Qo none (wC L d e)) (x1 : Int32) (x2 : Int32) (d : vmD) (h : Machine_takeIn x1 x2 d Q) : vmWp 120 0 [(0, .ref 38), (1, .int x1), (2, .int x2)] [] (wC L d e) Qo := by
  unfold Machine_takeIn at h
  refine st_go 2 (pc' := 3) (lo' := [(0, .ref 38), (1, .int x1), (2, .int x2)]) (st' := [.int 42, .int x2]) rfl ?_
  by_cases hc_1 : x2 = 42
  · have h := Eq.mp (if_pos hc_1) h
    refine st_icmp (t := 6) (b := false) rfl (decide_eq_false (fun z => z hc_1)) rfl ?_
    refine st_go 6 (pc' := 17) (lo' := [(0, .ref 38), (1, .int x1), (2, .int x2)]) (st' := [.ref 19, .ref 40, .int 8, .ref 38]) rfl ?_
    refine st_calli (k' := 68) (as := [.ref 19]) (rest := [.ref 40, .int 8, .ref 38]) (lo' := [(0, .ref 19)]) (wf := fun d => wC L d e) rfl rfl rfl ?_
    refine tInstruction_number (fun r_3 d_2 h => ⟨r_3, d_2, rfl, rfl, ?_⟩) d h
    refine st_go 2 (pc' := 24) (lo' := [(0, .ref 38), (1, .int x1), (2, .int x2)]) (st' := [.int (r_3 &&& 255), .ref 40, .int 8, .ref 38]) rfl ?_
    obtain ⟨hj_4, h⟩ := h
    refine st_ialdC (o := 40) rfl rfl hj_4 rfl (fun y_5 hy_y_5 => ?_)
    have h := h y_5 hy_y_5
    refine st_callv (k' := 93) (as := [.ref 38, .int 8, .int y_5]) (rest := []) (lo' := [(0, .ref 38), (1, .int 8), (2, .int y_5)]) (wf := fun d => wC L d e) rfl rfl rfl ?_
    refine tMachine_save (fun d_6 h => ⟨d_6, rfl, rfl, ?_⟩) 8 y_5 d_2 h
    exact st_retV rfl rfl (hQ _ h)
  · have h := Eq.mp (if_neg hc_1) h
    refine st_icmp (t := 29) (b := true) rfl (decide_eq_true hc_1) rfl ?_
    refine st_go 5 (pc' := 38) (lo' := [(0, .ref 38), (1, .int x1), (2, .int x2)]) (st' := [.int 1, .ref 39, .ref 40]) rfl ?_
    refine st_ialdC (o := 39) rfl rfl (show ixOk 1 17 by decide) rfl (fun y_7 hy_y_7 => ?_)
    have h := h y_7 hy_y_7
    refine st_go 2 (pc' := 43) (lo' := [(0, .ref 38), (1, .int x1), (2, .int x2)]) (st' := [.int (y_7 &&& 255), .ref 40]) rfl ?_
    obtain ⟨hj_8, h⟩ := h
    refine st_ialdC (o := 40) rfl rfl hj_8 rfl (fun y_9 hy_y_9 => ?_)
    have h := h y_9 hy_y_9
    refine st_go 4 (pc' := 48) (lo' := [(3, .int y_9), (0, .ref 38), (1, .int x1), (2, .int x2)]) (st' := [.int y_9, .int x1, .ref 38]) rfl ?_
    refine st_callv (k' := 93) (as := [.ref 38, .int x1, .int y_9]) (rest := []) (lo' := [(0, .ref 38), (1, .int x1), (2, .int y_9)]) (wf := fun d => wC L d e) rfl rfl rfl ?_
    refine tMachine_save (fun d_10 h => ⟨d_10, rfl, rfl, ?_⟩) x1 y_9 d h
    refine st_go 2 (pc' := 53) (lo' := [(3, .int y_9), (0, .ref 38), (1, .int x1), (2, .int x2)]) (st' := [.ref 38, .ref 38]) rfl ?_
    refine st_calli (k' := 88) (as := [.ref 38]) (rest := [.ref 38]) (lo' := [(0, .ref 38)]) (wf := fun d => wC L d e) rfl rfl rfl ?_
    refine tMachine_flags (fun r_12 d_11 h => ⟨r_12, d_11, rfl, rfl, ?_⟩) d_10 h
    refine st_go 3 (pc' := 59) (lo' := [(3, .int y_9), (0, .ref 38), (1, .int x1), (2, .int x2)]) (st' := [.int y_9, .int (r_12 &&& 1), .ref 38]) rfl ?_
    refine st_calli (k' := 90) (as := [.int y_9]) (rest := [.int (r_12 &&& 1), .ref 38]) (lo' := [(0, .int y_9)]) (wf := fun d => wC L d e) rfl rfl rfl ?_
    refine tMachine_signsOf (fun r_14 d_13 h => ⟨r_14, d_13, rfl, rfl, ?_⟩) y_9 d_11 h
    refine st_go 2 (pc' := 64) (lo' := [(3, .int y_9), (0, .ref 38), (1, .int x1), (2, .int x2)]) (st' := [.int y_9, .int ((r_12 &&& 1) ||| r_14), .ref 38]) rfl ?_
    refine st_calli (k' := 91) (as := [.int y_9]) (rest := [.int ((r_12 &&& 1) ||| r_14), .ref 38]) (lo' := [(0, .int y_9)]) (wf := fun d => wC L d e) rfl rfl rfl ?_
    refine tMachine_parityOf (fun r_16 d_15 h => ⟨r_16, d_15, rfl, rfl, ?_⟩) y_9 d_13 h
    refine st_go 1 (pc' := 68) (lo' := [(3, .int y_9), (0, .ref 38), (1, .int x1), (2, .int x2)]) (st' := [.int (((r_12 &&& 1) ||| r_14) ||| r_16), .ref 38]) rfl ?_
    refine st_callv (k' := 89) (as := [.ref 38, .int (((r_12 &&& 1) ||| r_14) ||| r_16)]) (rest := []) (lo' := [(0, .ref 38), (1, .int (((r_12 &&& 1) ||| r_14) ||| r_16))]) (wf := fun d => wC L d e) rfl rfl rfl ?_
    refine tMachine_setFlags (fun d_17 h => ⟨d_17, rfl, rfl, ?_⟩) (((r_12 &&& 1) ||| r_14) ||| r_16) d_15 h
    exact st_retV rfl rfl (hQ _ h)
set_option maxRecDepth 100000 in
def Machine_push (x1 : Int32) (d : vmD) (Q : vmD → Prop) : Prop :=
  bnd (gA d 39 10) fun y_1 =>
  bnd (sA d 39 10 ((y_1 - 2) &&& 65535)) fun d_2 =>
  bnd (gA d_2 39 10) fun y_3 =>
  Memory_storeWord y_3 x1 d_2 fun d_4 =>
  Q d_4
set_option maxRecDepth 100000 in
set_option maxHeartbeats 4000000 in
theorem tMachine_push {L : Nat} {e : vmD} {Qo : Option Value → vmW → Prop} {Q : vmD → Prop} (hQ : ∀ d, Q d → Qo none (wC L d e)) (x1 : Int32) (d : vmD) (h : Machine_push x1 d Q) : vmWp 98 0 [(0, .ref 38), (1, .int x1)] [] (wC L d e) Qo := by
  unfold Machine_push at h
  refine st_go 6 (pc' := 12) (lo' := [(0, .ref 38), (1, .int x1)]) (st' := [.int 10, .ref 39, .int 10, .ref 39]) rfl ?_
  refine st_ialdC (o := 39) rfl rfl (show ixOk 10 17 by decide) rfl (fun y_1 hy_y_1 => ?_)
  have h := h y_1 hy_y_1
  refine st_go 4 (pc' := 18) (lo' := [(0, .ref 38), (1, .int x1)]) (st' := [.int ((y_1 - 2) &&& 65535), .int 10, .ref 39]) rfl ?_
  refine st_iastC (o := 39) rfl rfl (show ixOk 10 17 by decide) rfl (fun d_2 hy_d_2 => ?_)
  have h := h d_2 hy_d_2
  refine st_go 5 (pc' := 29) (lo' := [(0, .ref 38), (1, .int x1)]) (st' := [.int 10, .ref 39, .ref 1]) rfl ?_
  refine st_ialdC (o := 39) rfl rfl (show ixOk 10 17 by decide) rfl (fun y_3 hy_y_3 => ?_)
  have h := h y_3 hy_y_3
  refine st_go 1 (pc' := 31) (lo' := [(0, .ref 38), (1, .int x1)]) (st' := [.int x1, .int y_3, .ref 1]) rfl ?_
  refine st_callv (k' := 131) (as := [.ref 1, .int y_3, .int x1]) (rest := []) (lo' := [(0, .ref 1), (1, .int y_3), (2, .int x1)]) (wf := fun d => wC L d e) rfl rfl rfl ?_
  refine tMemory_storeWord (fun d_4 h => ⟨d_4, rfl, rfl, ?_⟩) y_3 x1 d_2 h
  exact st_retV rfl rfl (hQ _ h)
set_option maxRecDepth 100000 in
def Machine_isCondition_12 (x0 : Int32) (d : vmD) (Q : Int32 → vmD → Prop) : Prop :=
  if x0 = 2 then
  (Q 1 d)
  else
  (Q 0 d)
set_option maxRecDepth 100000 in
set_option maxHeartbeats 4000000 in
theorem tMachine_isCondition_12 {L : Nat} {e : vmD} {Qo : Option Value → vmW → Prop} {Q : Int32 → vmD → Prop} (hQ : ∀ r d, Q r d → Qo (some (.int r)) (wC L d e)) (x0 : Int32) (d : vmD) (h : Machine_isCondition_12 x0 d Q) : vmWp 103 12 [(0, .int x0)] [] (wC L d e) Qo := by
  unfold Machine_isCondition_12 at h
  refine st_go 2 (pc' := 14) (lo' := [(0, .int x0)]) (st' := [.int 2, .int x0]) rfl ?_
  by_cases hc_2 : x0 = 2
  · have h := Eq.mp (if_pos hc_2) h
    refine st_icmp (t := 17) (b := false) rfl (decide_eq_false (fun z => z hc_2)) rfl ?_
    refine st_go 2 (pc' := 22) (lo' := [(0, .int x0)]) (st' := [.int 1]) rfl ?_
    exact st_retZ rfl rfl (Or.inr rfl) (hQ _ _ h)
  · have h := Eq.mp (if_neg hc_2) h
    refine st_icmp (t := 21) (b := true) rfl (decide_eq_true hc_2) rfl ?_
    refine st_go 1 (pc' := 22) (lo' := [(0, .int x0)]) (st' := [.int 0]) rfl ?_
    exact st_retZ rfl rfl (Or.inl rfl) (hQ _ _ h)
set_option maxRecDepth 100000 in
def Machine_isCondition (x0 : Int32) (d : vmD) (Q : Int32 → vmD → Prop) : Prop :=
  if x0 < 19 then
  (Machine_isCondition_12 x0 d Q)
  else
  (if (25 : Int32) < x0 then
  (Machine_isCondition_12 x0 d Q)
  else
  (Q 1 d))
set_option maxRecDepth 100000 in
set_option maxHeartbeats 4000000 in
theorem tMachine_isCondition {L : Nat} {e : vmD} {Qo : Option Value → vmW → Prop} {Q : Int32 → vmD → Prop} (hQ : ∀ r d, Q r d → Qo (some (.int r)) (wC L d e)) (x0 : Int32) (d : vmD) (h : Machine_isCondition x0 d Q) : vmWp 103 0 [(0, .int x0)] [] (wC L d e) Qo := by
  unfold Machine_isCondition at h
  refine st_go 2 (pc' := 3) (lo' := [(0, .int x0)]) (st' := [.int 19, .int x0]) rfl ?_
  by_cases hc_1 : x0 < 19
  · have h := Eq.mp (if_pos hc_1) h
    refine st_icmp (t := 12) (b := true) rfl (decide_eq_true hc_1) rfl ?_
    refine vmWp.sub (lo' := [(0, .int x0)]) ⟨rfl, trivial⟩ ?_
    exact tMachine_isCondition_12 hQ x0 d h
  · have h := Eq.mp (if_neg hc_1) h
    refine st_icmp (t := 6) (b := false) rfl (decide_eq_false hc_1) rfl ?_
    refine st_go 2 (pc' := 9) (lo' := [(0, .int x0)]) (st' := [.int 25, .int x0]) rfl ?_
    by_cases hc_3 : (25 : Int32) < x0
    · have h := Eq.mp (if_pos hc_3) h
      refine st_icmp (t := 12) (b := false) rfl (decide_eq_false (Int32.not_le.mpr hc_3)) rfl ?_
      refine vmWp.sub (lo' := [(0, .int x0)]) ⟨rfl, trivial⟩ ?_
      exact tMachine_isCondition_12 hQ x0 d h
    · have h := Eq.mp (if_neg hc_3) h
      refine st_icmp (t := 17) (b := true) rfl (decide_eq_true (Int32.not_lt.mp hc_3)) rfl ?_
      refine st_go 2 (pc' := 22) (lo' := [(0, .int x0)]) (st' := [.int 1]) rfl ?_
      exact st_retZ rfl rfl (Or.inr rfl) (hQ _ _ h)
set_option maxRecDepth 100000 in
def Machine_holds (x1 : Int32) (d : vmD) (Q : Int32 → vmD → Prop) : Prop :=
  Machine_flags d fun r_2 d_1 =>
  if x1 = 2 then
  (if (r_2 &&& 1) = 0 then
  (Q 0 d_1)
  else
  (Q 1 d_1))
  else
  if x1 = 19 then
  (if (r_2 &&& 64) = 0 then
  (Q 1 d_1)
  else
  (Q 0 d_1))
  else
  if x1 = 20 then
  (if (r_2 &&& 64) = 0 then
  (Q 0 d_1)
  else
  (Q 1 d_1))
  else
  if x1 = 21 then
  (if (r_2 &&& 1) = 0 then
  (Q 1 d_1)
  else
  (Q 0 d_1))
  else
  if x1 = 22 then
  (if (r_2 &&& 4) = 0 then
  (Q 1 d_1)
  else
  (Q 0 d_1))
  else
  if x1 = 23 then
  (if (r_2 &&& 4) = 0 then
  (Q 0 d_1)
  else
  (Q 1 d_1))
  else
  if x1 = 24 then
  (if (r_2 &&& 128) = 0 then
  (Q 1 d_1)
  else
  (Q 0 d_1))
  else
  (if (r_2 &&& 128) = 0 then
  (Q 0 d_1)
  else
  (Q 1 d_1))
set_option maxRecDepth 100000 in
set_option maxHeartbeats 4000000 in
theorem tMachine_holds {L : Nat} {e : vmD} {Qo : Option Value → vmW → Prop} {Q : Int32 → vmD → Prop} (hQ : ∀ r d, Q r d → Qo (some (.int r)) (wC L d e)) (x1 : Int32) (d : vmD) (h : Machine_holds x1 d Q) : vmWp 104 0 [(0, .ref 38), (1, .int x1)] [] (wC L d e) Qo := by
  unfold Machine_holds at h
  refine st_go 1 (pc' := 1) (lo' := [(0, .ref 38), (1, .int x1)]) (st' := [.ref 38]) rfl ?_
  refine st_calli (k' := 88) (as := [.ref 38]) (rest := []) (lo' := [(0, .ref 38)]) (wf := fun d => wC L d e) rfl rfl rfl ?_
  refine tMachine_flags (fun r_2 d_1 h => ⟨r_2, d_1, rfl, rfl, ?_⟩) d h
  refine st_go 2 (pc' := 6) (lo' := [(2, .int r_2), (0, .ref 38), (1, .int x1)]) (st' := [.int x1]) rfl ?_
  by_cases hc_3 : x1 = 2
  · have h := Eq.mp (if_pos hc_3) h
    refine st_tab (t := 150) rfl (by rw [hc_3]; rfl) ?_
    refine st_go 3 (pc' := 153) (lo' := [(2, .int r_2), (0, .ref 38), (1, .int x1)]) (st' := [.int (r_2 &&& 1)]) rfl ?_
    by_cases hc_4 : (r_2 &&& 1) = 0
    · have h := Eq.mp (if_pos hc_4) h
      refine st_if (t := 160) (b := true) rfl (decide_eq_true hc_4) rfl ?_
      refine st_go 1 (pc' := 161) (lo' := [(2, .int r_2), (0, .ref 38), (1, .int x1)]) (st' := [.int 0]) rfl ?_
      exact st_retZ rfl rfl (Or.inl rfl) (hQ _ _ h)
    · have h := Eq.mp (if_neg hc_4) h
      refine st_if (t := 156) (b := false) rfl (decide_eq_false hc_4) rfl ?_
      refine st_go 2 (pc' := 161) (lo' := [(2, .int r_2), (0, .ref 38), (1, .int x1)]) (st' := [.int 1]) rfl ?_
      exact st_retZ rfl rfl (Or.inr rfl) (hQ _ _ h)
  · have h := Eq.mp (if_neg hc_3) h
    by_cases hc_5 : x1 = 19
    · have h := Eq.mp (if_pos hc_5) h
      refine st_tab (t := 112) rfl (by rw [hc_5]; rfl) ?_
      refine st_go 3 (pc' := 116) (lo' := [(2, .int r_2), (0, .ref 38), (1, .int x1)]) (st' := [.int (r_2 &&& 64)]) rfl ?_
      by_cases hc_6 : (r_2 &&& 64) = 0
      · have h := Eq.mp (if_pos hc_6) h
        refine st_if (t := 119) (b := false) rfl (decide_eq_false (fun z => z hc_6)) rfl ?_
        refine st_go 2 (pc' := 124) (lo' := [(2, .int r_2), (0, .ref 38), (1, .int x1)]) (st' := [.int 1]) rfl ?_
        exact st_retZ rfl rfl (Or.inr rfl) (hQ _ _ h)
      · have h := Eq.mp (if_neg hc_6) h
        refine st_if (t := 123) (b := true) rfl (decide_eq_true hc_6) rfl ?_
        refine st_go 1 (pc' := 124) (lo' := [(2, .int r_2), (0, .ref 38), (1, .int x1)]) (st' := [.int 0]) rfl ?_
        exact st_retZ rfl rfl (Or.inl rfl) (hQ _ _ h)
    · have h := Eq.mp (if_neg hc_5) h
      by_cases hc_7 : x1 = 20
      · have h := Eq.mp (if_pos hc_7) h
        refine st_tab (t := 125) rfl (by rw [hc_7]; rfl) ?_
        refine st_go 3 (pc' := 129) (lo' := [(2, .int r_2), (0, .ref 38), (1, .int x1)]) (st' := [.int (r_2 &&& 64)]) rfl ?_
        by_cases hc_8 : (r_2 &&& 64) = 0
        · have h := Eq.mp (if_pos hc_8) h
          refine st_if (t := 136) (b := true) rfl (decide_eq_true hc_8) rfl ?_
          refine st_go 1 (pc' := 137) (lo' := [(2, .int r_2), (0, .ref 38), (1, .int x1)]) (st' := [.int 0]) rfl ?_
          exact st_retZ rfl rfl (Or.inl rfl) (hQ _ _ h)
        · have h := Eq.mp (if_neg hc_8) h
          refine st_if (t := 132) (b := false) rfl (decide_eq_false hc_8) rfl ?_
          refine st_go 2 (pc' := 137) (lo' := [(2, .int r_2), (0, .ref 38), (1, .int x1)]) (st' := [.int 1]) rfl ?_
          exact st_retZ rfl rfl (Or.inr rfl) (hQ _ _ h)
      · have h := Eq.mp (if_neg hc_7) h
        by_cases hc_9 : x1 = 21
        · have h := Eq.mp (if_pos hc_9) h
          refine st_tab (t := 138) rfl (by rw [hc_9]; rfl) ?_
          refine st_go 3 (pc' := 141) (lo' := [(2, .int r_2), (0, .ref 38), (1, .int x1)]) (st' := [.int (r_2 &&& 1)]) rfl ?_
          by_cases hc_10 : (r_2 &&& 1) = 0
          · have h := Eq.mp (if_pos hc_10) h
            refine st_if (t := 144) (b := false) rfl (decide_eq_false (fun z => z hc_10)) rfl ?_
            refine st_go 2 (pc' := 149) (lo' := [(2, .int r_2), (0, .ref 38), (1, .int x1)]) (st' := [.int 1]) rfl ?_
            exact st_retZ rfl rfl (Or.inr rfl) (hQ _ _ h)
          · have h := Eq.mp (if_neg hc_10) h
            refine st_if (t := 148) (b := true) rfl (decide_eq_true hc_10) rfl ?_
            refine st_go 1 (pc' := 149) (lo' := [(2, .int r_2), (0, .ref 38), (1, .int x1)]) (st' := [.int 0]) rfl ?_
            exact st_retZ rfl rfl (Or.inl rfl) (hQ _ _ h)
        · have h := Eq.mp (if_neg hc_9) h
          by_cases hc_11 : x1 = 22
          · have h := Eq.mp (if_pos hc_11) h
            refine st_tab (t := 162) rfl (by rw [hc_11]; rfl) ?_
            refine st_go 3 (pc' := 165) (lo' := [(2, .int r_2), (0, .ref 38), (1, .int x1)]) (st' := [.int (r_2 &&& 4)]) rfl ?_
            by_cases hc_12 : (r_2 &&& 4) = 0
            · have h := Eq.mp (if_pos hc_12) h
              refine st_if (t := 168) (b := false) rfl (decide_eq_false (fun z => z hc_12)) rfl ?_
              refine st_go 2 (pc' := 173) (lo' := [(2, .int r_2), (0, .ref 38), (1, .int x1)]) (st' := [.int 1]) rfl ?_
              exact st_retZ rfl rfl (Or.inr rfl) (hQ _ _ h)
            · have h := Eq.mp (if_neg hc_12) h
              refine st_if (t := 172) (b := true) rfl (decide_eq_true hc_12) rfl ?_
              refine st_go 1 (pc' := 173) (lo' := [(2, .int r_2), (0, .ref 38), (1, .int x1)]) (st' := [.int 0]) rfl ?_
              exact st_retZ rfl rfl (Or.inl rfl) (hQ _ _ h)
          · have h := Eq.mp (if_neg hc_11) h
            by_cases hc_13 : x1 = 23
            · have h := Eq.mp (if_pos hc_13) h
              refine st_tab (t := 174) rfl (by rw [hc_13]; rfl) ?_
              refine st_go 3 (pc' := 177) (lo' := [(2, .int r_2), (0, .ref 38), (1, .int x1)]) (st' := [.int (r_2 &&& 4)]) rfl ?_
              by_cases hc_14 : (r_2 &&& 4) = 0
              · have h := Eq.mp (if_pos hc_14) h
                refine st_if (t := 184) (b := true) rfl (decide_eq_true hc_14) rfl ?_
                refine st_go 1 (pc' := 185) (lo' := [(2, .int r_2), (0, .ref 38), (1, .int x1)]) (st' := [.int 0]) rfl ?_
                exact st_retZ rfl rfl (Or.inl rfl) (hQ _ _ h)
              · have h := Eq.mp (if_neg hc_14) h
                refine st_if (t := 180) (b := false) rfl (decide_eq_false hc_14) rfl ?_
                refine st_go 2 (pc' := 185) (lo' := [(2, .int r_2), (0, .ref 38), (1, .int x1)]) (st' := [.int 1]) rfl ?_
                exact st_retZ rfl rfl (Or.inr rfl) (hQ _ _ h)
            · have h := Eq.mp (if_neg hc_13) h
              by_cases hc_15 : x1 = 24
              · have h := Eq.mp (if_pos hc_15) h
                refine st_tab (t := 186) rfl (by rw [hc_15]; rfl) ?_
                refine st_go 3 (pc' := 191) (lo' := [(2, .int r_2), (0, .ref 38), (1, .int x1)]) (st' := [.int (r_2 &&& 128)]) rfl ?_
                by_cases hc_16 : (r_2 &&& 128) = 0
                · have h := Eq.mp (if_pos hc_16) h
                  refine st_if (t := 194) (b := false) rfl (decide_eq_false (fun z => z hc_16)) rfl ?_
                  refine st_go 2 (pc' := 199) (lo' := [(2, .int r_2), (0, .ref 38), (1, .int x1)]) (st' := [.int 1]) rfl ?_
                  exact st_retZ rfl rfl (Or.inr rfl) (hQ _ _ h)
                · have h := Eq.mp (if_neg hc_16) h
                  refine st_if (t := 198) (b := true) rfl (decide_eq_true hc_16) rfl ?_
                  refine st_go 1 (pc' := 199) (lo' := [(2, .int r_2), (0, .ref 38), (1, .int x1)]) (st' := [.int 0]) rfl ?_
                  exact st_retZ rfl rfl (Or.inl rfl) (hQ _ _ h)
              · have h := Eq.mp (if_neg hc_15) h
                refine st_tab (t := 200) rfl (tab_def rfl (by decide) rfl (by
                  intro j hj hx
                  have hj : j < 23 := hj
                  rcases (j = 0 ∨ j = 1 ∨ j = 2 ∨ j = 3 ∨ j = 4 ∨ j = 5 ∨ j = 6 ∨ j = 7 ∨ j = 8 ∨ j = 9 ∨ j = 10 ∨ j = 11 ∨ j = 12 ∨ j = 13 ∨ j = 14 ∨ j = 15 ∨ j = 16 ∨ j = 17 ∨ j = 18 ∨ j = 19 ∨ j = 20 ∨ j = 21 ∨ j = 22 : Prop) |> fun _ => (show j = 0 ∨ j = 1 ∨ j = 2 ∨ j = 3 ∨ j = 4 ∨ j = 5 ∨ j = 6 ∨ j = 7 ∨ j = 8 ∨ j = 9 ∨ j = 10 ∨ j = 11 ∨ j = 12 ∨ j = 13 ∨ j = 14 ∨ j = 15 ∨ j = 16 ∨ j = 17 ∨ j = 18 ∨ j = 19 ∨ j = 20 ∨ j = 21 ∨ j = 22 by omega) with rfl | rfl | rfl | rfl | rfl | rfl | rfl | rfl | rfl | rfl | rfl | rfl | rfl | rfl | rfl | rfl | rfl | rfl | rfl | rfl | rfl | rfl | rfl <;> first | rfl | exact absurd hx hc_3 | exact absurd hx hc_5 | exact absurd hx hc_7 | exact absurd hx hc_9 | exact absurd hx hc_11 | exact absurd hx hc_13 | exact absurd hx hc_15)) ?_
                refine st_go 3 (pc' := 205) (lo' := [(2, .int r_2), (0, .ref 38), (1, .int x1)]) (st' := [.int (r_2 &&& 128)]) rfl ?_
                by_cases hc_17 : (r_2 &&& 128) = 0
                · have h := Eq.mp (if_pos hc_17) h
                  refine st_if (t := 212) (b := true) rfl (decide_eq_true hc_17) rfl ?_
                  refine st_go 1 (pc' := 213) (lo' := [(2, .int r_2), (0, .ref 38), (1, .int x1)]) (st' := [.int 0]) rfl ?_
                  exact st_retZ rfl rfl (Or.inl rfl) (hQ _ _ h)
                · have h := Eq.mp (if_neg hc_17) h
                  refine st_if (t := 208) (b := false) rfl (decide_eq_false hc_17) rfl ?_
                  refine st_go 2 (pc' := 213) (lo' := [(2, .int r_2), (0, .ref 38), (1, .int x1)]) (st' := [.int 1]) rfl ?_
                  exact st_retZ rfl rfl (Or.inr rfl) (hQ _ _ h)
set_option maxRecDepth 100000 in
def Machine_jump_111 (x3 : Int32) (d : vmD) (Q : vmD → Prop) : Prop :=
  bnd (sA d 39 11 x3) fun d_9 =>
  Q d_9
set_option maxRecDepth 100000 in
set_option maxHeartbeats 4000000 in
theorem tMachine_jump_111 {L : Nat} {e : vmD} {Qo : Option Value → vmW → Prop} {Q : vmD → Prop} (hQ : ∀ d, Q d → Qo none (wC L d e)) (x3 : Int32) (d : vmD) (h : Machine_jump_111 x3 d Q) : vmWp 105 111 [(0, .ref 38), (3, .int x3)] [] (wC L d e) Qo := by
  unfold Machine_jump_111 at h
  refine st_go 4 (pc' := 118) (lo' := [(0, .ref 38), (3, .int x3)]) (st' := [.int x3, .int 11, .ref 39]) rfl ?_
  refine st_iastC (o := 39) rfl rfl (show ixOk 11 17 by decide) rfl (fun d_9 hy_d_9 => ?_)
  have h := h d_9 hy_d_9
  exact st_retV rfl rfl (hQ _ h)
set_option maxRecDepth 100000 in
def Machine_jump_50 (x3 : Int32) (d : vmD) (Q : vmD → Prop) : Prop :=
  bnd (gA d 39 11) fun y_11 =>
  Machine_push y_11 d fun d_12 =>
  Machine_jump_111 x3 d_12 Q
set_option maxRecDepth 100000 in
set_option maxHeartbeats 4000000 in
theorem tMachine_jump_50 {L : Nat} {e : vmD} {Qo : Option Value → vmW → Prop} {Q : vmD → Prop} (hQ : ∀ d, Q d → Qo none (wC L d e)) (x3 : Int32) (d : vmD) (h : Machine_jump_50 x3 d Q) : vmWp 105 50 [(0, .ref 38), (3, .int x3)] [] (wC L d e) Qo := by
  unfold Machine_jump_50 at h
  refine st_go 4 (pc' := 57) (lo' := [(0, .ref 38), (3, .int x3)]) (st' := [.int 11, .ref 39, .ref 38]) rfl ?_
  refine st_ialdC (o := 39) rfl rfl (show ixOk 11 17 by decide) rfl (fun y_11 hy_y_11 => ?_)
  have h := h y_11 hy_y_11
  refine st_callv (k' := 98) (as := [.ref 38, .int y_11]) (rest := []) (lo' := [(0, .ref 38), (1, .int y_11)]) (wf := fun d => wC L d e) rfl rfl rfl ?_
  refine tMachine_push (fun d_12 h => ⟨d_12, rfl, rfl, ?_⟩) y_11 d h
  refine st_go 1 (pc' := 111) (lo' := [(0, .ref 38), (3, .int x3)]) (st' := []) rfl ?_
  refine vmWp.sub (lo' := [(0, .ref 38), (3, .int x3)]) ⟨rfl, rfl, trivial⟩ ?_
  exact tMachine_jump_111 hQ x3 d_12 h
set_option maxRecDepth 100000 in
def Machine_jump_16 (x1 : Int32) (x2 : Int32) (d : vmD) (Q : vmD → Prop) : Prop :=
  Instruction_number d fun r_5 d_4 =>
  if x1 = 56 then
  (Machine_pop d_4 fun r_8 d_7 =>
  Machine_jump_111 r_8 d_7 Q)
  else
  (if x1 = 64 then
  (Machine_jump_50 r_5 d_4 Q)
  else
  (if x1 = 66 then
  (Machine_jump_50 r_5 d_4 Q)
  else
  (if x2 = 7 then
  (bnd (gA d_4 39 3) fun y_15 =>
  Machine_jump_111 y_15 d_4 Q)
  else
  (if x2 = 30 then
  (bnd (gA d_4 39 8) fun y_17 =>
  Machine_jump_111 y_17 d_4 Q)
  else
  (if x2 = 31 then
  (bnd (gA d_4 39 9) fun y_19 =>
  Machine_jump_111 y_19 d_4 Q)
  else
  (Machine_jump_111 r_5 d_4 Q))))))
set_option maxRecDepth 100000 in
set_option maxHeartbeats 4000000 in
theorem tMachine_jump_16 {L : Nat} {e : vmD} {Qo : Option Value → vmW → Prop} {Q : vmD → Prop} (hQ : ∀ d, Q d → Qo none (wC L d e)) (x1 : Int32) (x2 : Int32) (d : vmD) (h : Machine_jump_16 x1 x2 d Q) : vmWp 105 16 [(0, .ref 38), (1, .int x1), (2, .int x2)] [] (wC L d e) Qo := by
  unfold Machine_jump_16 at h
  refine st_go 2 (pc' := 20) (lo' := [(0, .ref 38), (1, .int x1), (2, .int x2)]) (st' := [.ref 19]) rfl ?_
  refine st_calli (k' := 68) (as := [.ref 19]) (rest := []) (lo' := [(0, .ref 19)]) (wf := fun d => wC L d e) rfl rfl rfl ?_
  refine tInstruction_number (fun r_5 d_4 h => ⟨r_5, d_4, rfl, rfl, ?_⟩) d h
  refine st_go 3 (pc' := 27) (lo' := [(3, .int r_5), (0, .ref 38), (1, .int x1), (2, .int x2)]) (st' := [.int 56, .int x1]) rfl ?_
  by_cases hc_6 : x1 = 56
  · have h := Eq.mp (if_pos hc_6) h
    refine st_icmp (t := 30) (b := false) rfl (decide_eq_false (fun z => z hc_6)) rfl ?_
    refine st_go 1 (pc' := 31) (lo' := [(3, .int r_5), (0, .ref 38), (1, .int x1), (2, .int x2)]) (st' := [.ref 38]) rfl ?_
    refine st_calli (k' := 99) (as := [.ref 38]) (rest := []) (lo' := [(0, .ref 38)]) (wf := fun d => wC L d e) rfl rfl rfl ?_
    refine tMachine_pop (fun r_8 d_7 h => ⟨r_8, d_7, rfl, rfl, ?_⟩) d_4 h
    refine st_go 2 (pc' := 111) (lo' := [(3, .int r_8), (0, .ref 38), (1, .int x1), (2, .int x2)]) (st' := []) rfl ?_
    refine vmWp.sub (lo' := [(0, .ref 38), (3, .int r_8)]) ⟨rfl, rfl, trivial⟩ ?_
    exact tMachine_jump_111 hQ r_8 d_7 h
  · have h := Eq.mp (if_neg hc_6) h
    refine st_icmp (t := 38) (b := true) rfl (decide_eq_true hc_6) rfl ?_
    refine st_go 2 (pc' := 41) (lo' := [(3, .int r_5), (0, .ref 38), (1, .int x1), (2, .int x2)]) (st' := [.int 64, .int x1]) rfl ?_
    by_cases hc_10 : x1 = 64
    · have h := Eq.mp (if_pos hc_10) h
      refine st_icmp (t := 50) (b := true) rfl (decide_eq_true hc_10) rfl ?_
      refine vmWp.sub (lo' := [(0, .ref 38), (3, .int r_5)]) ⟨rfl, rfl, trivial⟩ ?_
      exact tMachine_jump_50 hQ r_5 d_4 h
    · have h := Eq.mp (if_neg hc_10) h
      refine st_icmp (t := 44) (b := false) rfl (decide_eq_false hc_10) rfl ?_
      refine st_go 2 (pc' := 47) (lo' := [(3, .int r_5), (0, .ref 38), (1, .int x1), (2, .int x2)]) (st' := [.int 66, .int x1]) rfl ?_
      by_cases hc_13 : x1 = 66
      · have h := Eq.mp (if_pos hc_13) h
        refine st_icmp (t := 50) (b := false) rfl (decide_eq_false (fun z => z hc_13)) rfl ?_
        refine vmWp.sub (lo' := [(0, .ref 38), (3, .int r_5)]) ⟨rfl, rfl, trivial⟩ ?_
        exact tMachine_jump_50 hQ r_5 d_4 h
      · have h := Eq.mp (if_neg hc_13) h
        refine st_icmp (t := 64) (b := true) rfl (decide_eq_true hc_13) rfl ?_
        refine st_go 2 (pc' := 67) (lo' := [(3, .int r_5), (0, .ref 38), (1, .int x1), (2, .int x2)]) (st' := [.int 7, .int x2]) rfl ?_
        by_cases hc_14 : x2 = 7
        · have h := Eq.mp (if_pos hc_14) h
          refine st_icmp (t := 70) (b := false) rfl (decide_eq_false (fun z => z hc_14)) rfl ?_
          refine st_go 3 (pc' := 75) (lo' := [(3, .int r_5), (0, .ref 38), (1, .int x1), (2, .int x2)]) (st' := [.int 3, .ref 39]) rfl ?_
          refine st_ialdC (o := 39) rfl rfl (show ixOk 3 17 by decide) rfl (fun y_15 hy_y_15 => ?_)
          have h := h y_15 hy_y_15
          refine st_go 2 (pc' := 111) (lo' := [(3, .int y_15), (0, .ref 38), (1, .int x1), (2, .int x2)]) (st' := []) rfl ?_
          refine vmWp.sub (lo' := [(0, .ref 38), (3, .int y_15)]) ⟨rfl, rfl, trivial⟩ ?_
          exact tMachine_jump_111 hQ y_15 d_4 h
        · have h := Eq.mp (if_neg hc_14) h
          refine st_icmp (t := 80) (b := true) rfl (decide_eq_true hc_14) rfl ?_
          refine st_go 2 (pc' := 83) (lo' := [(3, .int r_5), (0, .ref 38), (1, .int x1), (2, .int x2)]) (st' := [.int 30, .int x2]) rfl ?_
          by_cases hc_16 : x2 = 30
          · have h := Eq.mp (if_pos hc_16) h
            refine st_icmp (t := 86) (b := false) rfl (decide_eq_false (fun z => z hc_16)) rfl ?_
            refine st_go 3 (pc' := 92) (lo' := [(3, .int r_5), (0, .ref 38), (1, .int x1), (2, .int x2)]) (st' := [.int 8, .ref 39]) rfl ?_
            refine st_ialdC (o := 39) rfl rfl (show ixOk 8 17 by decide) rfl (fun y_17 hy_y_17 => ?_)
            have h := h y_17 hy_y_17
            refine st_go 2 (pc' := 111) (lo' := [(3, .int y_17), (0, .ref 38), (1, .int x1), (2, .int x2)]) (st' := []) rfl ?_
            refine vmWp.sub (lo' := [(0, .ref 38), (3, .int y_17)]) ⟨rfl, rfl, trivial⟩ ?_
            exact tMachine_jump_111 hQ y_17 d_4 h
          · have h := Eq.mp (if_neg hc_16) h
            refine st_icmp (t := 97) (b := true) rfl (decide_eq_true hc_16) rfl ?_
            refine st_go 2 (pc' := 100) (lo' := [(3, .int r_5), (0, .ref 38), (1, .int x1), (2, .int x2)]) (st' := [.int 31, .int x2]) rfl ?_
            by_cases hc_18 : x2 = 31
            · have h := Eq.mp (if_pos hc_18) h
              refine st_icmp (t := 103) (b := false) rfl (decide_eq_false (fun z => z hc_18)) rfl ?_
              refine st_go 3 (pc' := 109) (lo' := [(3, .int r_5), (0, .ref 38), (1, .int x1), (2, .int x2)]) (st' := [.int 9, .ref 39]) rfl ?_
              refine st_ialdC (o := 39) rfl rfl (show ixOk 9 17 by decide) rfl (fun y_19 hy_y_19 => ?_)
              have h := h y_19 hy_y_19
              refine st_go 1 (pc' := 111) (lo' := [(3, .int y_19), (0, .ref 38), (1, .int x1), (2, .int x2)]) (st' := []) rfl ?_
              refine vmWp.sub (lo' := [(0, .ref 38), (3, .int y_19)]) ⟨rfl, rfl, trivial⟩ ?_
              exact tMachine_jump_111 hQ y_19 d_4 h
            · have h := Eq.mp (if_neg hc_18) h
              refine st_icmp (t := 111) (b := true) rfl (decide_eq_true hc_18) rfl ?_
              refine vmWp.sub (lo' := [(0, .ref 38), (3, .int r_5)]) ⟨rfl, rfl, trivial⟩ ?_
              exact tMachine_jump_111 hQ r_5 d_4 h
set_option maxRecDepth 100000 in
def Machine_jump (x1 : Int32) (x2 : Int32) (d : vmD) (Q : vmD → Prop) : Prop :=
  Machine_isCondition x2 d fun r_2 d_1 =>
  if r_2 = 0 then
  (Machine_jump_16 x1 x2 d_1 Q)
  else
  (Machine_holds x2 d_1 fun r_21 d_20 =>
  if r_21 = 0 then
  (Q d_20)
  else
  (Machine_jump_16 x1 x2 d_20 Q))
set_option maxRecDepth 100000 in
set_option maxHeartbeats 4000000 in
theorem tMachine_jump {L : Nat} {e : vmD} {Qo : Option Value → vmW → Prop} {Q : vmD → Prop} (hQ : ∀ d, Q d → Qo none (wC L d e)) (x1 : Int32) (x2 : Int32) (d : vmD) (h : Machine_jump x1 x2 d Q) : vmWp 105 0 [(0, .ref 38), (1, .int x1), (2, .int x2)] [] (wC L d e) Qo := by
  unfold Machine_jump at h
  refine st_go 1 (pc' := 1) (lo' := [(0, .ref 38), (1, .int x1), (2, .int x2)]) (st' := [.int x2]) rfl ?_
  refine st_calli (k' := 103) (as := [.int x2]) (rest := []) (lo' := [(0, .int x2)]) (wf := fun d => wC L d e) rfl rfl rfl ?_
  refine tMachine_isCondition (fun r_2 d_1 h => ⟨r_2, d_1, rfl, rfl, ?_⟩) x2 d h
  by_cases hc_3 : r_2 = 0
  · have h := Eq.mp (if_pos hc_3) h
    refine st_if (t := 16) (b := true) rfl (decide_eq_true hc_3) rfl ?_
    refine vmWp.sub (lo' := [(0, .ref 38), (1, .int x1), (2, .int x2)]) ⟨rfl, rfl, rfl, trivial⟩ ?_
    exact tMachine_jump_16 hQ x1 x2 d_1 h
  · have h := Eq.mp (if_neg hc_3) h
    refine st_if (t := 7) (b := false) rfl (decide_eq_false hc_3) rfl ?_
    refine st_go 2 (pc' := 9) (lo' := [(0, .ref 38), (1, .int x1), (2, .int x2)]) (st' := [.int x2, .ref 38]) rfl ?_
    refine st_calli (k' := 104) (as := [.ref 38, .int x2]) (rest := []) (lo' := [(0, .ref 38), (1, .int x2)]) (wf := fun d => wC L d e) rfl rfl rfl ?_
    refine tMachine_holds (fun r_21 d_20 h => ⟨r_21, d_20, rfl, rfl, ?_⟩) x2 d_1 h
    by_cases hc_22 : r_21 = 0
    · have h := Eq.mp (if_pos hc_22) h
      refine st_if (t := 15) (b := false) rfl (decide_eq_false (fun z => z hc_22)) rfl ?_
      exact st_retV rfl rfl (hQ _ h)
    · have h := Eq.mp (if_neg hc_22) h
      refine st_if (t := 16) (b := true) rfl (decide_eq_true hc_22) rfl ?_
      refine vmWp.sub (lo' := [(0, .ref 38), (1, .int x1), (2, .int x2)]) ⟨rfl, rfl, rfl, trivial⟩ ?_
      exact tMachine_jump_16 hQ x1 x2 d_20 h
set_option maxRecDepth 100000 in
def Machine_executeFlow_160 (Q : vmD → Prop) : Nat → Int32 → vmD → Prop
  | 0, _, _ => False
  | n + 1, x4, d => if (3 : Int32) < x4 then
  (Q d)
  else
  (Machine_swap x4 (x4 + 4) d fun d_19 =>
  bnd (x4 + 1) fun x4_20 =>
  (Machine_executeFlow_160 Q n) x4_20 d_19)
set_option maxRecDepth 100000 in
set_option maxHeartbeats 4000000 in
theorem tMachine_executeFlow_160 {L : Nat} {e : vmD} {Qo : Option Value → vmW → Prop} {Q : vmD → Prop} (hQ : ∀ d, Q d → Qo none (wC L d e)) : ∀ (n : Nat) (x4 : Int32) (d : vmD), Machine_executeFlow_160 Q n x4 d → vmWp 86 160 [(0, .ref 38), (4, .int x4)] [] (wC L d e) Qo := by
  intro n
  induction n with
  | zero => intro x4 d h; exact h.elim
  | succ n ih =>
    intro x4 d h
    unfold Machine_executeFlow_160 at h
    refine st_go 2 (pc' := 163) (lo' := [(0, .ref 38), (4, .int x4)]) (st' := [.int 3, .int x4]) rfl ?_
    by_cases hc_18 : (3 : Int32) < x4
    · have h := Eq.mp (if_pos hc_18) h
      refine st_icmp (t := 182) (b := true) rfl (decide_eq_true hc_18) rfl ?_
      refine st_go 1 (pc' := 334) (lo' := [(0, .ref 38), (4, .int x4)]) (st' := []) rfl ?_
      exact st_retV rfl rfl (hQ _ h)
    · have h := Eq.mp (if_neg hc_18) h
      refine st_icmp (t := 166) (b := false) rfl (decide_eq_false hc_18) rfl ?_
      refine st_go 5 (pc' := 173) (lo' := [(0, .ref 38), (4, .int x4)]) (st' := [.int (x4 + 4), .int x4, .ref 38]) rfl ?_
      refine st_callv (k' := 100) (as := [.ref 38, .int x4, .int (x4 + 4)]) (rest := []) (lo' := [(0, .ref 38), (1, .int x4), (2, .int (x4 + 4))]) (wf := fun d => wC L d e) rfl rfl rfl ?_
      refine tMachine_swap (fun d_19 h => ⟨d_19, rfl, rfl, ?_⟩) x4 (x4 + 4) d h
      refine st_go 1 (pc' := 179) (lo' := [(4, .int (x4 + 1)), (0, .ref 38)]) (st' := []) rfl ?_
      refine st_locI (fun x4_20 hy_x4_20 => ?_)
      have h := h x4_20 hy_x4_20
      refine st_go 1 (pc' := 160) (lo' := [(4, .int x4_20), (0, .ref 38)]) (st' := []) rfl ?_
      refine vmWp.sub (lo' := [(0, .ref 38), (4, .int x4_20)]) ⟨rfl, rfl, trivial⟩ ?_
      exact ih x4_20 d_19 h
set_option maxRecDepth 100000 in
def Machine_executeFlow_232 (x3 : Int32) (s0 : Int32) (d : vmD) (Q : vmD → Prop) : Prop :=
  Machine_load x3 d fun r_25 d_24 =>
  Machine_putOut s0 r_25 d_24 fun d_26 =>
  Q d_26
set_option maxRecDepth 100000 in
set_option maxHeartbeats 4000000 in
theorem tMachine_executeFlow_232 {L : Nat} {e : vmD} {Qo : Option Value → vmW → Prop} {Q : vmD → Prop} (hQ : ∀ d, Q d → Qo none (wC L d e)) (x3 : Int32) (s0 : Int32) (d : vmD) (h : Machine_executeFlow_232 x3 s0 d Q) : vmWp 86 232 [(0, .ref 38), (3, .int x3)] [.int s0, .ref 38] (wC L d e) Qo := by
  unfold Machine_executeFlow_232 at h
  refine st_go 2 (pc' := 234) (lo' := [(0, .ref 38), (3, .int x3)]) (st' := [.int x3, .ref 38, .int s0, .ref 38]) rfl ?_
  refine st_calli (k' := 92) (as := [.ref 38, .int x3]) (rest := [.int s0, .ref 38]) (lo' := [(0, .ref 38), (1, .int x3)]) (wf := fun d => wC L d e) rfl rfl rfl ?_
  refine tMachine_load (fun r_25 d_24 h => ⟨r_25, d_24, rfl, rfl, ?_⟩) x3 d h
  refine st_callv (k' := 119) (as := [.ref 38, .int s0, .int r_25]) (rest := []) (lo' := [(0, .ref 38), (1, .int s0), (2, .int r_25)]) (wf := fun d => wC L d e) rfl rfl rfl ?_
  refine tMachine_putOut (fun d_26 h => ⟨d_26, rfl, rfl, ?_⟩) s0 r_25 d_24 h
  refine st_go 1 (pc' := 334) (lo' := [(0, .ref 38), (3, .int x3)]) (st' := []) rfl ?_
  exact st_retV rfl rfl (hQ _ h)
set_option maxRecDepth 100000 in
def Machine_executeFlow_287 (s0 : Int32) (s1 : Int32) (d : vmD) (Q : vmD → Prop) : Prop :=
  ixOk s1 17 ∧
  bnd (sA d 39 s1.toNatClampNeg s0) fun d_37 =>
  Q d_37
set_option maxRecDepth 100000 in
set_option maxHeartbeats 4000000 in
theorem tMachine_executeFlow_287 {L : Nat} {e : vmD} {Qo : Option Value → vmW → Prop} {Q : vmD → Prop} (hQ : ∀ d, Q d → Qo none (wC L d e)) (s0 : Int32) (s1 : Int32) (d : vmD) (h : Machine_executeFlow_287 s0 s1 d Q) : vmWp 86 287 [] [.int s0, .int s1, .ref 39] (wC L d e) Qo := by
  unfold Machine_executeFlow_287 at h
  obtain ⟨hj_36, h⟩ := h
  refine st_iastC (o := 39) rfl rfl hj_36 rfl (fun d_37 hy_d_37 => ?_)
  have h := h d_37 hy_d_37
  refine st_go 1 (pc' := 334) (lo' := []) (st' := []) rfl ?_
  exact st_retV rfl rfl (hQ _ h)
set_option maxRecDepth 100000 in
def Machine_executeFlow_269 (x1 : Int32) (s0 : Int32) (s1 : Int32) (d : vmD) (Q : vmD → Prop) : Prop :=
  ixOk s1 17 ∧
  bnd (sA d 39 s1.toNatClampNeg s0) fun d_34 =>
  if x1 = 63 then
  (Machine_executeFlow_287 1 15 d_34 Q)
  else
  (Machine_executeFlow_287 0 15 d_34 Q)
set_option maxRecDepth 100000 in
set_option maxHeartbeats 4000000 in
theorem tMachine_executeFlow_269 {L : Nat} {e : vmD} {Qo : Option Value → vmW → Prop} {Q : vmD → Prop} (hQ : ∀ d, Q d → Qo none (wC L d e)) (x1 : Int32) (s0 : Int32) (s1 : Int32) (d : vmD) (h : Machine_executeFlow_269 x1 s0 s1 d Q) : vmWp 86 269 [(0, .ref 38), (1, .int x1)] [.int s0, .int s1, .ref 39] (wC L d e) Qo := by
  unfold Machine_executeFlow_269 at h
  obtain ⟨hj_33, h⟩ := h
  refine st_iastC (o := 39) rfl rfl hj_33 rfl (fun d_34 hy_d_34 => ?_)
  have h := h d_34 hy_d_34
  refine st_go 5 (pc' := 279) (lo' := [(0, .ref 38), (1, .int x1)]) (st' := [.int 63, .int x1, .int 15, .ref 39]) rfl ?_
  by_cases hc_35 : x1 = 63
  · have h := Eq.mp (if_pos hc_35) h
    refine st_icmp (t := 282) (b := false) rfl (decide_eq_false (fun z => z hc_35)) rfl ?_
    refine st_go 2 (pc' := 287) (lo' := [(0, .ref 38), (1, .int x1)]) (st' := [.int 1, .int 15, .ref 39]) rfl ?_
    refine vmWp.sub (lo' := []) trivial ?_
    exact tMachine_executeFlow_287 hQ 1 15 d_34 h
  · have h := Eq.mp (if_neg hc_35) h
    refine st_icmp (t := 286) (b := true) rfl (decide_eq_true hc_35) rfl ?_
    refine st_go 1 (pc' := 287) (lo' := [(0, .ref 38), (1, .int x1)]) (st' := [.int 0, .int 15, .ref 39]) rfl ?_
    refine vmWp.sub (lo' := []) trivial ?_
    exact tMachine_executeFlow_287 hQ 0 15 d_34 h
set_option maxRecDepth 100000 in
def Machine_executeFlow (x1 : Int32) (x2 : Int32) (x3 : Int32) (d : vmD) (Q : vmD → Prop) : Prop :=
  if x1 = 33 then
  (Machine_exchange x2 x3 d fun d_2 =>
  Q d_2)
  else
  if x1 = 34 then
  (Machine_load 1 d fun r_5 d_4 =>
  Machine_save 1 (r_5 - 1) d_4 fun d_6 =>
  Machine_load 1 d_6 fun r_8 d_7 =>
  if r_8 = 0 then
  (Q d_7)
  else
  (Instruction_number d_7 fun r_11 d_10 =>
  bnd (sA d_10 39 11 r_11) fun d_12 =>
  Q d_12))
  else
  if x1 = 57 then
  (Machine_pop d fun r_15 d_14 =>
  Machine_savePair x2 r_15 d_14 fun d_16 =>
  Q d_16)
  else
  if x1 = 58 then
  (∃ m160, Machine_executeFlow_160 Q m160 1 d)
  else
  if x1 = 60 then
  (if x2 = 29 then
  (bnd (gA d 39 1) fun y_23 =>
  Machine_executeFlow_232 x3 y_23 d Q)
  else
  (Instruction_number d fun r_28 d_27 =>
  Machine_executeFlow_232 x3 r_28 d_27 Q))
  else
  if x1 = 61 then
  (Machine_takeIn x2 x3 d fun d_30 =>
  Q d_30)
  else
  if x1 = 62 then
  (if x1 = 63 then
  (Machine_executeFlow_269 x1 1 14 d Q)
  else
  (Machine_executeFlow_269 x1 0 14 d Q))
  else
  if x1 = 63 then
  (if x1 = 63 then
  (Machine_executeFlow_269 x1 1 14 d Q)
  else
  (Machine_executeFlow_269 x1 0 14 d Q))
  else
  if x1 = 65 then
  (Machine_pair x2 d fun r_42 d_41 =>
  Machine_push r_42 d_41 fun d_43 =>
  Q d_43)
  else
  (Machine_jump x1 x2 d fun d_44 =>
  Q d_44)
set_option maxRecDepth 100000 in
set_option maxHeartbeats 4000000 in
theorem tMachine_executeFlow {L : Nat} {e : vmD} {Qo : Option Value → vmW → Prop} {Q : vmD → Prop} (hQ : ∀ d, Q d → Qo none (wC L d e)) (x1 : Int32) (x2 : Int32) (x3 : Int32) (d : vmD) (h : Machine_executeFlow x1 x2 x3 d Q) : vmWp 86 0 [(0, .ref 38), (1, .int x1), (2, .int x2), (3, .int x3)] [] (wC L d e) Qo := by
  unfold Machine_executeFlow at h
  refine st_go 1 (pc' := 1) (lo' := [(0, .ref 38), (1, .int x1), (2, .int x2), (3, .int x3)]) (st' := [.int x1]) rfl ?_
  by_cases hc_1 : x1 = 33
  · have h := Eq.mp (if_pos hc_1) h
    refine st_tab (t := 148) rfl (by rw [hc_1]; rfl) ?_
    refine st_go 3 (pc' := 151) (lo' := [(0, .ref 38), (1, .int x1), (2, .int x2), (3, .int x3)]) (st' := [.int x3, .int x2, .ref 38]) rfl ?_
    refine st_callv (k' := 101) (as := [.ref 38, .int x2, .int x3]) (rest := []) (lo' := [(0, .ref 38), (1, .int x2), (2, .int x3)]) (wf := fun d => wC L d e) rfl rfl rfl ?_
    refine tMachine_exchange (fun d_2 h => ⟨d_2, rfl, rfl, ?_⟩) x2 x3 d h
    refine st_go 1 (pc' := 334) (lo' := [(0, .ref 38), (1, .int x1), (2, .int x2), (3, .int x3)]) (st' := []) rfl ?_
    exact st_retV rfl rfl (hQ _ h)
  · have h := Eq.mp (if_neg hc_1) h
    by_cases hc_3 : x1 = 34
    · have h := Eq.mp (if_pos hc_3) h
      refine st_tab (t := 291) rfl (by rw [hc_3]; rfl) ?_
      refine st_go 4 (pc' := 295) (lo' := [(0, .ref 38), (1, .int x1), (2, .int x2), (3, .int x3)]) (st' := [.int 1, .ref 38, .int 1, .ref 38]) rfl ?_
      refine st_calli (k' := 92) (as := [.ref 38, .int 1]) (rest := [.int 1, .ref 38]) (lo' := [(0, .ref 38), (1, .int 1)]) (wf := fun d => wC L d e) rfl rfl rfl ?_
      refine tMachine_load (fun r_5 d_4 h => ⟨r_5, d_4, rfl, rfl, ?_⟩) 1 d h
      refine st_go 2 (pc' := 300) (lo' := [(0, .ref 38), (1, .int x1), (2, .int x2), (3, .int x3)]) (st' := [.int (r_5 - 1), .int 1, .ref 38]) rfl ?_
      refine st_callv (k' := 93) (as := [.ref 38, .int 1, .int (r_5 - 1)]) (rest := []) (lo' := [(0, .ref 38), (1, .int 1), (2, .int (r_5 - 1))]) (wf := fun d => wC L d e) rfl rfl rfl ?_
      refine tMachine_save (fun d_6 h => ⟨d_6, rfl, rfl, ?_⟩) 1 (r_5 - 1) d_4 h
      refine st_go 2 (pc' := 305) (lo' := [(0, .ref 38), (1, .int x1), (2, .int x2), (3, .int x3)]) (st' := [.int 1, .ref 38]) rfl ?_
      refine st_calli (k' := 92) (as := [.ref 38, .int 1]) (rest := []) (lo' := [(0, .ref 38), (1, .int 1)]) (wf := fun d => wC L d e) rfl rfl rfl ?_
      refine tMachine_load (fun r_8 d_7 h => ⟨r_8, d_7, rfl, rfl, ?_⟩) 1 d_6 h
      by_cases hc_9 : r_8 = 0
      · have h := Eq.mp (if_pos hc_9) h
        refine st_if (t := 334) (b := true) rfl (decide_eq_true hc_9) rfl ?_
        exact st_retV rfl rfl (hQ _ h)
      · have h := Eq.mp (if_neg hc_9) h
        refine st_if (t := 311) (b := false) rfl (decide_eq_false hc_9) rfl ?_
        refine st_go 5 (pc' := 321) (lo' := [(0, .ref 38), (1, .int x1), (2, .int x2), (3, .int x3)]) (st' := [.ref 19, .int 11, .ref 39]) rfl ?_
        refine st_calli (k' := 68) (as := [.ref 19]) (rest := [.int 11, .ref 39]) (lo' := [(0, .ref 19)]) (wf := fun d => wC L d e) rfl rfl rfl ?_
        refine tInstruction_number (fun r_11 d_10 h => ⟨r_11, d_10, rfl, rfl, ?_⟩) d_7 h
        refine st_iastC (o := 39) rfl rfl (show ixOk 11 17 by decide) rfl (fun d_12 hy_d_12 => ?_)
        have h := h d_12 hy_d_12
        refine st_go 1 (pc' := 334) (lo' := [(0, .ref 38), (1, .int x1), (2, .int x2), (3, .int x3)]) (st' := []) rfl ?_
        exact st_retV rfl rfl (hQ _ h)
    · have h := Eq.mp (if_neg hc_3) h
      by_cases hc_13 : x1 = 57
      · have h := Eq.mp (if_pos hc_13) h
        refine st_tab (t := 197) rfl (by rw [hc_13]; rfl) ?_
        refine st_go 3 (pc' := 200) (lo' := [(0, .ref 38), (1, .int x1), (2, .int x2), (3, .int x3)]) (st' := [.ref 38, .int x2, .ref 38]) rfl ?_
        refine st_calli (k' := 99) (as := [.ref 38]) (rest := [.int x2, .ref 38]) (lo' := [(0, .ref 38)]) (wf := fun d => wC L d e) rfl rfl rfl ?_
        refine tMachine_pop (fun r_15 d_14 h => ⟨r_15, d_14, rfl, rfl, ?_⟩) d h
        refine st_callv (k' := 97) (as := [.ref 38, .int x2, .int r_15]) (rest := []) (lo' := [(0, .ref 38), (1, .int x2), (2, .int r_15)]) (wf := fun d => wC L d e) rfl rfl rfl ?_
        refine tMachine_savePair (fun d_16 h => ⟨d_16, rfl, rfl, ?_⟩) x2 r_15 d_14 h
        refine st_go 1 (pc' := 334) (lo' := [(0, .ref 38), (1, .int x1), (2, .int x2), (3, .int x3)]) (st' := []) rfl ?_
        exact st_retV rfl rfl (hQ _ h)
      · have h := Eq.mp (if_neg hc_13) h
        by_cases hc_17 : x1 = 58
        · have h := Eq.mp (if_pos hc_17) h
          refine st_tab (t := 157) rfl (by rw [hc_17]; rfl) ?_
          refine st_go 2 (pc' := 160) (lo' := [(4, .int 1), (0, .ref 38), (1, .int x1), (2, .int x2), (3, .int x3)]) (st' := []) rfl ?_
          obtain ⟨m160, h⟩ := h
          refine vmWp.sub (lo' := [(0, .ref 38), (4, .int 1)]) ⟨rfl, rfl, trivial⟩ ?_
          exact tMachine_executeFlow_160 hQ m160 1 d h
        · have h := Eq.mp (if_neg hc_17) h
          by_cases hc_21 : x1 = 60
          · have h := Eq.mp (if_pos hc_21) h
            refine st_tab (t := 209) rfl (by rw [hc_21]; rfl) ?_
            refine st_go 3 (pc' := 213) (lo' := [(0, .ref 38), (1, .int x1), (2, .int x2), (3, .int x3)]) (st' := [.int 29, .int x2, .ref 38]) rfl ?_
            by_cases hc_22 : x2 = 29
            · have h := Eq.mp (if_pos hc_22) h
              refine st_icmp (t := 216) (b := false) rfl (decide_eq_false (fun z => z hc_22)) rfl ?_
              refine st_go 3 (pc' := 221) (lo' := [(0, .ref 38), (1, .int x1), (2, .int x2), (3, .int x3)]) (st' := [.int 1, .ref 39, .ref 38]) rfl ?_
              refine st_ialdC (o := 39) rfl rfl (show ixOk 1 17 by decide) rfl (fun y_23 hy_y_23 => ?_)
              have h := h y_23 hy_y_23
              refine st_go 1 (pc' := 232) (lo' := [(0, .ref 38), (1, .int x1), (2, .int x2), (3, .int x3)]) (st' := [.int y_23, .ref 38]) rfl ?_
              refine vmWp.sub (lo' := [(0, .ref 38), (3, .int x3)]) ⟨rfl, rfl, trivial⟩ ?_
              exact tMachine_executeFlow_232 hQ x3 y_23 d h
            · have h := Eq.mp (if_neg hc_22) h
              refine st_icmp (t := 225) (b := true) rfl (decide_eq_true hc_22) rfl ?_
              refine st_go 2 (pc' := 229) (lo' := [(0, .ref 38), (1, .int x1), (2, .int x2), (3, .int x3)]) (st' := [.ref 19, .ref 38]) rfl ?_
              refine st_calli (k' := 68) (as := [.ref 19]) (rest := [.ref 38]) (lo' := [(0, .ref 19)]) (wf := fun d => wC L d e) rfl rfl rfl ?_
              refine tInstruction_number (fun r_28 d_27 h => ⟨r_28, d_27, rfl, rfl, ?_⟩) d h
              refine vmWp.sub (lo' := [(0, .ref 38), (3, .int x3)]) ⟨rfl, rfl, trivial⟩ ?_
              exact tMachine_executeFlow_232 hQ x3 r_28 d_27 h
          · have h := Eq.mp (if_neg hc_21) h
            by_cases hc_29 : x1 = 61
            · have h := Eq.mp (if_pos hc_29) h
              refine st_tab (t := 243) rfl (by rw [hc_29]; rfl) ?_
              refine st_go 3 (pc' := 246) (lo' := [(0, .ref 38), (1, .int x1), (2, .int x2), (3, .int x3)]) (st' := [.int x3, .int x2, .ref 38]) rfl ?_
              refine st_callv (k' := 120) (as := [.ref 38, .int x2, .int x3]) (rest := []) (lo' := [(0, .ref 38), (1, .int x2), (2, .int x3)]) (wf := fun d => wC L d e) rfl rfl rfl ?_
              refine tMachine_takeIn (fun d_30 h => ⟨d_30, rfl, rfl, ?_⟩) x2 x3 d h
              refine st_go 1 (pc' := 334) (lo' := [(0, .ref 38), (1, .int x1), (2, .int x2), (3, .int x3)]) (st' := []) rfl ?_
              exact st_retV rfl rfl (hQ _ h)
            · have h := Eq.mp (if_neg hc_29) h
              by_cases hc_31 : x1 = 62
              · have h := Eq.mp (if_pos hc_31) h
                refine st_tab (t := 252) rfl (by rw [hc_31]; rfl) ?_
                refine st_go 5 (pc' := 261) (lo' := [(0, .ref 38), (1, .int x1), (2, .int x2), (3, .int x3)]) (st' := [.int 63, .int x1, .int 14, .ref 39]) rfl ?_
                by_cases hc_32 : x1 = 63
                · have h := Eq.mp (if_pos hc_32) h
                  refine st_icmp (t := 264) (b := false) rfl (decide_eq_false (fun z => z hc_32)) rfl ?_
                  refine st_go 2 (pc' := 269) (lo' := [(0, .ref 38), (1, .int x1), (2, .int x2), (3, .int x3)]) (st' := [.int 1, .int 14, .ref 39]) rfl ?_
                  refine vmWp.sub (lo' := [(0, .ref 38), (1, .int x1)]) ⟨rfl, rfl, trivial⟩ ?_
                  exact tMachine_executeFlow_269 hQ x1 1 14 d h
                · have h := Eq.mp (if_neg hc_32) h
                  refine st_icmp (t := 268) (b := true) rfl (decide_eq_true hc_32) rfl ?_
                  refine st_go 1 (pc' := 269) (lo' := [(0, .ref 38), (1, .int x1), (2, .int x2), (3, .int x3)]) (st' := [.int 0, .int 14, .ref 39]) rfl ?_
                  refine vmWp.sub (lo' := [(0, .ref 38), (1, .int x1)]) ⟨rfl, rfl, trivial⟩ ?_
                  exact tMachine_executeFlow_269 hQ x1 0 14 d h
              · have h := Eq.mp (if_neg hc_31) h
                by_cases hc_38 : x1 = 63
                · have h := Eq.mp (if_pos hc_38) h
                  refine st_tab (t := 252) rfl (by rw [hc_38]; rfl) ?_
                  refine st_go 5 (pc' := 261) (lo' := [(0, .ref 38), (1, .int x1), (2, .int x2), (3, .int x3)]) (st' := [.int 63, .int x1, .int 14, .ref 39]) rfl ?_
                  by_cases hc_39 : x1 = 63
                  · have h := Eq.mp (if_pos hc_39) h
                    refine st_icmp (t := 264) (b := false) rfl (decide_eq_false (fun z => z hc_39)) rfl ?_
                    refine st_go 2 (pc' := 269) (lo' := [(0, .ref 38), (1, .int x1), (2, .int x2), (3, .int x3)]) (st' := [.int 1, .int 14, .ref 39]) rfl ?_
                    refine vmWp.sub (lo' := [(0, .ref 38), (1, .int x1)]) ⟨rfl, rfl, trivial⟩ ?_
                    exact tMachine_executeFlow_269 hQ x1 1 14 d h
                  · have h := Eq.mp (if_neg hc_39) h
                    refine st_icmp (t := 268) (b := true) rfl (decide_eq_true hc_39) rfl ?_
                    refine st_go 1 (pc' := 269) (lo' := [(0, .ref 38), (1, .int x1), (2, .int x2), (3, .int x3)]) (st' := [.int 0, .int 14, .ref 39]) rfl ?_
                    refine vmWp.sub (lo' := [(0, .ref 38), (1, .int x1)]) ⟨rfl, rfl, trivial⟩ ?_
                    exact tMachine_executeFlow_269 hQ x1 0 14 d h
                · have h := Eq.mp (if_neg hc_38) h
                  by_cases hc_40 : x1 = 65
                  · have h := Eq.mp (if_pos hc_40) h
                    refine st_tab (t := 185) rfl (by rw [hc_40]; rfl) ?_
                    refine st_go 3 (pc' := 188) (lo' := [(0, .ref 38), (1, .int x1), (2, .int x2), (3, .int x3)]) (st' := [.int x2, .ref 38, .ref 38]) rfl ?_
                    refine st_calli (k' := 96) (as := [.ref 38, .int x2]) (rest := [.ref 38]) (lo' := [(0, .ref 38), (1, .int x2)]) (wf := fun d => wC L d e) rfl rfl rfl ?_
                    refine tMachine_pair (fun r_42 d_41 h => ⟨r_42, d_41, rfl, rfl, ?_⟩) x2 d h
                    refine st_callv (k' := 98) (as := [.ref 38, .int r_42]) (rest := []) (lo' := [(0, .ref 38), (1, .int r_42)]) (wf := fun d => wC L d e) rfl rfl rfl ?_
                    refine tMachine_push (fun d_43 h => ⟨d_43, rfl, rfl, ?_⟩) r_42 d_41 h
                    refine st_go 1 (pc' := 334) (lo' := [(0, .ref 38), (1, .int x1), (2, .int x2), (3, .int x3)]) (st' := []) rfl ?_
                    exact st_retV rfl rfl (hQ _ h)
                  · have h := Eq.mp (if_neg hc_40) h
                    refine st_tab (t := 328) rfl (tab_def rfl (by decide) rfl (by
                      intro j hj hx
                      have hj : j < 33 := hj
                      rcases (j = 0 ∨ j = 1 ∨ j = 2 ∨ j = 3 ∨ j = 4 ∨ j = 5 ∨ j = 6 ∨ j = 7 ∨ j = 8 ∨ j = 9 ∨ j = 10 ∨ j = 11 ∨ j = 12 ∨ j = 13 ∨ j = 14 ∨ j = 15 ∨ j = 16 ∨ j = 17 ∨ j = 18 ∨ j = 19 ∨ j = 20 ∨ j = 21 ∨ j = 22 ∨ j = 23 ∨ j = 24 ∨ j = 25 ∨ j = 26 ∨ j = 27 ∨ j = 28 ∨ j = 29 ∨ j = 30 ∨ j = 31 ∨ j = 32 : Prop) |> fun _ => (show j = 0 ∨ j = 1 ∨ j = 2 ∨ j = 3 ∨ j = 4 ∨ j = 5 ∨ j = 6 ∨ j = 7 ∨ j = 8 ∨ j = 9 ∨ j = 10 ∨ j = 11 ∨ j = 12 ∨ j = 13 ∨ j = 14 ∨ j = 15 ∨ j = 16 ∨ j = 17 ∨ j = 18 ∨ j = 19 ∨ j = 20 ∨ j = 21 ∨ j = 22 ∨ j = 23 ∨ j = 24 ∨ j = 25 ∨ j = 26 ∨ j = 27 ∨ j = 28 ∨ j = 29 ∨ j = 30 ∨ j = 31 ∨ j = 32 by omega) with rfl | rfl | rfl | rfl | rfl | rfl | rfl | rfl | rfl | rfl | rfl | rfl | rfl | rfl | rfl | rfl | rfl | rfl | rfl | rfl | rfl | rfl | rfl | rfl | rfl | rfl | rfl | rfl | rfl | rfl | rfl | rfl | rfl <;> first | rfl | exact absurd hx hc_1 | exact absurd hx hc_3 | exact absurd hx hc_13 | exact absurd hx hc_17 | exact absurd hx hc_21 | exact absurd hx hc_29 | exact absurd hx hc_31 | exact absurd hx hc_38 | exact absurd hx hc_40)) ?_
                    refine st_go 3 (pc' := 331) (lo' := [(0, .ref 38), (1, .int x1), (2, .int x2), (3, .int x3)]) (st' := [.int x2, .int x1, .ref 38]) rfl ?_
                    refine st_callv (k' := 105) (as := [.ref 38, .int x1, .int x2]) (rest := []) (lo' := [(0, .ref 38), (1, .int x1), (2, .int x2)]) (wf := fun d => wC L d e) rfl rfl rfl ?_
                    refine tMachine_jump (fun d_44 h => ⟨d_44, rfl, rfl, ?_⟩) x1 x2 d h
                    exact st_retV rfl rfl (hQ _ h)
set_option maxRecDepth 100000 in
def Machine_adjust_188 (s0 : Int32) (s1 : Int32) (d : vmD) (Q : vmD → Prop) : Prop :=
  Machine_setFlags (s1 ||| s0) d fun d_21 =>
  Q d_21
set_option maxRecDepth 100000 in
set_option maxHeartbeats 4000000 in
theorem tMachine_adjust_188 {L : Nat} {e : vmD} {Qo : Option Value → vmW → Prop} {Q : vmD → Prop} (hQ : ∀ d, Q d → Qo none (wC L d e)) (s0 : Int32) (s1 : Int32) (d : vmD) (h : Machine_adjust_188 s0 s1 d Q) : vmWp 117 188 [] [.int s0, .int s1, .ref 38] (wC L d e) Qo := by
  unfold Machine_adjust_188 at h
  refine st_go 1 (pc' := 189) (lo' := []) (st' := [.int (s1 ||| s0), .ref 38]) rfl ?_
  refine st_callv (k' := 89) (as := [.ref 38, .int (s1 ||| s0)]) (rest := []) (lo' := [(0, .ref 38), (1, .int (s1 ||| s0))]) (wf := fun d => wC L d e) rfl rfl rfl ?_
  refine tMachine_setFlags (fun d_21 h => ⟨d_21, rfl, rfl, ?_⟩) (s1 ||| s0) d h
  exact st_retV rfl rfl (hQ _ h)
set_option maxRecDepth 100000 in
def Machine_adjust_176 (x9 : Int32) (s0 : Int32) (s1 : Int32) (d : vmD) (Q : vmD → Prop) : Prop :=
  if x9 = 0 then
  (Machine_adjust_188 0 (s1 ||| s0) d Q)
  else
  (Machine_adjust_188 16 (s1 ||| s0) d Q)
set_option maxRecDepth 100000 in
set_option maxHeartbeats 4000000 in
theorem tMachine_adjust_176 {L : Nat} {e : vmD} {Qo : Option Value → vmW → Prop} {Q : vmD → Prop} (hQ : ∀ d, Q d → Qo none (wC L d e)) (x9 : Int32) (s0 : Int32) (s1 : Int32) (d : vmD) (h : Machine_adjust_176 x9 s0 s1 d Q) : vmWp 117 176 [(9, .int x9)] [.int s0, .int s1, .ref 38] (wC L d e) Qo := by
  unfold Machine_adjust_176 at h
  refine st_go 2 (pc' := 179) (lo' := [(9, .int x9)]) (st' := [.int x9, .int (s1 ||| s0), .ref 38]) rfl ?_
  by_cases hc_20 : x9 = 0
  · have h := Eq.mp (if_pos hc_20) h
    refine st_if (t := 187) (b := true) rfl (decide_eq_true hc_20) rfl ?_
    refine st_go 1 (pc' := 188) (lo' := [(9, .int x9)]) (st' := [.int 0, .int (s1 ||| s0), .ref 38]) rfl ?_
    refine vmWp.sub (lo' := []) trivial ?_
    exact tMachine_adjust_188 hQ 0 (s1 ||| s0) d h
  · have h := Eq.mp (if_neg hc_20) h
    refine st_if (t := 182) (b := false) rfl (decide_eq_false hc_20) rfl ?_
    refine st_go 2 (pc' := 188) (lo' := [(9, .int x9)]) (st' := [.int 16, .int (s1 ||| s0), .ref 38]) rfl ?_
    refine vmWp.sub (lo' := []) trivial ?_
    exact tMachine_adjust_188 hQ 16 (s1 ||| s0) d h
set_option maxRecDepth 100000 in
def Machine_adjust_140 (x2 : Int32) (x6 : Int32) (x8 : Int32) (s0 : Int32) (d : vmD) (Q : vmD → Prop) : Prop :=
  Machine_save 8 x8 d fun d_14 =>
  Machine_signsOf x8 d_14 fun r_16 d_15 =>
  Machine_parityOf x8 d_15 fun r_18 d_17 =>
  if x6 = 0 then
  (Machine_adjust_176 s0 0 ((r_16 ||| r_18) ||| (x2 &&& 2)) d_17 Q)
  else
  (Machine_adjust_176 s0 1 ((r_16 ||| r_18) ||| (x2 &&& 2)) d_17 Q)
set_option maxRecDepth 100000 in
set_option maxHeartbeats 4000000 in
theorem tMachine_adjust_140 {L : Nat} {e : vmD} {Qo : Option Value → vmW → Prop} {Q : vmD → Prop} (hQ : ∀ d, Q d → Qo none (wC L d e)) (x2 : Int32) (x6 : Int32) (x8 : Int32) (s0 : Int32) (d : vmD) (h : Machine_adjust_140 x2 x6 x8 s0 d Q) : vmWp 117 140 [(0, .ref 38), (2, .int x2), (6, .int x6), (8, .int x8)] [.int s0] (wC L d e) Qo := by
  unfold Machine_adjust_140 at h
  refine st_go 4 (pc' := 147) (lo' := [(9, .int s0), (0, .ref 38), (2, .int x2), (6, .int x6), (8, .int x8)]) (st' := [.int x8, .int 8, .ref 38]) rfl ?_
  refine st_callv (k' := 93) (as := [.ref 38, .int 8, .int x8]) (rest := []) (lo' := [(0, .ref 38), (1, .int 8), (2, .int x8)]) (wf := fun d => wC L d e) rfl rfl rfl ?_
  refine tMachine_save (fun d_14 h => ⟨d_14, rfl, rfl, ?_⟩) 8 x8 d h
  refine st_go 2 (pc' := 153) (lo' := [(9, .int s0), (0, .ref 38), (2, .int x2), (6, .int x6), (8, .int x8)]) (st' := [.int x8, .ref 38]) rfl ?_
  refine st_calli (k' := 90) (as := [.int x8]) (rest := [.ref 38]) (lo' := [(0, .int x8)]) (wf := fun d => wC L d e) rfl rfl rfl ?_
  refine tMachine_signsOf (fun r_16 d_15 h => ⟨r_16, d_15, rfl, rfl, ?_⟩) x8 d_14 h
  refine st_go 1 (pc' := 158) (lo' := [(9, .int s0), (0, .ref 38), (2, .int x2), (6, .int x6), (8, .int x8)]) (st' := [.int x8, .int r_16, .ref 38]) rfl ?_
  refine st_calli (k' := 91) (as := [.int x8]) (rest := [.int r_16, .ref 38]) (lo' := [(0, .int x8)]) (wf := fun d => wC L d e) rfl rfl rfl ?_
  refine tMachine_parityOf (fun r_18 d_17 h => ⟨r_18, d_17, rfl, rfl, ?_⟩) x8 d_15 h
  refine st_go 6 (pc' := 168) (lo' := [(9, .int s0), (0, .ref 38), (2, .int x2), (6, .int x6), (8, .int x8)]) (st' := [.int x6, .int ((r_16 ||| r_18) ||| (x2 &&& 2)), .ref 38]) rfl ?_
  by_cases hc_19 : x6 = 0
  · have h := Eq.mp (if_pos hc_19) h
    refine st_if (t := 175) (b := true) rfl (decide_eq_true hc_19) rfl ?_
    refine st_go 1 (pc' := 176) (lo' := [(9, .int s0), (0, .ref 38), (2, .int x2), (6, .int x6), (8, .int x8)]) (st' := [.int 0, .int ((r_16 ||| r_18) ||| (x2 &&& 2)), .ref 38]) rfl ?_
    refine vmWp.sub (lo' := [(9, .int s0)]) ⟨rfl, trivial⟩ ?_
    exact tMachine_adjust_176 hQ s0 0 ((r_16 ||| r_18) ||| (x2 &&& 2)) d_17 h
  · have h := Eq.mp (if_neg hc_19) h
    refine st_if (t := 171) (b := false) rfl (decide_eq_false hc_19) rfl ?_
    refine st_go 2 (pc' := 176) (lo' := [(9, .int s0), (0, .ref 38), (2, .int x2), (6, .int x6), (8, .int x8)]) (st' := [.int 1, .int ((r_16 ||| r_18) ||| (x2 &&& 2)), .ref 38]) rfl ?_
    refine vmWp.sub (lo' := [(9, .int s0)]) ⟨rfl, trivial⟩ ?_
    exact tMachine_adjust_176 hQ s0 1 ((r_16 ||| r_18) ||| (x2 &&& 2)) d_17 h
set_option maxRecDepth 100000 in
def Machine_adjust_125 (x2 : Int32) (x6 : Int32) (x8 : Int32) (d : vmD) (Q : vmD → Prop) : Prop :=
  Machine_adjust_140 x2 x6 x8 0 d Q
set_option maxRecDepth 100000 in
set_option maxHeartbeats 4000000 in
theorem tMachine_adjust_125 {L : Nat} {e : vmD} {Qo : Option Value → vmW → Prop} {Q : vmD → Prop} (hQ : ∀ d, Q d → Qo none (wC L d e)) (x2 : Int32) (x6 : Int32) (x8 : Int32) (d : vmD) (h : Machine_adjust_125 x2 x6 x8 d Q) : vmWp 117 125 [(0, .ref 38), (2, .int x2), (6, .int x6), (8, .int x8)] [] (wC L d e) Qo := by
  unfold Machine_adjust_125 at h
  refine st_go 2 (pc' := 140) (lo' := [(0, .ref 38), (2, .int x2), (6, .int x6), (8, .int x8)]) (st' := [.int 0]) rfl ?_
  refine vmWp.sub (lo' := [(0, .ref 38), (2, .int x2), (6, .int x6), (8, .int x8)]) ⟨rfl, rfl, rfl, rfl, trivial⟩ ?_
  exact tMachine_adjust_140 hQ x2 x6 x8 0 d h
set_option maxRecDepth 100000 in
def Machine_adjust_99 (x2 : Int32) (x3 : Int32) (x4 : Int32) (x5 : Int32) (x6 : Int32) (s0 : Int32) (d : vmD) (Q : vmD → Prop) : Prop :=
  bnd (s0 &&& 255) fun x8_11 =>
  if x4 = 0 then
  (if (9 : Int32) < x3 then
  (Machine_adjust_140 x2 x6 x8_11 1 d Q)
  else
  (Machine_adjust_140 x2 x6 x8_11 0 d Q))
  else
  (if x5 = 0 then
  (Machine_adjust_125 x2 x6 x8_11 d Q)
  else
  (if x3 < 6 then
  (Machine_adjust_140 x2 x6 x8_11 1 d Q)
  else
  (Machine_adjust_125 x2 x6 x8_11 d Q)))
set_option maxRecDepth 100000 in
set_option maxHeartbeats 4000000 in
theorem tMachine_adjust_99 {L : Nat} {e : vmD} {Qo : Option Value → vmW → Prop} {Q : vmD → Prop} (hQ : ∀ d, Q d → Qo none (wC L d e)) (x2 : Int32) (x3 : Int32) (x4 : Int32) (x5 : Int32) (x6 : Int32) (s0 : Int32) (d : vmD) (h : Machine_adjust_99 x2 x3 x4 x5 x6 s0 d Q) : vmWp 117 99 [(0, .ref 38), (2, .int x2), (3, .int x3), (4, .int x4), (5, .int x5), (6, .int x6)] [.int s0] (wC L d e) Qo := by
  unfold Machine_adjust_99 at h
  refine st_go 3 (pc' := 105) (lo' := [(8, .int (s0 &&& 255)), (0, .ref 38), (2, .int x2), (3, .int x3), (4, .int x4), (5, .int x5), (6, .int x6)]) (st' := []) rfl ?_
  refine st_locI (fun x8_11 hy_x8_11 => ?_)
  have h := h x8_11 hy_x8_11
  refine st_go 1 (pc' := 107) (lo' := [(8, .int x8_11), (0, .ref 38), (2, .int x2), (3, .int x3), (4, .int x4), (5, .int x5), (6, .int x6)]) (st' := [.int x4]) rfl ?_
  by_cases hc_12 : x4 = 0
  · have h := Eq.mp (if_pos hc_12) h
    refine st_if (t := 129) (b := true) rfl (decide_eq_true hc_12) rfl ?_
    refine st_go 2 (pc' := 132) (lo' := [(8, .int x8_11), (0, .ref 38), (2, .int x2), (3, .int x3), (4, .int x4), (5, .int x5), (6, .int x6)]) (st' := [.int 9, .int x3]) rfl ?_
    by_cases hc_13 : (9 : Int32) < x3
    · have h := Eq.mp (if_pos hc_13) h
      refine st_icmp (t := 135) (b := false) rfl (decide_eq_false (Int32.not_le.mpr hc_13)) rfl ?_
      refine st_go 2 (pc' := 140) (lo' := [(8, .int x8_11), (0, .ref 38), (2, .int x2), (3, .int x3), (4, .int x4), (5, .int x5), (6, .int x6)]) (st' := [.int 1]) rfl ?_
      refine vmWp.sub (lo' := [(0, .ref 38), (2, .int x2), (6, .int x6), (8, .int x8_11)]) ⟨rfl, rfl, rfl, rfl, trivial⟩ ?_
      exact tMachine_adjust_140 hQ x2 x6 x8_11 1 d h
    · have h := Eq.mp (if_neg hc_13) h
      refine st_icmp (t := 139) (b := true) rfl (decide_eq_true (Int32.not_lt.mp hc_13)) rfl ?_
      refine st_go 1 (pc' := 140) (lo' := [(8, .int x8_11), (0, .ref 38), (2, .int x2), (3, .int x3), (4, .int x4), (5, .int x5), (6, .int x6)]) (st' := [.int 0]) rfl ?_
      refine vmWp.sub (lo' := [(0, .ref 38), (2, .int x2), (6, .int x6), (8, .int x8_11)]) ⟨rfl, rfl, rfl, rfl, trivial⟩ ?_
      exact tMachine_adjust_140 hQ x2 x6 x8_11 0 d h
  · have h := Eq.mp (if_neg hc_12) h
    refine st_if (t := 110) (b := false) rfl (decide_eq_false hc_12) rfl ?_
    refine st_go 1 (pc' := 112) (lo' := [(8, .int x8_11), (0, .ref 38), (2, .int x2), (3, .int x3), (4, .int x4), (5, .int x5), (6, .int x6)]) (st' := [.int x5]) rfl ?_
    by_cases hc_22 : x5 = 0
    · have h := Eq.mp (if_pos hc_22) h
      refine st_if (t := 125) (b := true) rfl (decide_eq_true hc_22) rfl ?_
      refine vmWp.sub (lo' := [(0, .ref 38), (2, .int x2), (6, .int x6), (8, .int x8_11)]) ⟨rfl, rfl, rfl, rfl, trivial⟩ ?_
      exact tMachine_adjust_125 hQ x2 x6 x8_11 d h
    · have h := Eq.mp (if_neg hc_22) h
      refine st_if (t := 115) (b := false) rfl (decide_eq_false hc_22) rfl ?_
      refine st_go 2 (pc' := 118) (lo' := [(8, .int x8_11), (0, .ref 38), (2, .int x2), (3, .int x3), (4, .int x4), (5, .int x5), (6, .int x6)]) (st' := [.int 6, .int x3]) rfl ?_
      by_cases hc_23 : x3 < 6
      · have h := Eq.mp (if_pos hc_23) h
        refine st_icmp (t := 121) (b := false) rfl (decide_eq_false (Int32.not_le.mpr hc_23)) rfl ?_
        refine st_go 2 (pc' := 140) (lo' := [(8, .int x8_11), (0, .ref 38), (2, .int x2), (3, .int x3), (4, .int x4), (5, .int x5), (6, .int x6)]) (st' := [.int 1]) rfl ?_
        refine vmWp.sub (lo' := [(0, .ref 38), (2, .int x2), (6, .int x6), (8, .int x8_11)]) ⟨rfl, rfl, rfl, rfl, trivial⟩ ?_
        exact tMachine_adjust_140 hQ x2 x6 x8_11 1 d h
      · have h := Eq.mp (if_neg hc_23) h
        refine st_icmp (t := 125) (b := true) rfl (decide_eq_true (Int32.not_lt.mp hc_23)) rfl ?_
        refine vmWp.sub (lo' := [(0, .ref 38), (2, .int x2), (6, .int x6), (8, .int x8_11)]) ⟨rfl, rfl, rfl, rfl, trivial⟩ ?_
        exact tMachine_adjust_125 hQ x2 x6 x8_11 d h
set_option maxRecDepth 100000 in
def Machine_adjust_80 (x1 : Int32) (x2 : Int32) (x3 : Int32) (x4 : Int32) (x5 : Int32) (x6 : Int32) (s0 : Int32) (s1 : Int32) (d : vmD) (Q : vmD → Prop) : Prop :=
  bnd (s1 + s0) fun x7_9 =>
  if x4 = 0 then
  (Machine_adjust_99 x2 x3 x4 x5 x6 (x1 + x7_9) d Q)
  else
  (Machine_adjust_99 x2 x3 x4 x5 x6 (x1 - x7_9) d Q)
set_option maxRecDepth 100000 in
set_option maxHeartbeats 4000000 in
theorem tMachine_adjust_80 {L : Nat} {e : vmD} {Qo : Option Value → vmW → Prop} {Q : vmD → Prop} (hQ : ∀ d, Q d → Qo none (wC L d e)) (x1 : Int32) (x2 : Int32) (x3 : Int32) (x4 : Int32) (x5 : Int32) (x6 : Int32) (s0 : Int32) (s1 : Int32) (d : vmD) (h : Machine_adjust_80 x1 x2 x3 x4 x5 x6 s0 s1 d Q) : vmWp 117 80 [(0, .ref 38), (1, .int x1), (2, .int x2), (3, .int x3), (4, .int x4), (5, .int x5), (6, .int x6)] [.int s0, .int s1] (wC L d e) Qo := by
  unfold Machine_adjust_80 at h
  refine st_go 2 (pc' := 83) (lo' := [(7, .int (s1 + s0)), (0, .ref 38), (1, .int x1), (2, .int x2), (3, .int x3), (4, .int x4), (5, .int x5), (6, .int x6)]) (st' := []) rfl ?_
  refine st_locI (fun x7_9 hy_x7_9 => ?_)
  have h := h x7_9 hy_x7_9
  refine st_go 1 (pc' := 85) (lo' := [(7, .int x7_9), (0, .ref 38), (1, .int x1), (2, .int x2), (3, .int x3), (4, .int x4), (5, .int x5), (6, .int x6)]) (st' := [.int x4]) rfl ?_
  by_cases hc_10 : x4 = 0
  · have h := Eq.mp (if_pos hc_10) h
    refine st_if (t := 95) (b := true) rfl (decide_eq_true hc_10) rfl ?_
    refine st_go 3 (pc' := 99) (lo' := [(7, .int x7_9), (0, .ref 38), (1, .int x1), (2, .int x2), (3, .int x3), (4, .int x4), (5, .int x5), (6, .int x6)]) (st' := [.int (x1 + x7_9)]) rfl ?_
    refine vmWp.sub (lo' := [(0, .ref 38), (2, .int x2), (3, .int x3), (4, .int x4), (5, .int x5), (6, .int x6)]) ⟨rfl, rfl, rfl, rfl, rfl, rfl, trivial⟩ ?_
    exact tMachine_adjust_99 hQ x2 x3 x4 x5 x6 (x1 + x7_9) d h
  · have h := Eq.mp (if_neg hc_10) h
    refine st_if (t := 88) (b := false) rfl (decide_eq_false hc_10) rfl ?_
    refine st_go 4 (pc' := 99) (lo' := [(7, .int x7_9), (0, .ref 38), (1, .int x1), (2, .int x2), (3, .int x3), (4, .int x4), (5, .int x5), (6, .int x6)]) (st' := [.int (x1 - x7_9)]) rfl ?_
    refine vmWp.sub (lo' := [(0, .ref 38), (2, .int x2), (3, .int x3), (4, .int x4), (5, .int x5), (6, .int x6)]) ⟨rfl, rfl, rfl, rfl, rfl, rfl, trivial⟩ ?_
    exact tMachine_adjust_99 hQ x2 x3 x4 x5 x6 (x1 - x7_9) d h
set_option maxRecDepth 100000 in
def Machine_adjust_69 (x1 : Int32) (x2 : Int32) (x3 : Int32) (x4 : Int32) (x5 : Int32) (x6 : Int32) (s0 : Int32) (d : vmD) (Q : vmD → Prop) : Prop :=
  if x6 = 0 then
  (Machine_adjust_80 x1 x2 x3 x4 x5 x6 0 s0 d Q)
  else
  (Machine_adjust_80 x1 x2 x3 x4 x5 x6 96 s0 d Q)
set_option maxRecDepth 100000 in
set_option maxHeartbeats 4000000 in
theorem tMachine_adjust_69 {L : Nat} {e : vmD} {Qo : Option Value → vmW → Prop} {Q : vmD → Prop} (hQ : ∀ d, Q d → Qo none (wC L d e)) (x1 : Int32) (x2 : Int32) (x3 : Int32) (x4 : Int32) (x5 : Int32) (x6 : Int32) (s0 : Int32) (d : vmD) (h : Machine_adjust_69 x1 x2 x3 x4 x5 x6 s0 d Q) : vmWp 117 69 [(0, .ref 38), (1, .int x1), (2, .int x2), (3, .int x3), (4, .int x4), (5, .int x5), (6, .int x6)] [.int s0] (wC L d e) Qo := by
  unfold Machine_adjust_69 at h
  refine st_go 1 (pc' := 71) (lo' := [(0, .ref 38), (1, .int x1), (2, .int x2), (3, .int x3), (4, .int x4), (5, .int x5), (6, .int x6)]) (st' := [.int x6, .int s0]) rfl ?_
  by_cases hc_8 : x6 = 0
  · have h := Eq.mp (if_pos hc_8) h
    refine st_if (t := 79) (b := true) rfl (decide_eq_true hc_8) rfl ?_
    refine st_go 1 (pc' := 80) (lo' := [(0, .ref 38), (1, .int x1), (2, .int x2), (3, .int x3), (4, .int x4), (5, .int x5), (6, .int x6)]) (st' := [.int 0, .int s0]) rfl ?_
    refine vmWp.sub (lo' := [(0, .ref 38), (1, .int x1), (2, .int x2), (3, .int x3), (4, .int x4), (5, .int x5), (6, .int x6)]) ⟨rfl, rfl, rfl, rfl, rfl, rfl, rfl, trivial⟩ ?_
    exact tMachine_adjust_80 hQ x1 x2 x3 x4 x5 x6 0 s0 d h
  · have h := Eq.mp (if_neg hc_8) h
    refine st_if (t := 74) (b := false) rfl (decide_eq_false hc_8) rfl ?_
    refine st_go 2 (pc' := 80) (lo' := [(0, .ref 38), (1, .int x1), (2, .int x2), (3, .int x3), (4, .int x4), (5, .int x5), (6, .int x6)]) (st' := [.int 96, .int s0]) rfl ?_
    refine vmWp.sub (lo' := [(0, .ref 38), (1, .int x1), (2, .int x2), (3, .int x3), (4, .int x4), (5, .int x5), (6, .int x6)]) ⟨rfl, rfl, rfl, rfl, rfl, rfl, rfl, trivial⟩ ?_
    exact tMachine_adjust_80 hQ x1 x2 x3 x4 x5 x6 96 s0 d h
set_option maxRecDepth 100000 in
def Machine_adjust_63 (x1 : Int32) (x2 : Int32) (x3 : Int32) (x4 : Int32) (x5 : Int32) (x6 : Int32) (d : vmD) (Q : vmD → Prop) : Prop :=
  Machine_adjust_69 x1 x2 x3 x4 x5 x6 6 d Q
set_option maxRecDepth 100000 in
set_option maxHeartbeats 4000000 in
theorem tMachine_adjust_63 {L : Nat} {e : vmD} {Qo : Option Value → vmW → Prop} {Q : vmD → Prop} (hQ : ∀ d, Q d → Qo none (wC L d e)) (x1 : Int32) (x2 : Int32) (x3 : Int32) (x4 : Int32) (x5 : Int32) (x6 : Int32) (d : vmD) (h : Machine_adjust_63 x1 x2 x3 x4 x5 x6 d Q) : vmWp 117 63 [(0, .ref 38), (1, .int x1), (2, .int x2), (3, .int x3), (4, .int x4), (5, .int x5), (6, .int x6)] [] (wC L d e) Qo := by
  unfold Machine_adjust_63 at h
  refine st_go 2 (pc' := 69) (lo' := [(0, .ref 38), (1, .int x1), (2, .int x2), (3, .int x3), (4, .int x4), (5, .int x5), (6, .int x6)]) (st' := [.int 6]) rfl ?_
  refine vmWp.sub (lo' := [(0, .ref 38), (1, .int x1), (2, .int x2), (3, .int x3), (4, .int x4), (5, .int x5), (6, .int x6)]) ⟨rfl, rfl, rfl, rfl, rfl, rfl, rfl, trivial⟩ ?_
  exact tMachine_adjust_69 hQ x1 x2 x3 x4 x5 x6 6 d h
set_option maxRecDepth 100000 in
def Machine_adjust_50 (x1 : Int32) (x2 : Int32) (x3 : Int32) (x4 : Int32) (x5 : Int32) (s0 : Int32) (d : vmD) (Q : vmD → Prop) : Prop :=
  if x5 = 0 then
  (if (9 : Int32) < x3 then
  (Machine_adjust_63 x1 x2 x3 x4 x5 s0 d Q)
  else
  (Machine_adjust_69 x1 x2 x3 x4 x5 s0 0 d Q))
  else
  (Machine_adjust_63 x1 x2 x3 x4 x5 s0 d Q)
set_option maxRecDepth 100000 in
set_option maxHeartbeats 4000000 in
theorem tMachine_adjust_50 {L : Nat} {e : vmD} {Qo : Option Value → vmW → Prop} {Q : vmD → Prop} (hQ : ∀ d, Q d → Qo none (wC L d e)) (x1 : Int32) (x2 : Int32) (x3 : Int32) (x4 : Int32) (x5 : Int32) (s0 : Int32) (d : vmD) (h : Machine_adjust_50 x1 x2 x3 x4 x5 s0 d Q) : vmWp 117 50 [(0, .ref 38), (1, .int x1), (2, .int x2), (3, .int x3), (4, .int x4), (5, .int x5)] [.int s0] (wC L d e) Qo := by
  unfold Machine_adjust_50 at h
  refine st_go 2 (pc' := 54) (lo' := [(6, .int s0), (0, .ref 38), (1, .int x1), (2, .int x2), (3, .int x3), (4, .int x4), (5, .int x5)]) (st' := [.int x5]) rfl ?_
  by_cases hc_6 : x5 = 0
  · have h := Eq.mp (if_pos hc_6) h
    refine st_if (t := 57) (b := false) rfl (decide_eq_false (fun z => z hc_6)) rfl ?_
    refine st_go 2 (pc' := 60) (lo' := [(6, .int s0), (0, .ref 38), (1, .int x1), (2, .int x2), (3, .int x3), (4, .int x4), (5, .int x5)]) (st' := [.int 9, .int x3]) rfl ?_
    by_cases hc_7 : (9 : Int32) < x3
    · have h := Eq.mp (if_pos hc_7) h
      refine st_icmp (t := 63) (b := false) rfl (decide_eq_false (Int32.not_le.mpr hc_7)) rfl ?_
      refine vmWp.sub (lo' := [(0, .ref 38), (1, .int x1), (2, .int x2), (3, .int x3), (4, .int x4), (5, .int x5), (6, .int s0)]) ⟨rfl, rfl, rfl, rfl, rfl, rfl, rfl, trivial⟩ ?_
      exact tMachine_adjust_63 hQ x1 x2 x3 x4 x5 s0 d h
    · have h := Eq.mp (if_neg hc_7) h
      refine st_icmp (t := 68) (b := true) rfl (decide_eq_true (Int32.not_lt.mp hc_7)) rfl ?_
      refine st_go 1 (pc' := 69) (lo' := [(6, .int s0), (0, .ref 38), (1, .int x1), (2, .int x2), (3, .int x3), (4, .int x4), (5, .int x5)]) (st' := [.int 0]) rfl ?_
      refine vmWp.sub (lo' := [(0, .ref 38), (1, .int x1), (2, .int x2), (3, .int x3), (4, .int x4), (5, .int x5), (6, .int s0)]) ⟨rfl, rfl, rfl, rfl, rfl, rfl, rfl, trivial⟩ ?_
      exact tMachine_adjust_69 hQ x1 x2 x3 x4 x5 s0 0 d h
  · have h := Eq.mp (if_neg hc_6) h
    refine st_if (t := 63) (b := true) rfl (decide_eq_true hc_6) rfl ?_
    refine vmWp.sub (lo' := [(0, .ref 38), (1, .int x1), (2, .int x2), (3, .int x3), (4, .int x4), (5, .int x5), (6, .int s0)]) ⟨rfl, rfl, rfl, rfl, rfl, rfl, rfl, trivial⟩ ?_
    exact tMachine_adjust_63 hQ x1 x2 x3 x4 x5 s0 d h
set_option maxRecDepth 100000 in
def Machine_adjust_45 (x1 : Int32) (x2 : Int32) (x3 : Int32) (x4 : Int32) (x5 : Int32) (d : vmD) (Q : vmD → Prop) : Prop :=
  Machine_adjust_50 x1 x2 x3 x4 x5 1 d Q
set_option maxRecDepth 100000 in
set_option maxHeartbeats 4000000 in
theorem tMachine_adjust_45 {L : Nat} {e : vmD} {Qo : Option Value → vmW → Prop} {Q : vmD → Prop} (hQ : ∀ d, Q d → Qo none (wC L d e)) (x1 : Int32) (x2 : Int32) (x3 : Int32) (x4 : Int32) (x5 : Int32) (d : vmD) (h : Machine_adjust_45 x1 x2 x3 x4 x5 d Q) : vmWp 117 45 [(0, .ref 38), (1, .int x1), (2, .int x2), (3, .int x3), (4, .int x4), (5, .int x5)] [] (wC L d e) Qo := by
  unfold Machine_adjust_45 at h
  refine st_go 2 (pc' := 50) (lo' := [(0, .ref 38), (1, .int x1), (2, .int x2), (3, .int x3), (4, .int x4), (5, .int x5)]) (st' := [.int 1]) rfl ?_
  refine vmWp.sub (lo' := [(0, .ref 38), (1, .int x1), (2, .int x2), (3, .int x3), (4, .int x4), (5, .int x5)]) ⟨rfl, rfl, rfl, rfl, rfl, rfl, trivial⟩ ?_
  exact tMachine_adjust_50 hQ x1 x2 x3 x4 x5 1 d h
set_option maxRecDepth 100000 in
def Machine_adjust_30 (x1 : Int32) (x2 : Int32) (x3 : Int32) (x4 : Int32) (s0 : Int32) (d : vmD) (Q : vmD → Prop) : Prop :=
  if (x2 &&& 1) = 0 then
  (if (153 : Int32) < x1 then
  (Machine_adjust_45 x1 x2 x3 x4 s0 d Q)
  else
  (Machine_adjust_50 x1 x2 x3 x4 s0 0 d Q))
  else
  (Machine_adjust_45 x1 x2 x3 x4 s0 d Q)
set_option maxRecDepth 100000 in
set_option maxHeartbeats 4000000 in
theorem tMachine_adjust_30 {L : Nat} {e : vmD} {Qo : Option Value → vmW → Prop} {Q : vmD → Prop} (hQ : ∀ d, Q d → Qo none (wC L d e)) (x1 : Int32) (x2 : Int32) (x3 : Int32) (x4 : Int32) (s0 : Int32) (d : vmD) (h : Machine_adjust_30 x1 x2 x3 x4 s0 d Q) : vmWp 117 30 [(0, .ref 38), (1, .int x1), (2, .int x2), (3, .int x3), (4, .int x4)] [.int s0] (wC L d e) Qo := by
  unfold Machine_adjust_30 at h
  refine st_go 4 (pc' := 35) (lo' := [(5, .int s0), (0, .ref 38), (1, .int x1), (2, .int x2), (3, .int x3), (4, .int x4)]) (st' := [.int (x2 &&& 1)]) rfl ?_
  by_cases hc_4 : (x2 &&& 1) = 0
  · have h := Eq.mp (if_pos hc_4) h
    refine st_if (t := 38) (b := false) rfl (decide_eq_false (fun z => z hc_4)) rfl ?_
    refine st_go 2 (pc' := 42) (lo' := [(5, .int s0), (0, .ref 38), (1, .int x1), (2, .int x2), (3, .int x3), (4, .int x4)]) (st' := [.int 153, .int x1]) rfl ?_
    by_cases hc_5 : (153 : Int32) < x1
    · have h := Eq.mp (if_pos hc_5) h
      refine st_icmp (t := 45) (b := false) rfl (decide_eq_false (Int32.not_le.mpr hc_5)) rfl ?_
      refine vmWp.sub (lo' := [(0, .ref 38), (1, .int x1), (2, .int x2), (3, .int x3), (4, .int x4), (5, .int s0)]) ⟨rfl, rfl, rfl, rfl, rfl, rfl, trivial⟩ ?_
      exact tMachine_adjust_45 hQ x1 x2 x3 x4 s0 d h
    · have h := Eq.mp (if_neg hc_5) h
      refine st_icmp (t := 49) (b := true) rfl (decide_eq_true (Int32.not_lt.mp hc_5)) rfl ?_
      refine st_go 1 (pc' := 50) (lo' := [(5, .int s0), (0, .ref 38), (1, .int x1), (2, .int x2), (3, .int x3), (4, .int x4)]) (st' := [.int 0]) rfl ?_
      refine vmWp.sub (lo' := [(0, .ref 38), (1, .int x1), (2, .int x2), (3, .int x3), (4, .int x4), (5, .int s0)]) ⟨rfl, rfl, rfl, rfl, rfl, rfl, trivial⟩ ?_
      exact tMachine_adjust_50 hQ x1 x2 x3 x4 s0 0 d h
  · have h := Eq.mp (if_neg hc_4) h
    refine st_if (t := 45) (b := true) rfl (decide_eq_true hc_4) rfl ?_
    refine vmWp.sub (lo' := [(0, .ref 38), (1, .int x1), (2, .int x2), (3, .int x3), (4, .int x4), (5, .int s0)]) ⟨rfl, rfl, rfl, rfl, rfl, rfl, trivial⟩ ?_
    exact tMachine_adjust_45 hQ x1 x2 x3 x4 s0 d h
set_option maxRecDepth 100000 in
def Machine_adjust_16 (x1 : Int32) (x2 : Int32) (x3 : Int32) (s0 : Int32) (d : vmD) (Q : vmD → Prop) : Prop :=
  if (x2 &&& 16) = 0 then
  (Machine_adjust_30 x1 x2 x3 s0 0 d Q)
  else
  (Machine_adjust_30 x1 x2 x3 s0 1 d Q)
set_option maxRecDepth 100000 in
set_option maxHeartbeats 4000000 in
theorem tMachine_adjust_16 {L : Nat} {e : vmD} {Qo : Option Value → vmW → Prop} {Q : vmD → Prop} (hQ : ∀ d, Q d → Qo none (wC L d e)) (x1 : Int32) (x2 : Int32) (x3 : Int32) (s0 : Int32) (d : vmD) (h : Machine_adjust_16 x1 x2 x3 s0 d Q) : vmWp 117 16 [(0, .ref 38), (1, .int x1), (2, .int x2), (3, .int x3)] [.int s0] (wC L d e) Qo := by
  unfold Machine_adjust_16 at h
  refine st_go 4 (pc' := 22) (lo' := [(4, .int s0), (0, .ref 38), (1, .int x1), (2, .int x2), (3, .int x3)]) (st' := [.int (x2 &&& 16)]) rfl ?_
  by_cases hc_3 : (x2 &&& 16) = 0
  · have h := Eq.mp (if_pos hc_3) h
    refine st_if (t := 29) (b := true) rfl (decide_eq_true hc_3) rfl ?_
    refine st_go 1 (pc' := 30) (lo' := [(4, .int s0), (0, .ref 38), (1, .int x1), (2, .int x2), (3, .int x3)]) (st' := [.int 0]) rfl ?_
    refine vmWp.sub (lo' := [(0, .ref 38), (1, .int x1), (2, .int x2), (3, .int x3), (4, .int s0)]) ⟨rfl, rfl, rfl, rfl, rfl, trivial⟩ ?_
    exact tMachine_adjust_30 hQ x1 x2 x3 s0 0 d h
  · have h := Eq.mp (if_neg hc_3) h
    refine st_if (t := 25) (b := false) rfl (decide_eq_false hc_3) rfl ?_
    refine st_go 2 (pc' := 30) (lo' := [(4, .int s0), (0, .ref 38), (1, .int x1), (2, .int x2), (3, .int x3)]) (st' := [.int 1]) rfl ?_
    refine vmWp.sub (lo' := [(0, .ref 38), (1, .int x1), (2, .int x2), (3, .int x3), (4, .int s0)]) ⟨rfl, rfl, rfl, rfl, rfl, trivial⟩ ?_
    exact tMachine_adjust_30 hQ x1 x2 x3 s0 1 d h
set_option maxRecDepth 100000 in
def Machine_adjust (x1 : Int32) (x2 : Int32) (d : vmD) (Q : vmD → Prop) : Prop :=
  bnd (x1 &&& 15) fun x3_1 =>
  if (x2 &&& 2) = 0 then
  (Machine_adjust_16 x1 x2 x3_1 0 d Q)
  else
  (Machine_adjust_16 x1 x2 x3_1 1 d Q)
set_option maxRecDepth 100000 in
set_option maxHeartbeats 4000000 in
theorem tMachine_adjust {L : Nat} {e : vmD} {Qo : Option Value → vmW → Prop} {Q : vmD → Prop} (hQ : ∀ d, Q d → Qo none (wC L d e)) (x1 : Int32) (x2 : Int32) (d : vmD) (h : Machine_adjust x1 x2 d Q) : vmWp 117 0 [(0, .ref 38), (1, .int x1), (2, .int x2)] [] (wC L d e) Qo := by
  unfold Machine_adjust at h
  refine st_go 4 (pc' := 5) (lo' := [(3, .int (x1 &&& 15)), (0, .ref 38), (1, .int x1), (2, .int x2)]) (st' := []) rfl ?_
  refine st_locI (fun x3_1 hy_x3_1 => ?_)
  have h := h x3_1 hy_x3_1
  refine st_go 3 (pc' := 8) (lo' := [(3, .int x3_1), (0, .ref 38), (1, .int x1), (2, .int x2)]) (st' := [.int (x2 &&& 2)]) rfl ?_
  by_cases hc_2 : (x2 &&& 2) = 0
  · have h := Eq.mp (if_pos hc_2) h
    refine st_if (t := 15) (b := true) rfl (decide_eq_true hc_2) rfl ?_
    refine st_go 1 (pc' := 16) (lo' := [(3, .int x3_1), (0, .ref 38), (1, .int x1), (2, .int x2)]) (st' := [.int 0]) rfl ?_
    refine vmWp.sub (lo' := [(0, .ref 38), (1, .int x1), (2, .int x2), (3, .int x3_1)]) ⟨rfl, rfl, rfl, rfl, trivial⟩ ?_
    exact tMachine_adjust_16 hQ x1 x2 x3_1 0 d h
  · have h := Eq.mp (if_neg hc_2) h
    refine st_if (t := 11) (b := false) rfl (decide_eq_false hc_2) rfl ?_
    refine st_go 2 (pc' := 16) (lo' := [(3, .int x3_1), (0, .ref 38), (1, .int x1), (2, .int x2)]) (st' := [.int 1]) rfl ?_
    refine vmWp.sub (lo' := [(0, .ref 38), (1, .int x1), (2, .int x2), (3, .int x3_1)]) ⟨rfl, rfl, rfl, rfl, trivial⟩ ?_
    exact tMachine_adjust_16 hQ x1 x2 x3_1 1 d h
set_option maxRecDepth 100000 in
def Machine_turnHalves_63 (x3 : Int32) (x5 : Int32) (s0 : Int32) (s1 : Int32) (d : vmD) (Q : vmD → Prop) : Prop :=
  Machine_save s1 s0 d fun d_6 =>
  Machine_save 8 x5 d_6 fun d_7 =>
  Machine_signsOf x5 d_7 fun r_9 d_8 =>
  Machine_parityOf x5 d_8 fun r_11 d_10 =>
  Machine_setFlags (((x3 &&& 1) ||| r_9) ||| r_11) d_10 fun d_12 =>
  Q d_12
set_option maxRecDepth 100000 in
set_option maxHeartbeats 4000000 in
theorem tMachine_turnHalves_63 {L : Nat} {e : vmD} {Qo : Option Value → vmW → Prop} {Q : vmD → Prop} (hQ : ∀ d, Q d → Qo none (wC L d e)) (x3 : Int32) (x5 : Int32) (s0 : Int32) (s1 : Int32) (d : vmD) (h : Machine_turnHalves_63 x3 x5 s0 s1 d Q) : vmWp 118 63 [(0, .ref 38), (3, .int x3), (5, .int x5)] [.int s0, .int s1, .ref 38] (wC L d e) Qo := by
  unfold Machine_turnHalves_63 at h
  refine st_callv (k' := 93) (as := [.ref 38, .int s1, .int s0]) (rest := []) (lo' := [(0, .ref 38), (1, .int s1), (2, .int s0)]) (wf := fun d => wC L d e) rfl rfl rfl ?_
  refine tMachine_save (fun d_6 h => ⟨d_6, rfl, rfl, ?_⟩) s1 s0 d h
  refine st_go 3 (pc' := 71) (lo' := [(0, .ref 38), (3, .int x3), (5, .int x5)]) (st' := [.int x5, .int 8, .ref 38]) rfl ?_
  refine st_callv (k' := 93) (as := [.ref 38, .int 8, .int x5]) (rest := []) (lo' := [(0, .ref 38), (1, .int 8), (2, .int x5)]) (wf := fun d => wC L d e) rfl rfl rfl ?_
  refine tMachine_save (fun d_7 h => ⟨d_7, rfl, rfl, ?_⟩) 8 x5 d_6 h
  refine st_go 5 (pc' := 80) (lo' := [(0, .ref 38), (3, .int x3), (5, .int x5)]) (st' := [.int x5, .int (x3 &&& 1), .ref 38]) rfl ?_
  refine st_calli (k' := 90) (as := [.int x5]) (rest := [.int (x3 &&& 1), .ref 38]) (lo' := [(0, .int x5)]) (wf := fun d => wC L d e) rfl rfl rfl ?_
  refine tMachine_signsOf (fun r_9 d_8 h => ⟨r_9, d_8, rfl, rfl, ?_⟩) x5 d_7 h
  refine st_go 2 (pc' := 86) (lo' := [(0, .ref 38), (3, .int x3), (5, .int x5)]) (st' := [.int x5, .int ((x3 &&& 1) ||| r_9), .ref 38]) rfl ?_
  refine st_calli (k' := 91) (as := [.int x5]) (rest := [.int ((x3 &&& 1) ||| r_9), .ref 38]) (lo' := [(0, .int x5)]) (wf := fun d => wC L d e) rfl rfl rfl ?_
  refine tMachine_parityOf (fun r_11 d_10 h => ⟨r_11, d_10, rfl, rfl, ?_⟩) x5 d_8 h
  refine st_go 1 (pc' := 90) (lo' := [(0, .ref 38), (3, .int x3), (5, .int x5)]) (st' := [.int (((x3 &&& 1) ||| r_9) ||| r_11), .ref 38]) rfl ?_
  refine st_callv (k' := 89) (as := [.ref 38, .int (((x3 &&& 1) ||| r_9) ||| r_11)]) (rest := []) (lo' := [(0, .ref 38), (1, .int (((x3 &&& 1) ||| r_9) ||| r_11))]) (wf := fun d => wC L d e) rfl rfl rfl ?_
  refine tMachine_setFlags (fun d_12 h => ⟨d_12, rfl, rfl, ?_⟩) (((x3 &&& 1) ||| r_9) ||| r_11) d_10 h
  exact st_retV rfl rfl (hQ _ h)
set_option maxRecDepth 100000 in
def Machine_turnHalves_29 (x1 : Int32) (x2 : Int32) (x3 : Int32) (x4 : Int32) (s0 : Int32) (s1 : Int32) (d : vmD) (Q : vmD → Prop) : Prop :=
  bnd (s1 ||| s0) fun x5_4 =>
  if x1 = 0 then
  (Machine_turnHalves_63 x3 x5_4 (((x2 <<< ((4 : Int32) &&& 31)) &&& 240) ||| (x4 >>> ((4 : Int32) &&& 31))) 7 d Q)
  else
  (Machine_turnHalves_63 x3 x5_4 ((x4 <<< ((4 : Int32) &&& 31)) ||| (x2 &&& 15)) 7 d Q)
set_option maxRecDepth 100000 in
set_option maxHeartbeats 4000000 in
theorem tMachine_turnHalves_29 {L : Nat} {e : vmD} {Qo : Option Value → vmW → Prop} {Q : vmD → Prop} (hQ : ∀ d, Q d → Qo none (wC L d e)) (x1 : Int32) (x2 : Int32) (x3 : Int32) (x4 : Int32) (s0 : Int32) (s1 : Int32) (d : vmD) (h : Machine_turnHalves_29 x1 x2 x3 x4 s0 s1 d Q) : vmWp 118 29 [(0, .ref 38), (1, .int x1), (2, .int x2), (3, .int x3), (4, .int x4)] [.int s0, .int s1] (wC L d e) Qo := by
  unfold Machine_turnHalves_29 at h
  refine st_go 2 (pc' := 32) (lo' := [(5, .int (s1 ||| s0)), (0, .ref 38), (1, .int x1), (2, .int x2), (3, .int x3), (4, .int x4)]) (st' := []) rfl ?_
  refine st_locI (fun x5_4 hy_x5_4 => ?_)
  have h := h x5_4 hy_x5_4
  refine st_go 3 (pc' := 36) (lo' := [(5, .int x5_4), (0, .ref 38), (1, .int x1), (2, .int x2), (3, .int x3), (4, .int x4)]) (st' := [.int x1, .int 7, .ref 38]) rfl ?_
  by_cases hc_5 : x1 = 0
  · have h := Eq.mp (if_pos hc_5) h
    refine st_if (t := 51) (b := true) rfl (decide_eq_true hc_5) rfl ?_
    refine st_go 9 (pc' := 63) (lo' := [(5, .int x5_4), (0, .ref 38), (1, .int x1), (2, .int x2), (3, .int x3), (4, .int x4)]) (st' := [.int (((x2 <<< ((4 : Int32) &&& 31)) &&& 240) ||| (x4 >>> ((4 : Int32) &&& 31))), .int 7, .ref 38]) rfl ?_
    refine vmWp.sub (lo' := [(0, .ref 38), (3, .int x3), (5, .int x5_4)]) ⟨rfl, rfl, rfl, trivial⟩ ?_
    exact tMachine_turnHalves_63 hQ x3 x5_4 (((x2 <<< ((4 : Int32) &&& 31)) &&& 240) ||| (x4 >>> ((4 : Int32) &&& 31))) 7 d h
  · have h := Eq.mp (if_neg hc_5) h
    refine st_if (t := 39) (b := false) rfl (decide_eq_false hc_5) rfl ?_
    refine st_go 8 (pc' := 63) (lo' := [(5, .int x5_4), (0, .ref 38), (1, .int x1), (2, .int x2), (3, .int x3), (4, .int x4)]) (st' := [.int ((x4 <<< ((4 : Int32) &&& 31)) ||| (x2 &&& 15)), .int 7, .ref 38]) rfl ?_
    refine vmWp.sub (lo' := [(0, .ref 38), (3, .int x3), (5, .int x5_4)]) ⟨rfl, rfl, rfl, trivial⟩ ?_
    exact tMachine_turnHalves_63 hQ x3 x5_4 ((x4 <<< ((4 : Int32) &&& 31)) ||| (x2 &&& 15)) 7 d h
set_option maxRecDepth 100000 in
def Machine_turnHalves (x1 : Int32) (x2 : Int32) (x3 : Int32) (d : vmD) (Q : vmD → Prop) : Prop :=
  Machine_load 7 d fun r_2 d_1 =>
  if x1 = 0 then
  (Machine_turnHalves_29 x1 x2 x3 r_2 (r_2 &&& 15) (x2 &&& 240) d_1 Q)
  else
  (Machine_turnHalves_29 x1 x2 x3 r_2 (r_2 >>> ((4 : Int32) &&& 31)) (x2 &&& 240) d_1 Q)
set_option maxRecDepth 100000 in
set_option maxHeartbeats 4000000 in
theorem tMachine_turnHalves {L : Nat} {e : vmD} {Qo : Option Value → vmW → Prop} {Q : vmD → Prop} (hQ : ∀ d, Q d → Qo none (wC L d e)) (x1 : Int32) (x2 : Int32) (x3 : Int32) (d : vmD) (h : Machine_turnHalves x1 x2 x3 d Q) : vmWp 118 0 [(0, .ref 38), (1, .int x1), (2, .int x2), (3, .int x3)] [] (wC L d e) Qo := by
  unfold Machine_turnHalves at h
  refine st_go 2 (pc' := 3) (lo' := [(0, .ref 38), (1, .int x1), (2, .int x2), (3, .int x3)]) (st' := [.int 7, .ref 38]) rfl ?_
  refine st_calli (k' := 92) (as := [.ref 38, .int 7]) (rest := []) (lo' := [(0, .ref 38), (1, .int 7)]) (wf := fun d => wC L d e) rfl rfl rfl ?_
  refine tMachine_load (fun r_2 d_1 h => ⟨r_2, d_1, rfl, rfl, ?_⟩) 7 d h
  refine st_go 5 (pc' := 14) (lo' := [(4, .int r_2), (0, .ref 38), (1, .int x1), (2, .int x2), (3, .int x3)]) (st' := [.int x1, .int (x2 &&& 240)]) rfl ?_
  by_cases hc_3 : x1 = 0
  · have h := Eq.mp (if_pos hc_3) h
    refine st_if (t := 24) (b := true) rfl (decide_eq_true hc_3) rfl ?_
    refine st_go 3 (pc' := 29) (lo' := [(4, .int r_2), (0, .ref 38), (1, .int x1), (2, .int x2), (3, .int x3)]) (st' := [.int (r_2 &&& 15), .int (x2 &&& 240)]) rfl ?_
    refine vmWp.sub (lo' := [(0, .ref 38), (1, .int x1), (2, .int x2), (3, .int x3), (4, .int r_2)]) ⟨rfl, rfl, rfl, rfl, rfl, trivial⟩ ?_
    exact tMachine_turnHalves_29 hQ x1 x2 x3 r_2 (r_2 &&& 15) (x2 &&& 240) d_1 h
  · have h := Eq.mp (if_neg hc_3) h
    refine st_if (t := 17) (b := false) rfl (decide_eq_false hc_3) rfl ?_
    refine st_go 4 (pc' := 29) (lo' := [(4, .int r_2), (0, .ref 38), (1, .int x1), (2, .int x2), (3, .int x3)]) (st' := [.int (r_2 >>> ((4 : Int32) &&& 31)), .int (x2 &&& 240)]) rfl ?_
    refine vmWp.sub (lo' := [(0, .ref 38), (1, .int x1), (2, .int x2), (3, .int x3), (4, .int r_2)]) ⟨rfl, rfl, rfl, rfl, rfl, trivial⟩ ?_
    exact tMachine_turnHalves_29 hQ x1 x2 x3 r_2 (r_2 >>> ((4 : Int32) &&& 31)) (x2 &&& 240) d_1 h
set_option maxRecDepth 100000 in
def Machine_executeRest_272 (s0 : Int32) (s1 : Int32) (d : vmD) (Q : vmD → Prop) : Prop :=
  Machine_setFlags (s1 ||| s0) d fun d_14 =>
  Q d_14
set_option maxRecDepth 100000 in
set_option maxHeartbeats 4000000 in
theorem tMachine_executeRest_272 {L : Nat} {e : vmD} {Qo : Option Value → vmW → Prop} {Q : vmD → Prop} (hQ : ∀ d, Q d → Qo none (wC L d e)) (s0 : Int32) (s1 : Int32) (d : vmD) (h : Machine_executeRest_272 s0 s1 d Q) : vmWp 87 272 [] [.int s0, .int s1, .ref 38] (wC L d e) Qo := by
  unfold Machine_executeRest_272 at h
  refine st_go 1 (pc' := 273) (lo' := []) (st' := [.int (s1 ||| s0), .ref 38]) rfl ?_
  refine st_callv (k' := 89) (as := [.ref 38, .int (s1 ||| s0)]) (rest := []) (lo' := [(0, .ref 38), (1, .int (s1 ||| s0))]) (wf := fun d => wC L d e) rfl rfl rfl ?_
  refine tMachine_setFlags (fun d_14 h => ⟨d_14, rfl, rfl, ?_⟩) (s1 ||| s0) d h
  refine st_go 1 (pc' := 360) (lo' := []) (st' := []) rfl ?_
  exact st_retV rfl rfl (hQ _ h)
set_option maxRecDepth 100000 in
def Machine_executeRest_352 (x2 : Int32) (x3 : Int32) (s0 : Int32) (d : vmD) (Q : vmD → Prop) : Prop :=
  Machine_turnHalves s0 x2 x3 d fun d_37 =>
  Q d_37
set_option maxRecDepth 100000 in
set_option maxHeartbeats 4000000 in
theorem tMachine_executeRest_352 {L : Nat} {e : vmD} {Qo : Option Value → vmW → Prop} {Q : vmD → Prop} (hQ : ∀ d, Q d → Qo none (wC L d e)) (x2 : Int32) (x3 : Int32) (s0 : Int32) (d : vmD) (h : Machine_executeRest_352 x2 x3 s0 d Q) : vmWp 87 352 [(2, .int x2), (3, .int x3)] [.int s0, .ref 38] (wC L d e) Qo := by
  unfold Machine_executeRest_352 at h
  refine st_go 2 (pc' := 354) (lo' := [(2, .int x2), (3, .int x3)]) (st' := [.int x3, .int x2, .int s0, .ref 38]) rfl ?_
  refine st_callv (k' := 118) (as := [.ref 38, .int s0, .int x2, .int x3]) (rest := []) (lo' := [(0, .ref 38), (1, .int s0), (2, .int x2), (3, .int x3)]) (wf := fun d => wC L d e) rfl rfl rfl ?_
  refine tMachine_turnHalves (fun d_37 h => ⟨d_37, rfl, rfl, ?_⟩) s0 x2 x3 d h
  refine st_go 1 (pc' := 360) (lo' := [(2, .int x2), (3, .int x3)]) (st' := []) rfl ?_
  exact st_retV rfl rfl (hQ _ h)
set_option maxRecDepth 100000 in
def Machine_executeRest (x1 : Int32) (d : vmD) (Q : vmD → Prop) : Prop :=
  Machine_load 8 d fun r_2 d_1 =>
  Machine_flags d_1 fun r_4 d_3 =>
  if x1 = 43 then
  (Machine_adjust r_2 r_4 d_3 fun d_6 =>
  Q d_6)
  else
  if x1 = 44 then
  (Machine_save 8 (r_2 ^^^ (-1)) d_3 fun d_8 =>
  Machine_setFlags ((((r_4 &&& 197) ||| 16) ||| 2) ||| ((r_2 ^^^ (-1)) &&& 40)) d_8 fun d_9 =>
  Q d_9)
  else
  if x1 = 45 then
  (Machine_setFlags (((r_4 &&& 196) ||| (r_2 &&& 40)) ||| 1) d_3 fun d_11 =>
  Q d_11)
  else
  if x1 = 46 then
  (if (r_4 &&& 1) = 0 then
  (Machine_executeRest_272 1 ((r_4 &&& 196) ||| (r_2 &&& 40)) d_3 Q)
  else
  (Machine_executeRest_272 16 ((r_4 &&& 196) ||| (r_2 &&& 40)) d_3 Q))
  else
  if x1 = 77 then
  (Machine_difference 0 r_2 0 d_3 fun r_17 d_16 =>
  Machine_save 8 r_17 d_16 fun d_18 =>
  Q d_18)
  else
  if x1 = 78 then
  (Machine_pop d_3 fun r_21 d_20 =>
  bnd (sA d_20 39 11 r_21) fun d_22 =>
  bnd (gA d_22 39 15) fun y_23 =>
  bnd (sA d_22 39 14 y_23) fun d_24 =>
  Q d_24)
  else
  if x1 = 79 then
  (Machine_pop d_3 fun r_27 d_26 =>
  bnd (sA d_26 39 11 r_27) fun d_28 =>
  bnd (gA d_28 39 15) fun y_29 =>
  bnd (sA d_28 39 14 y_29) fun d_30 =>
  Q d_30)
  else
  if x1 = 80 then
  (Instruction_number d_3 fun r_33 d_32 =>
  bnd (sA d_32 39 16 r_33) fun d_34 =>
  Q d_34)
  else
  if x1 = 81 then
  (if x1 = 82 then
  (Machine_executeRest_352 r_2 r_4 1 d_3 Q)
  else
  (Machine_executeRest_352 r_2 r_4 0 d_3 Q))
  else
  if x1 = 82 then
  (if x1 = 82 then
  (Machine_executeRest_352 r_2 r_4 1 d_3 Q)
  else
  (Machine_executeRest_352 r_2 r_4 0 d_3 Q))
  else
  (Q d_3)
set_option maxRecDepth 100000 in
set_option maxHeartbeats 4000000 in
theorem tMachine_executeRest {L : Nat} {e : vmD} {Qo : Option Value → vmW → Prop} {Q : vmD → Prop} (hQ : ∀ d, Q d → Qo none (wC L d e)) (x1 : Int32) (d : vmD) (h : Machine_executeRest x1 d Q) : vmWp 87 0 [(0, .ref 38), (1, .int x1)] [] (wC L d e) Qo := by
  unfold Machine_executeRest at h
  refine st_go 2 (pc' := 3) (lo' := [(0, .ref 38), (1, .int x1)]) (st' := [.int 8, .ref 38]) rfl ?_
  refine st_calli (k' := 92) (as := [.ref 38, .int 8]) (rest := []) (lo' := [(0, .ref 38), (1, .int 8)]) (wf := fun d => wC L d e) rfl rfl rfl ?_
  refine tMachine_load (fun r_2 d_1 h => ⟨r_2, d_1, rfl, rfl, ?_⟩) 8 d h
  refine st_go 2 (pc' := 8) (lo' := [(2, .int r_2), (0, .ref 38), (1, .int x1)]) (st' := [.ref 38]) rfl ?_
  refine st_calli (k' := 88) (as := [.ref 38]) (rest := []) (lo' := [(0, .ref 38)]) (wf := fun d => wC L d e) rfl rfl rfl ?_
  refine tMachine_flags (fun r_4 d_3 h => ⟨r_4, d_3, rfl, rfl, ?_⟩) d_1 h
  refine st_go 2 (pc' := 13) (lo' := [(3, .int r_4), (2, .int r_2), (0, .ref 38), (1, .int x1)]) (st' := [.int x1]) rfl ?_
  by_cases hc_5 : x1 = 43
  · have h := Eq.mp (if_pos hc_5) h
    refine st_tab (t := 188) rfl (by rw [hc_5]; rfl) ?_
    refine st_go 3 (pc' := 191) (lo' := [(3, .int r_4), (2, .int r_2), (0, .ref 38), (1, .int x1)]) (st' := [.int r_4, .int r_2, .ref 38]) rfl ?_
    refine st_callv (k' := 117) (as := [.ref 38, .int r_2, .int r_4]) (rest := []) (lo' := [(0, .ref 38), (1, .int r_2), (2, .int r_4)]) (wf := fun d => wC L d e) rfl rfl rfl ?_
    refine tMachine_adjust (fun d_6 h => ⟨d_6, rfl, rfl, ?_⟩) r_2 r_4 d_3 h
    refine st_go 1 (pc' := 360) (lo' := [(3, .int r_4), (2, .int r_2), (0, .ref 38), (1, .int x1)]) (st' := []) rfl ?_
    exact st_retV rfl rfl (hQ _ h)
  · have h := Eq.mp (if_neg hc_5) h
    by_cases hc_7 : x1 = 44
    · have h := Eq.mp (if_pos hc_7) h
      refine st_tab (t := 197) rfl (by rw [hc_7]; rfl) ?_
      refine st_go 5 (pc' := 203) (lo' := [(3, .int r_4), (2, .int r_2), (0, .ref 38), (1, .int x1)]) (st' := [.int (r_2 ^^^ (-1)), .int 8, .ref 38]) rfl ?_
      refine st_callv (k' := 93) (as := [.ref 38, .int 8, .int (r_2 ^^^ (-1))]) (rest := []) (lo' := [(0, .ref 38), (1, .int 8), (2, .int (r_2 ^^^ (-1)))]) (wf := fun d => wC L d e) rfl rfl rfl ?_
      refine tMachine_save (fun d_8 h => ⟨d_8, rfl, rfl, ?_⟩) 8 (r_2 ^^^ (-1)) d_3 h
      refine st_go 14 (pc' := 224) (lo' := [(3, .int r_4), (2, .int r_2), (0, .ref 38), (1, .int x1)]) (st' := [.int ((((r_4 &&& 197) ||| 16) ||| 2) ||| ((r_2 ^^^ (-1)) &&& 40)), .ref 38]) rfl ?_
      refine st_callv (k' := 89) (as := [.ref 38, .int ((((r_4 &&& 197) ||| 16) ||| 2) ||| ((r_2 ^^^ (-1)) &&& 40))]) (rest := []) (lo' := [(0, .ref 38), (1, .int ((((r_4 &&& 197) ||| 16) ||| 2) ||| ((r_2 ^^^ (-1)) &&& 40)))]) (wf := fun d => wC L d e) rfl rfl rfl ?_
      refine tMachine_setFlags (fun d_9 h => ⟨d_9, rfl, rfl, ?_⟩) ((((r_4 &&& 197) ||| 16) ||| 2) ||| ((r_2 ^^^ (-1)) &&& 40)) d_8 h
      refine st_go 1 (pc' := 360) (lo' := [(3, .int r_4), (2, .int r_2), (0, .ref 38), (1, .int x1)]) (st' := []) rfl ?_
      exact st_retV rfl rfl (hQ _ h)
    · have h := Eq.mp (if_neg hc_7) h
      by_cases hc_10 : x1 = 45
      · have h := Eq.mp (if_pos hc_10) h
        refine st_tab (t := 230) rfl (by rw [hc_10]; rfl) ?_
        refine st_go 10 (pc' := 243) (lo' := [(3, .int r_4), (2, .int r_2), (0, .ref 38), (1, .int x1)]) (st' := [.int (((r_4 &&& 196) ||| (r_2 &&& 40)) ||| 1), .ref 38]) rfl ?_
        refine st_callv (k' := 89) (as := [.ref 38, .int (((r_4 &&& 196) ||| (r_2 &&& 40)) ||| 1)]) (rest := []) (lo' := [(0, .ref 38), (1, .int (((r_4 &&& 196) ||| (r_2 &&& 40)) ||| 1))]) (wf := fun d => wC L d e) rfl rfl rfl ?_
        refine tMachine_setFlags (fun d_11 h => ⟨d_11, rfl, rfl, ?_⟩) (((r_4 &&& 196) ||| (r_2 &&& 40)) ||| 1) d_3 h
        refine st_go 1 (pc' := 360) (lo' := [(3, .int r_4), (2, .int r_2), (0, .ref 38), (1, .int x1)]) (st' := []) rfl ?_
        exact st_retV rfl rfl (hQ _ h)
      · have h := Eq.mp (if_neg hc_10) h
        by_cases hc_12 : x1 = 46
        · have h := Eq.mp (if_pos hc_12) h
          refine st_tab (t := 249) rfl (by rw [hc_12]; rfl) ?_
          refine st_go 11 (pc' := 263) (lo' := [(3, .int r_4), (2, .int r_2), (0, .ref 38), (1, .int x1)]) (st' := [.int (r_4 &&& 1), .int ((r_4 &&& 196) ||| (r_2 &&& 40)), .ref 38]) rfl ?_
          by_cases hc_13 : (r_4 &&& 1) = 0
          · have h := Eq.mp (if_pos hc_13) h
            refine st_if (t := 271) (b := true) rfl (decide_eq_true hc_13) rfl ?_
            refine st_go 1 (pc' := 272) (lo' := [(3, .int r_4), (2, .int r_2), (0, .ref 38), (1, .int x1)]) (st' := [.int 1, .int ((r_4 &&& 196) ||| (r_2 &&& 40)), .ref 38]) rfl ?_
            refine vmWp.sub (lo' := []) trivial ?_
            exact tMachine_executeRest_272 hQ 1 ((r_4 &&& 196) ||| (r_2 &&& 40)) d_3 h
          · have h := Eq.mp (if_neg hc_13) h
            refine st_if (t := 266) (b := false) rfl (decide_eq_false hc_13) rfl ?_
            refine st_go 2 (pc' := 272) (lo' := [(3, .int r_4), (2, .int r_2), (0, .ref 38), (1, .int x1)]) (st' := [.int 16, .int ((r_4 &&& 196) ||| (r_2 &&& 40)), .ref 38]) rfl ?_
            refine vmWp.sub (lo' := []) trivial ?_
            exact tMachine_executeRest_272 hQ 16 ((r_4 &&& 196) ||| (r_2 &&& 40)) d_3 h
        · have h := Eq.mp (if_neg hc_12) h
          by_cases hc_15 : x1 = 77
          · have h := Eq.mp (if_pos hc_15) h
            refine st_tab (t := 279) rfl (by rw [hc_15]; rfl) ?_
            refine st_go 6 (pc' := 286) (lo' := [(3, .int r_4), (2, .int r_2), (0, .ref 38), (1, .int x1)]) (st' := [.int 0, .int r_2, .int 0, .ref 38, .int 8, .ref 38]) rfl ?_
            refine st_calli (k' := 108) (as := [.ref 38, .int 0, .int r_2, .int 0]) (rest := [.int 8, .ref 38]) (lo' := [(0, .ref 38), (1, .int 0), (2, .int r_2), (3, .int 0)]) (wf := fun d => wC L d e) rfl rfl rfl ?_
            refine tMachine_difference (fun r_17 d_16 h => ⟨r_17, d_16, rfl, rfl, ?_⟩) 0 r_2 0 d_3 h
            refine st_callv (k' := 93) (as := [.ref 38, .int 8, .int r_17]) (rest := []) (lo' := [(0, .ref 38), (1, .int 8), (2, .int r_17)]) (wf := fun d => wC L d e) rfl rfl rfl ?_
            refine tMachine_save (fun d_18 h => ⟨d_18, rfl, rfl, ?_⟩) 8 r_17 d_16 h
            refine st_go 1 (pc' := 360) (lo' := [(3, .int r_4), (2, .int r_2), (0, .ref 38), (1, .int x1)]) (st' := []) rfl ?_
            exact st_retV rfl rfl (hQ _ h)
          · have h := Eq.mp (if_neg hc_15) h
            by_cases hc_19 : x1 = 78
            · have h := Eq.mp (if_pos hc_19) h
              refine st_tab (t := 295) rfl (by rw [hc_19]; rfl) ?_
              refine st_go 4 (pc' := 302) (lo' := [(3, .int r_4), (2, .int r_2), (0, .ref 38), (1, .int x1)]) (st' := [.ref 38, .int 11, .ref 39]) rfl ?_
              refine st_calli (k' := 99) (as := [.ref 38]) (rest := [.int 11, .ref 39]) (lo' := [(0, .ref 38)]) (wf := fun d => wC L d e) rfl rfl rfl ?_
              refine tMachine_pop (fun r_21 d_20 h => ⟨r_21, d_20, rfl, rfl, ?_⟩) d_3 h
              refine st_iastC (o := 39) rfl rfl (show ixOk 11 17 by decide) rfl (fun d_22 hy_d_22 => ?_)
              have h := h d_22 hy_d_22
              refine st_go 6 (pc' := 318) (lo' := [(3, .int r_4), (2, .int r_2), (0, .ref 38), (1, .int x1)]) (st' := [.int 15, .ref 39, .int 14, .ref 39]) rfl ?_
              refine st_ialdC (o := 39) rfl rfl (show ixOk 15 17 by decide) rfl (fun y_23 hy_y_23 => ?_)
              have h := h y_23 hy_y_23
              refine st_iastC (o := 39) rfl rfl (show ixOk 14 17 by decide) rfl (fun d_24 hy_d_24 => ?_)
              have h := h d_24 hy_d_24
              refine st_go 1 (pc' := 360) (lo' := [(3, .int r_4), (2, .int r_2), (0, .ref 38), (1, .int x1)]) (st' := []) rfl ?_
              exact st_retV rfl rfl (hQ _ h)
            · have h := Eq.mp (if_neg hc_19) h
              by_cases hc_25 : x1 = 79
              · have h := Eq.mp (if_pos hc_25) h
                refine st_tab (t := 295) rfl (by rw [hc_25]; rfl) ?_
                refine st_go 4 (pc' := 302) (lo' := [(3, .int r_4), (2, .int r_2), (0, .ref 38), (1, .int x1)]) (st' := [.ref 38, .int 11, .ref 39]) rfl ?_
                refine st_calli (k' := 99) (as := [.ref 38]) (rest := [.int 11, .ref 39]) (lo' := [(0, .ref 38)]) (wf := fun d => wC L d e) rfl rfl rfl ?_
                refine tMachine_pop (fun r_27 d_26 h => ⟨r_27, d_26, rfl, rfl, ?_⟩) d_3 h
                refine st_iastC (o := 39) rfl rfl (show ixOk 11 17 by decide) rfl (fun d_28 hy_d_28 => ?_)
                have h := h d_28 hy_d_28
                refine st_go 6 (pc' := 318) (lo' := [(3, .int r_4), (2, .int r_2), (0, .ref 38), (1, .int x1)]) (st' := [.int 15, .ref 39, .int 14, .ref 39]) rfl ?_
                refine st_ialdC (o := 39) rfl rfl (show ixOk 15 17 by decide) rfl (fun y_29 hy_y_29 => ?_)
                have h := h y_29 hy_y_29
                refine st_iastC (o := 39) rfl rfl (show ixOk 14 17 by decide) rfl (fun d_30 hy_d_30 => ?_)
                have h := h d_30 hy_d_30
                refine st_go 1 (pc' := 360) (lo' := [(3, .int r_4), (2, .int r_2), (0, .ref 38), (1, .int x1)]) (st' := []) rfl ?_
                exact st_retV rfl rfl (hQ _ h)
              · have h := Eq.mp (if_neg hc_25) h
                by_cases hc_31 : x1 = 80
                · have h := Eq.mp (if_pos hc_31) h
                  refine st_tab (t := 323) rfl (by rw [hc_31]; rfl) ?_
                  refine st_go 5 (pc' := 333) (lo' := [(3, .int r_4), (2, .int r_2), (0, .ref 38), (1, .int x1)]) (st' := [.ref 19, .int 16, .ref 39]) rfl ?_
                  refine st_calli (k' := 68) (as := [.ref 19]) (rest := [.int 16, .ref 39]) (lo' := [(0, .ref 19)]) (wf := fun d => wC L d e) rfl rfl rfl ?_
                  refine tInstruction_number (fun r_33 d_32 h => ⟨r_33, d_32, rfl, rfl, ?_⟩) d_3 h
                  refine st_iastC (o := 39) rfl rfl (show ixOk 16 17 by decide) rfl (fun d_34 hy_d_34 => ?_)
                  have h := h d_34 hy_d_34
                  refine st_go 1 (pc' := 360) (lo' := [(3, .int r_4), (2, .int r_2), (0, .ref 38), (1, .int x1)]) (st' := []) rfl ?_
                  exact st_retV rfl rfl (hQ _ h)
                · have h := Eq.mp (if_neg hc_31) h
                  by_cases hc_35 : x1 = 81
                  · have h := Eq.mp (if_pos hc_35) h
                    refine st_tab (t := 340) rfl (by rw [hc_35]; rfl) ?_
                    refine st_go 3 (pc' := 344) (lo' := [(3, .int r_4), (2, .int r_2), (0, .ref 38), (1, .int x1)]) (st' := [.int 82, .int x1, .ref 38]) rfl ?_
                    by_cases hc_36 : x1 = 82
                    · have h := Eq.mp (if_pos hc_36) h
                      refine st_icmp (t := 347) (b := false) rfl (decide_eq_false (fun z => z hc_36)) rfl ?_
                      refine st_go 2 (pc' := 352) (lo' := [(3, .int r_4), (2, .int r_2), (0, .ref 38), (1, .int x1)]) (st' := [.int 1, .ref 38]) rfl ?_
                      refine vmWp.sub (lo' := [(2, .int r_2), (3, .int r_4)]) ⟨rfl, rfl, trivial⟩ ?_
                      exact tMachine_executeRest_352 hQ r_2 r_4 1 d_3 h
                    · have h := Eq.mp (if_neg hc_36) h
                      refine st_icmp (t := 351) (b := true) rfl (decide_eq_true hc_36) rfl ?_
                      refine st_go 1 (pc' := 352) (lo' := [(3, .int r_4), (2, .int r_2), (0, .ref 38), (1, .int x1)]) (st' := [.int 0, .ref 38]) rfl ?_
                      refine vmWp.sub (lo' := [(2, .int r_2), (3, .int r_4)]) ⟨rfl, rfl, trivial⟩ ?_
                      exact tMachine_executeRest_352 hQ r_2 r_4 0 d_3 h
                  · have h := Eq.mp (if_neg hc_35) h
                    by_cases hc_38 : x1 = 82
                    · have h := Eq.mp (if_pos hc_38) h
                      refine st_tab (t := 340) rfl (by rw [hc_38]; rfl) ?_
                      refine st_go 3 (pc' := 344) (lo' := [(3, .int r_4), (2, .int r_2), (0, .ref 38), (1, .int x1)]) (st' := [.int 82, .int x1, .ref 38]) rfl ?_
                      by_cases hc_39 : x1 = 82
                      · have h := Eq.mp (if_pos hc_39) h
                        refine st_icmp (t := 347) (b := false) rfl (decide_eq_false (fun z => z hc_39)) rfl ?_
                        refine st_go 2 (pc' := 352) (lo' := [(3, .int r_4), (2, .int r_2), (0, .ref 38), (1, .int x1)]) (st' := [.int 1, .ref 38]) rfl ?_
                        refine vmWp.sub (lo' := [(2, .int r_2), (3, .int r_4)]) ⟨rfl, rfl, trivial⟩ ?_
                        exact tMachine_executeRest_352 hQ r_2 r_4 1 d_3 h
                      · have h := Eq.mp (if_neg hc_39) h
                        refine st_icmp (t := 351) (b := true) rfl (decide_eq_true hc_39) rfl ?_
                        refine st_go 1 (pc' := 352) (lo' := [(3, .int r_4), (2, .int r_2), (0, .ref 38), (1, .int x1)]) (st' := [.int 0, .ref 38]) rfl ?_
                        refine vmWp.sub (lo' := [(2, .int r_2), (3, .int r_4)]) ⟨rfl, rfl, trivial⟩ ?_
                        exact tMachine_executeRest_352 hQ r_2 r_4 0 d_3 h
                    · have h := Eq.mp (if_neg hc_38) h
                      refine st_tab (t := 360) rfl (tab_def rfl (by decide) rfl (by
                        intro j hj hx
                        have hj : j < 40 := hj
                        rcases (j = 0 ∨ j = 1 ∨ j = 2 ∨ j = 3 ∨ j = 4 ∨ j = 5 ∨ j = 6 ∨ j = 7 ∨ j = 8 ∨ j = 9 ∨ j = 10 ∨ j = 11 ∨ j = 12 ∨ j = 13 ∨ j = 14 ∨ j = 15 ∨ j = 16 ∨ j = 17 ∨ j = 18 ∨ j = 19 ∨ j = 20 ∨ j = 21 ∨ j = 22 ∨ j = 23 ∨ j = 24 ∨ j = 25 ∨ j = 26 ∨ j = 27 ∨ j = 28 ∨ j = 29 ∨ j = 30 ∨ j = 31 ∨ j = 32 ∨ j = 33 ∨ j = 34 ∨ j = 35 ∨ j = 36 ∨ j = 37 ∨ j = 38 ∨ j = 39 : Prop) |> fun _ => (show j = 0 ∨ j = 1 ∨ j = 2 ∨ j = 3 ∨ j = 4 ∨ j = 5 ∨ j = 6 ∨ j = 7 ∨ j = 8 ∨ j = 9 ∨ j = 10 ∨ j = 11 ∨ j = 12 ∨ j = 13 ∨ j = 14 ∨ j = 15 ∨ j = 16 ∨ j = 17 ∨ j = 18 ∨ j = 19 ∨ j = 20 ∨ j = 21 ∨ j = 22 ∨ j = 23 ∨ j = 24 ∨ j = 25 ∨ j = 26 ∨ j = 27 ∨ j = 28 ∨ j = 29 ∨ j = 30 ∨ j = 31 ∨ j = 32 ∨ j = 33 ∨ j = 34 ∨ j = 35 ∨ j = 36 ∨ j = 37 ∨ j = 38 ∨ j = 39 by omega) with rfl | rfl | rfl | rfl | rfl | rfl | rfl | rfl | rfl | rfl | rfl | rfl | rfl | rfl | rfl | rfl | rfl | rfl | rfl | rfl | rfl | rfl | rfl | rfl | rfl | rfl | rfl | rfl | rfl | rfl | rfl | rfl | rfl | rfl | rfl | rfl | rfl | rfl | rfl | rfl <;> first | rfl | exact absurd hx hc_5 | exact absurd hx hc_7 | exact absurd hx hc_10 | exact absurd hx hc_12 | exact absurd hx hc_15 | exact absurd hx hc_19 | exact absurd hx hc_25 | exact absurd hx hc_31 | exact absurd hx hc_35 | exact absurd hx hc_38)) ?_
                      exact st_retV rfl rfl (hQ _ h)
set_option maxRecDepth 100000 in
def Machine_moveOn (x1 : Int32) (x2 : Int32) (d : vmD) (Q : vmD → Prop) : Prop :=
  if x1 < 0 then
  (Q d)
  else
  (if x1 < 17 then
  (ixOk x1 17 ∧
  bnd (gA d 39 x1.toNatClampNeg) fun y_4 =>
  ixOk x1 17 ∧
  bnd (sA d 39 x1.toNatClampNeg ((y_4 + x2) &&& 65535)) fun d_6 =>
  Q d_6)
  else
  (Q d))
set_option maxRecDepth 100000 in
set_option maxHeartbeats 4000000 in
theorem tMachine_moveOn {L : Nat} {e : vmD} {Qo : Option Value → vmW → Prop} {Q : vmD → Prop} (hQ : ∀ d, Q d → Qo none (wC L d e)) (x1 : Int32) (x2 : Int32) (d : vmD) (h : Machine_moveOn x1 x2 d Q) : vmWp 122 0 [(0, .ref 38), (1, .int x1), (2, .int x2)] [] (wC L d e) Qo := by
  unfold Machine_moveOn at h
  refine st_go 1 (pc' := 1) (lo' := [(0, .ref 38), (1, .int x1), (2, .int x2)]) (st' := [.int x1]) rfl ?_
  by_cases hc_1 : x1 < 0
  · have h := Eq.mp (if_pos hc_1) h
    refine st_if (t := 27) (b := true) rfl (decide_eq_true hc_1) rfl ?_
    exact st_retV rfl rfl (hQ _ h)
  · have h := Eq.mp (if_neg hc_1) h
    refine st_if (t := 4) (b := false) rfl (decide_eq_false hc_1) rfl ?_
    refine st_go 2 (pc' := 7) (lo' := [(0, .ref 38), (1, .int x1), (2, .int x2)]) (st' := [.int 17, .int x1]) rfl ?_
    by_cases hc_2 : x1 < 17
    · have h := Eq.mp (if_pos hc_2) h
      refine st_icmp (t := 10) (b := false) rfl (decide_eq_false (Int32.not_le.mpr hc_2)) rfl ?_
      refine st_go 6 (pc' := 20) (lo' := [(0, .ref 38), (1, .int x1), (2, .int x2)]) (st' := [.int x1, .ref 39, .int x1, .ref 39]) rfl ?_
      obtain ⟨hj_3, h⟩ := h
      refine st_ialdC (o := 39) rfl rfl hj_3 rfl (fun y_4 hy_y_4 => ?_)
      have h := h y_4 hy_y_4
      refine st_go 4 (pc' := 26) (lo' := [(0, .ref 38), (1, .int x1), (2, .int x2)]) (st' := [.int ((y_4 + x2) &&& 65535), .int x1, .ref 39]) rfl ?_
      obtain ⟨hj_5, h⟩ := h
      refine st_iastC (o := 39) rfl rfl hj_5 rfl (fun d_6 hy_d_6 => ?_)
      have h := h d_6 hy_d_6
      exact st_retV rfl rfl (hQ _ h)
    · have h := Eq.mp (if_neg hc_2) h
      refine st_icmp (t := 27) (b := true) rfl (decide_eq_true (Int32.not_lt.mp hc_2)) rfl ?_
      exact st_retV rfl rfl (hQ _ h)
set_option maxRecDepth 100000 in
def Machine_blockFlags (x1 : Int32) (d : vmD) (Q : Int32 → vmD → Prop) : Prop :=
  bnd (gA d 39 1) fun y_1 =>
  if y_1 = 0 then
  (Q (((x1 &&& 8) ||| ((x1 &&& 2) <<< ((4 : Int32) &&& 31))) ||| 0) d)
  else
  (Q (((x1 &&& 8) ||| ((x1 &&& 2) <<< ((4 : Int32) &&& 31))) ||| 4) d)
set_option maxRecDepth 100000 in
set_option maxHeartbeats 4000000 in
theorem tMachine_blockFlags {L : Nat} {e : vmD} {Qo : Option Value → vmW → Prop} {Q : Int32 → vmD → Prop} (hQ : ∀ r d, Q r d → Qo (some (.int r)) (wC L d e)) (x1 : Int32) (d : vmD) (h : Machine_blockFlags x1 d Q) : vmWp 123 0 [(0, .ref 38), (1, .int x1)] [] (wC L d e) Qo := by
  unfold Machine_blockFlags at h
  refine st_go 12 (pc' := 15) (lo' := [(0, .ref 38), (1, .int x1)]) (st' := [.int 1, .ref 39, .int ((x1 &&& 8) ||| ((x1 &&& 2) <<< ((4 : Int32) &&& 31)))]) rfl ?_
  refine st_ialdC (o := 39) rfl rfl (show ixOk 1 17 by decide) rfl (fun y_1 hy_y_1 => ?_)
  have h := h y_1 hy_y_1
  by_cases hc_2 : y_1 = 0
  · have h := Eq.mp (if_pos hc_2) h
    refine st_if (t := 23) (b := true) rfl (decide_eq_true hc_2) rfl ?_
    refine st_go 2 (pc' := 25) (lo' := [(0, .ref 38), (1, .int x1)]) (st' := [.int (((x1 &&& 8) ||| ((x1 &&& 2) <<< ((4 : Int32) &&& 31))) ||| 0)]) rfl ?_
    exact st_retI rfl rfl (hQ _ _ h)
  · have h := Eq.mp (if_neg hc_2) h
    refine st_if (t := 19) (b := false) rfl (decide_eq_false hc_2) rfl ?_
    refine st_go 3 (pc' := 25) (lo' := [(0, .ref 38), (1, .int x1)]) (st' := [.int (((x1 &&& 8) ||| ((x1 &&& 2) <<< ((4 : Int32) &&& 31))) ||| 4)]) rfl ?_
    exact st_retI rfl rfl (hQ _ _ h)
set_option maxRecDepth 100000 in
def Machine_moveBlock (x1 : Int32) (d : vmD) (Q : Int32 → vmD → Prop) : Prop :=
  bnd (gA d 39 3) fun y_1 =>
  Memory_at y_1 d fun r_3 d_2 =>
  bnd (gA d_2 39 2) fun y_4 =>
  Memory_store y_4 r_3 d_2 fun d_5 =>
  Machine_moveOn 3 x1 d_5 fun d_6 =>
  Machine_moveOn 2 x1 d_6 fun d_7 =>
  Machine_moveOn 1 (-1) d_7 fun d_8 =>
  Machine_flags d_8 fun r_10 d_9 =>
  Machine_load 8 d_9 fun r_12 d_11 =>
  Machine_blockFlags (r_3 + r_12) d_11 fun r_14 d_13 =>
  Machine_setFlags ((r_10 &&& 193) ||| r_14) d_13 fun d_15 =>
  bnd (gA d_15 39 1) fun y_16 =>
  if y_16 = 0 then
  (Q 0 d_15)
  else
  (Q 1 d_15)
set_option maxRecDepth 100000 in
set_option maxHeartbeats 4000000 in
theorem tMachine_moveBlock {L : Nat} {e : vmD} {Qo : Option Value → vmW → Prop} {Q : Int32 → vmD → Prop} (hQ : ∀ r d, Q r d → Qo (some (.int r)) (wC L d e)) (x1 : Int32) (d : vmD) (h : Machine_moveBlock x1 d Q) : vmWp 124 0 [(0, .ref 38), (1, .int x1)] [] (wC L d e) Qo := by
  unfold Machine_moveBlock at h
  refine st_go 5 (pc' := 9) (lo' := [(0, .ref 38), (1, .int x1)]) (st' := [.int 3, .ref 39, .ref 1]) rfl ?_
  refine st_ialdC (o := 39) rfl rfl (show ixOk 3 17 by decide) rfl (fun y_1 hy_y_1 => ?_)
  have h := h y_1 hy_y_1
  refine st_calli (k' := 128) (as := [.ref 1, .int y_1]) (rest := []) (lo' := [(0, .ref 1), (1, .int y_1)]) (wf := fun d => wC L d e) rfl rfl rfl ?_
  refine tMemory_at (fun r_3 d_2 h => ⟨r_3, d_2, rfl, rfl, ?_⟩) y_1 d h
  refine st_go 6 (pc' := 23) (lo' := [(2, .int r_3), (0, .ref 38), (1, .int x1)]) (st' := [.int 2, .ref 39, .ref 1]) rfl ?_
  refine st_ialdC (o := 39) rfl rfl (show ixOk 2 17 by decide) rfl (fun y_4 hy_y_4 => ?_)
  have h := h y_4 hy_y_4
  refine st_go 1 (pc' := 25) (lo' := [(2, .int r_3), (0, .ref 38), (1, .int x1)]) (st' := [.int r_3, .int y_4, .ref 1]) rfl ?_
  refine st_callv (k' := 130) (as := [.ref 1, .int y_4, .int r_3]) (rest := []) (lo' := [(0, .ref 1), (1, .int y_4), (2, .int r_3)]) (wf := fun d => wC L d e) rfl rfl rfl ?_
  refine tMemory_store (fun d_5 h => ⟨d_5, rfl, rfl, ?_⟩) y_4 r_3 d_2 h
  refine st_go 3 (pc' := 31) (lo' := [(2, .int r_3), (0, .ref 38), (1, .int x1)]) (st' := [.int x1, .int 3, .ref 38]) rfl ?_
  refine st_callv (k' := 122) (as := [.ref 38, .int 3, .int x1]) (rest := []) (lo' := [(0, .ref 38), (1, .int 3), (2, .int x1)]) (wf := fun d => wC L d e) rfl rfl rfl ?_
  refine tMachine_moveOn (fun d_6 h => ⟨d_6, rfl, rfl, ?_⟩) 3 x1 d_5 h
  refine st_go 3 (pc' := 37) (lo' := [(2, .int r_3), (0, .ref 38), (1, .int x1)]) (st' := [.int x1, .int 2, .ref 38]) rfl ?_
  refine st_callv (k' := 122) (as := [.ref 38, .int 2, .int x1]) (rest := []) (lo' := [(0, .ref 38), (1, .int 2), (2, .int x1)]) (wf := fun d => wC L d e) rfl rfl rfl ?_
  refine tMachine_moveOn (fun d_7 h => ⟨d_7, rfl, rfl, ?_⟩) 2 x1 d_6 h
  refine st_go 3 (pc' := 43) (lo' := [(2, .int r_3), (0, .ref 38), (1, .int x1)]) (st' := [.int (-1), .int 1, .ref 38]) rfl ?_
  refine st_callv (k' := 122) (as := [.ref 38, .int 1, .int (-1)]) (rest := []) (lo' := [(0, .ref 38), (1, .int 1), (2, .int (-1))]) (wf := fun d => wC L d e) rfl rfl rfl ?_
  refine tMachine_moveOn (fun d_8 h => ⟨d_8, rfl, rfl, ?_⟩) 1 (-1) d_7 h
  refine st_go 2 (pc' := 48) (lo' := [(2, .int r_3), (0, .ref 38), (1, .int x1)]) (st' := [.ref 38, .ref 38]) rfl ?_
  refine st_calli (k' := 88) (as := [.ref 38]) (rest := [.ref 38]) (lo' := [(0, .ref 38)]) (wf := fun d => wC L d e) rfl rfl rfl ?_
  refine tMachine_flags (fun r_10 d_9 h => ⟨r_10, d_9, rfl, rfl, ?_⟩) d_8 h
  refine st_go 6 (pc' := 60) (lo' := [(2, .int r_3), (0, .ref 38), (1, .int x1)]) (st' := [.int 8, .ref 38, .int r_3, .ref 38, .int (r_10 &&& 193), .ref 38]) rfl ?_
  refine st_calli (k' := 92) (as := [.ref 38, .int 8]) (rest := [.int r_3, .ref 38, .int (r_10 &&& 193), .ref 38]) (lo' := [(0, .ref 38), (1, .int 8)]) (wf := fun d => wC L d e) rfl rfl rfl ?_
  refine tMachine_load (fun r_12 d_11 h => ⟨r_12, d_11, rfl, rfl, ?_⟩) 8 d_9 h
  refine st_go 1 (pc' := 64) (lo' := [(2, .int r_3), (0, .ref 38), (1, .int x1)]) (st' := [.int (r_3 + r_12), .ref 38, .int (r_10 &&& 193), .ref 38]) rfl ?_
  refine st_calli (k' := 123) (as := [.ref 38, .int (r_3 + r_12)]) (rest := [.int (r_10 &&& 193), .ref 38]) (lo' := [(0, .ref 38), (1, .int (r_3 + r_12))]) (wf := fun d => wC L d e) rfl rfl rfl ?_
  refine tMachine_blockFlags (fun r_14 d_13 h => ⟨r_14, d_13, rfl, rfl, ?_⟩) (r_3 + r_12) d_11 h
  refine st_go 1 (pc' := 68) (lo' := [(2, .int r_3), (0, .ref 38), (1, .int x1)]) (st' := [.int ((r_10 &&& 193) ||| r_14), .ref 38]) rfl ?_
  refine st_callv (k' := 89) (as := [.ref 38, .int ((r_10 &&& 193) ||| r_14)]) (rest := []) (lo' := [(0, .ref 38), (1, .int ((r_10 &&& 193) ||| r_14))]) (wf := fun d => wC L d e) rfl rfl rfl ?_
  refine tMachine_setFlags (fun d_15 h => ⟨d_15, rfl, rfl, ?_⟩) ((r_10 &&& 193) ||| r_14) d_13 h
  refine st_go 3 (pc' := 76) (lo' := [(2, .int r_3), (0, .ref 38), (1, .int x1)]) (st' := [.int 1, .ref 39]) rfl ?_
  refine st_ialdC (o := 39) rfl rfl (show ixOk 1 17 by decide) rfl (fun y_16 hy_y_16 => ?_)
  have h := h y_16 hy_y_16
  by_cases hc_17 : y_16 = 0
  · have h := Eq.mp (if_pos hc_17) h
    refine st_if (t := 84) (b := true) rfl (decide_eq_true hc_17) rfl ?_
    refine st_go 1 (pc' := 85) (lo' := [(2, .int r_3), (0, .ref 38), (1, .int x1)]) (st' := [.int 0]) rfl ?_
    exact st_retZ rfl rfl (Or.inl rfl) (hQ _ _ h)
  · have h := Eq.mp (if_neg hc_17) h
    refine st_if (t := 80) (b := false) rfl (decide_eq_false hc_17) rfl ?_
    refine st_go 2 (pc' := 85) (lo' := [(2, .int r_3), (0, .ref 38), (1, .int x1)]) (st' := [.int 1]) rfl ?_
    exact st_retZ rfl rfl (Or.inr rfl) (hQ _ _ h)
set_option maxRecDepth 100000 in
def Machine_compareBlock (x1 : Int32) (d : vmD) (Q : Int32 → vmD → Prop) : Prop :=
  bnd (gA d 39 3) fun y_1 =>
  Memory_at y_1 d fun r_3 d_2 =>
  Machine_flags d_2 fun r_5 d_4 =>
  bnd (r_5 &&& 1) fun x3_6 =>
  Machine_load 8 d_4 fun r_8 d_7 =>
  Machine_difference r_8 r_3 0 d_7 fun r_10 d_9 =>
  Machine_moveOn 3 x1 d_9 fun d_11 =>
  Machine_moveOn 1 (-1) d_11 fun d_12 =>
  Machine_flags d_12 fun r_14 d_13 =>
  bnd (r_14 &&& 208) fun x5_15 =>
  Machine_blockFlags (r_10 - ((x5_15 &&& 16) / 16)) d_13 fun r_17 d_16 =>
  Machine_setFlags (((x5_15 ||| x3_6) ||| 2) ||| r_17) d_16 fun d_18 =>
  bnd (gA d_18 39 1) fun y_19 =>
  if y_19 = 0 then
  (Q 0 d_18)
  else
  (if r_10 = 0 then
  (Q 0 d_18)
  else
  (Q 1 d_18))
set_option maxRecDepth 100000 in
set_option maxHeartbeats 4000000 in
theorem tMachine_compareBlock {L : Nat} {e : vmD} {Qo : Option Value → vmW → Prop} {Q : Int32 → vmD → Prop} (hQ : ∀ r d, Q r d → Qo (some (.int r)) (wC L d e)) (x1 : Int32) (d : vmD) (h : Machine_compareBlock x1 d Q) : vmWp 125 0 [(0, .ref 38), (1, .int x1)] [] (wC L d e) Qo := by
  unfold Machine_compareBlock at h
  refine st_go 5 (pc' := 9) (lo' := [(0, .ref 38), (1, .int x1)]) (st' := [.int 3, .ref 39, .ref 1]) rfl ?_
  refine st_ialdC (o := 39) rfl rfl (show ixOk 3 17 by decide) rfl (fun y_1 hy_y_1 => ?_)
  have h := h y_1 hy_y_1
  refine st_calli (k' := 128) (as := [.ref 1, .int y_1]) (rest := []) (lo' := [(0, .ref 1), (1, .int y_1)]) (wf := fun d => wC L d e) rfl rfl rfl ?_
  refine tMemory_at (fun r_3 d_2 h => ⟨r_3, d_2, rfl, rfl, ?_⟩) y_1 d h
  refine st_go 2 (pc' := 15) (lo' := [(2, .int r_3), (0, .ref 38), (1, .int x1)]) (st' := [.ref 38]) rfl ?_
  refine st_calli (k' := 88) (as := [.ref 38]) (rest := []) (lo' := [(0, .ref 38)]) (wf := fun d => wC L d e) rfl rfl rfl ?_
  refine tMachine_flags (fun r_5 d_4 h => ⟨r_5, d_4, rfl, rfl, ?_⟩) d_2 h
  refine st_go 3 (pc' := 21) (lo' := [(3, .int (r_5 &&& 1)), (2, .int r_3), (0, .ref 38), (1, .int x1)]) (st' := []) rfl ?_
  refine st_locI (fun x3_6 hy_x3_6 => ?_)
  have h := h x3_6 hy_x3_6
  refine st_go 3 (pc' := 25) (lo' := [(3, .int x3_6), (2, .int r_3), (0, .ref 38), (1, .int x1)]) (st' := [.int 8, .ref 38, .ref 38]) rfl ?_
  refine st_calli (k' := 92) (as := [.ref 38, .int 8]) (rest := [.ref 38]) (lo' := [(0, .ref 38), (1, .int 8)]) (wf := fun d => wC L d e) rfl rfl rfl ?_
  refine tMachine_load (fun r_8 d_7 h => ⟨r_8, d_7, rfl, rfl, ?_⟩) 8 d_4 h
  refine st_go 2 (pc' := 30) (lo' := [(3, .int x3_6), (2, .int r_3), (0, .ref 38), (1, .int x1)]) (st' := [.int 0, .int r_3, .int r_8, .ref 38]) rfl ?_
  refine st_calli (k' := 108) (as := [.ref 38, .int r_8, .int r_3, .int 0]) (rest := []) (lo' := [(0, .ref 38), (1, .int r_8), (2, .int r_3), (3, .int 0)]) (wf := fun d => wC L d e) rfl rfl rfl ?_
  refine tMachine_difference (fun r_10 d_9 h => ⟨r_10, d_9, rfl, rfl, ?_⟩) r_8 r_3 0 d_7 h
  refine st_go 4 (pc' := 38) (lo' := [(4, .int r_10), (3, .int x3_6), (2, .int r_3), (0, .ref 38), (1, .int x1)]) (st' := [.int x1, .int 3, .ref 38]) rfl ?_
  refine st_callv (k' := 122) (as := [.ref 38, .int 3, .int x1]) (rest := []) (lo' := [(0, .ref 38), (1, .int 3), (2, .int x1)]) (wf := fun d => wC L d e) rfl rfl rfl ?_
  refine tMachine_moveOn (fun d_11 h => ⟨d_11, rfl, rfl, ?_⟩) 3 x1 d_9 h
  refine st_go 3 (pc' := 44) (lo' := [(4, .int r_10), (3, .int x3_6), (2, .int r_3), (0, .ref 38), (1, .int x1)]) (st' := [.int (-1), .int 1, .ref 38]) rfl ?_
  refine st_callv (k' := 122) (as := [.ref 38, .int 1, .int (-1)]) (rest := []) (lo' := [(0, .ref 38), (1, .int 1), (2, .int (-1))]) (wf := fun d => wC L d e) rfl rfl rfl ?_
  refine tMachine_moveOn (fun d_12 h => ⟨d_12, rfl, rfl, ?_⟩) 1 (-1) d_11 h
  refine st_go 1 (pc' := 48) (lo' := [(4, .int r_10), (3, .int x3_6), (2, .int r_3), (0, .ref 38), (1, .int x1)]) (st' := [.ref 38]) rfl ?_
  refine st_calli (k' := 88) (as := [.ref 38]) (rest := []) (lo' := [(0, .ref 38)]) (wf := fun d => wC L d e) rfl rfl rfl ?_
  refine tMachine_flags (fun r_14 d_13 h => ⟨r_14, d_13, rfl, rfl, ?_⟩) d_12 h
  refine st_go 3 (pc' := 57) (lo' := [(5, .int (r_14 &&& 208)), (4, .int r_10), (3, .int x3_6), (2, .int r_3), (0, .ref 38), (1, .int x1)]) (st' := []) rfl ?_
  refine st_locI (fun x5_15 hy_x5_15 => ?_)
  have h := h x5_15 hy_x5_15
  refine st_go 12 (pc' := 74) (lo' := [(5, .int x5_15), (4, .int r_10), (3, .int x3_6), (2, .int r_3), (0, .ref 38), (1, .int x1)]) (st' := [.int 16, .int (x5_15 &&& 16), .int r_10, .ref 38, .int ((x5_15 ||| x3_6) ||| 2), .ref 38]) rfl ?_
  refine st_idiv rfl (by decide) ?_
  refine st_go 1 (pc' := 76) (lo' := [(5, .int x5_15), (4, .int r_10), (3, .int x3_6), (2, .int r_3), (0, .ref 38), (1, .int x1)]) (st' := [.int (r_10 - ((x5_15 &&& 16) / 16)), .ref 38, .int ((x5_15 ||| x3_6) ||| 2), .ref 38]) rfl ?_
  refine st_calli (k' := 123) (as := [.ref 38, .int (r_10 - ((x5_15 &&& 16) / 16))]) (rest := [.int ((x5_15 ||| x3_6) ||| 2), .ref 38]) (lo' := [(0, .ref 38), (1, .int (r_10 - ((x5_15 &&& 16) / 16)))]) (wf := fun d => wC L d e) rfl rfl rfl ?_
  refine tMachine_blockFlags (fun r_17 d_16 h => ⟨r_17, d_16, rfl, rfl, ?_⟩) (r_10 - ((x5_15 &&& 16) / 16)) d_13 h
  refine st_go 1 (pc' := 80) (lo' := [(5, .int x5_15), (4, .int r_10), (3, .int x3_6), (2, .int r_3), (0, .ref 38), (1, .int x1)]) (st' := [.int (((x5_15 ||| x3_6) ||| 2) ||| r_17), .ref 38]) rfl ?_
  refine st_callv (k' := 89) (as := [.ref 38, .int (((x5_15 ||| x3_6) ||| 2) ||| r_17)]) (rest := []) (lo' := [(0, .ref 38), (1, .int (((x5_15 ||| x3_6) ||| 2) ||| r_17))]) (wf := fun d => wC L d e) rfl rfl rfl ?_
  refine tMachine_setFlags (fun d_18 h => ⟨d_18, rfl, rfl, ?_⟩) (((x5_15 ||| x3_6) ||| 2) ||| r_17) d_16 h
  refine st_go 3 (pc' := 88) (lo' := [(5, .int x5_15), (4, .int r_10), (3, .int x3_6), (2, .int r_3), (0, .ref 38), (1, .int x1)]) (st' := [.int 1, .ref 39]) rfl ?_
  refine st_ialdC (o := 39) rfl rfl (show ixOk 1 17 by decide) rfl (fun y_19 hy_y_19 => ?_)
  have h := h y_19 hy_y_19
  by_cases hc_20 : y_19 = 0
  · have h := Eq.mp (if_pos hc_20) h
    refine st_if (t := 101) (b := true) rfl (decide_eq_true hc_20) rfl ?_
    refine st_go 1 (pc' := 102) (lo' := [(5, .int x5_15), (4, .int r_10), (3, .int x3_6), (2, .int r_3), (0, .ref 38), (1, .int x1)]) (st' := [.int 0]) rfl ?_
    exact st_retZ rfl rfl (Or.inl rfl) (hQ _ _ h)
  · have h := Eq.mp (if_neg hc_20) h
    refine st_if (t := 92) (b := false) rfl (decide_eq_false hc_20) rfl ?_
    refine st_go 1 (pc' := 94) (lo' := [(5, .int x5_15), (4, .int r_10), (3, .int x3_6), (2, .int r_3), (0, .ref 38), (1, .int x1)]) (st' := [.int r_10]) rfl ?_
    by_cases hc_21 : r_10 = 0
    · have h := Eq.mp (if_pos hc_21) h
      refine st_if (t := 101) (b := true) rfl (decide_eq_true hc_21) rfl ?_
      refine st_go 1 (pc' := 102) (lo' := [(5, .int x5_15), (4, .int r_10), (3, .int x3_6), (2, .int r_3), (0, .ref 38), (1, .int x1)]) (st' := [.int 0]) rfl ?_
      exact st_retZ rfl rfl (Or.inl rfl) (hQ _ _ h)
    · have h := Eq.mp (if_neg hc_21) h
      refine st_if (t := 97) (b := false) rfl (decide_eq_false hc_21) rfl ?_
      refine st_go 2 (pc' := 102) (lo' := [(5, .int x5_15), (4, .int r_10), (3, .int x3_6), (2, .int r_3), (0, .ref 38), (1, .int x1)]) (st' := [.int 1]) rfl ?_
      exact st_retZ rfl rfl (Or.inr rfl) (hQ _ _ h)
