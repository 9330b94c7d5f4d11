/-! The decompiled program, 4.4 -/
set_option maxRecDepth 100000 in
def Machine_portBlock_140 (x3 : Int32) (x5 : Int32) (x6 : Int32) (s0 : Int32) (d : vmD) (Q : Int32 → vmD → Prop) : Prop :=
  Machine_signsOf x5 d fun r_20 d_19 =>
  Machine_parityOf ((x6 &&& 7) ^^^ x5) d_19 fun r_22 d_21 =>
  Machine_setFlags (((r_20 ||| ((x3 >>> ((6 : Int32) &&& 31)) &&& 2)) ||| s0) ||| r_22) d_21 fun d_23 =>
  if x5 = 0 then
  (Q 0 d_23)
  else
  (Q 1 d_23)
set_option maxRecDepth 100000 in
set_option maxHeartbeats 4000000 in
theorem tMachine_portBlock_140 {L : Nat} {e : vmD} {Qo : Option Value → vmW → Prop} {Q : Int32 → vmD → Prop} (hQ : ∀ r d, Q r d → Qo (some (.int r)) (wC L d e)) (x3 : Int32) (x5 : Int32) (x6 : Int32) (s0 : Int32) (d : vmD) (h : Machine_portBlock_140 x3 x5 x6 s0 d Q) : vmWp 126 140 [(0, .ref 38), (3, .int x3), (5, .int x5), (6, .int x6)] [.int s0] (wC L d e) Qo := by
  unfold Machine_portBlock_140 at h
  refine st_go 3 (pc' := 145) (lo' := [(7, .int s0), (0, .ref 38), (3, .int x3), (5, .int x5), (6, .int x6)]) (st' := [.int x5, .ref 38]) rfl ?_
  refine st_calli (k' := 90) (as := [.int x5]) (rest := [.ref 38]) (lo' := [(0, .int x5)]) (wf := fun d => wC L d e) rfl rfl rfl ?_
  refine tMachine_signsOf (fun r_20 d_19 h => ⟨r_20, d_19, rfl, rfl, ?_⟩) x5 d h
  refine st_go 13 (pc' := 166) (lo' := [(7, .int s0), (0, .ref 38), (3, .int x3), (5, .int x5), (6, .int x6)]) (st' := [.int ((x6 &&& 7) ^^^ x5), .int ((r_20 ||| ((x3 >>> ((6 : Int32) &&& 31)) &&& 2)) ||| s0), .ref 38]) rfl ?_
  refine st_calli (k' := 91) (as := [.int ((x6 &&& 7) ^^^ x5)]) (rest := [.int ((r_20 ||| ((x3 >>> ((6 : Int32) &&& 31)) &&& 2)) ||| s0), .ref 38]) (lo' := [(0, .int ((x6 &&& 7) ^^^ x5))]) (wf := fun d => wC L d e) rfl rfl rfl ?_
  refine tMachine_parityOf (fun r_22 d_21 h => ⟨r_22, d_21, rfl, rfl, ?_⟩) ((x6 &&& 7) ^^^ x5) d_19 h
  refine st_go 1 (pc' := 170) (lo' := [(7, .int s0), (0, .ref 38), (3, .int x3), (5, .int x5), (6, .int x6)]) (st' := [.int (((r_20 ||| ((x3 >>> ((6 : Int32) &&& 31)) &&& 2)) ||| s0) ||| r_22), .ref 38]) rfl ?_
  refine st_callv (k' := 89) (as := [.ref 38, .int (((r_20 ||| ((x3 >>> ((6 : Int32) &&& 31)) &&& 2)) ||| s0) ||| r_22)]) (rest := []) (lo' := [(0, .ref 38), (1, .int (((r_20 ||| ((x3 >>> ((6 : Int32) &&& 31)) &&& 2)) ||| s0) ||| r_22))]) (wf := fun d => wC L d e) rfl rfl rfl ?_
  refine tMachine_setFlags (fun d_23 h => ⟨d_23, rfl, rfl, ?_⟩) (((r_20 ||| ((x3 >>> ((6 : Int32) &&& 31)) &&& 2)) ||| s0) ||| r_22) d_21 h
  refine st_go 1 (pc' := 175) (lo' := [(7, .int s0), (0, .ref 38), (3, .int x3), (5, .int x5), (6, .int x6)]) (st' := [.int x5]) rfl ?_
  by_cases hc_24 : x5 = 0
  · have h := Eq.mp (if_pos hc_24) h
    refine st_if (t := 182) (b := true) rfl (decide_eq_true hc_24) rfl ?_
    refine st_go 1 (pc' := 183) (lo' := [(7, .int s0), (0, .ref 38), (3, .int x3), (5, .int x5), (6, .int x6)]) (st' := [.int 0]) rfl ?_
    exact st_retZ rfl rfl (Or.inl rfl) (hQ _ _ h)
  · have h := Eq.mp (if_neg hc_24) h
    refine st_if (t := 178) (b := false) rfl (decide_eq_false hc_24) rfl ?_
    refine st_go 2 (pc' := 183) (lo' := [(7, .int s0), (0, .ref 38), (3, .int x3), (5, .int x5), (6, .int x6)]) (st' := [.int 1]) rfl ?_
    exact st_retZ rfl rfl (Or.inr rfl) (hQ _ _ h)
set_option maxRecDepth 100000 in
def Machine_portBlock_123 (x3 : Int32) (x5 : Int32) (s0 : Int32) (s1 : Int32) (d : vmD) (Q : Int32 → vmD → Prop) : Prop :=
  bnd (s1 + s0) fun x6_17 =>
  if (255 : Int32) < x6_17 then
  (Machine_portBlock_140 x3 x5 x6_17 17 d Q)
  else
  (Machine_portBlock_140 x3 x5 x6_17 0 d Q)
set_option maxRecDepth 100000 in
set_option maxHeartbeats 4000000 in
theorem tMachine_portBlock_123 {L : Nat} {e : vmD} {Qo : Option Value → vmW → Prop} {Q : Int32 → vmD → Prop} (hQ : ∀ r d, Q r d → Qo (some (.int r)) (wC L d e)) (x3 : Int32) (x5 : Int32) (s0 : Int32) (s1 : Int32) (d : vmD) (h : Machine_portBlock_123 x3 x5 s0 s1 d Q) : vmWp 126 123 [(0, .ref 38), (3, .int x3), (5, .int x5)] [.int s0, .int s1] (wC L d e) Qo := by
  unfold Machine_portBlock_123 at h
  refine st_go 2 (pc' := 126) (lo' := [(6, .int (s1 + s0)), (0, .ref 38), (3, .int x3), (5, .int x5)]) (st' := []) rfl ?_
  refine st_locI (fun x6_17 hy_x6_17 => ?_)
  have h := h x6_17 hy_x6_17
  refine st_go 2 (pc' := 131) (lo' := [(6, .int x6_17), (0, .ref 38), (3, .int x3), (5, .int x5)]) (st' := [.int 255, .int x6_17]) rfl ?_
  by_cases hc_18 : (255 : Int32) < x6_17
  · have h := Eq.mp (if_pos hc_18) h
    refine st_icmp (t := 134) (b := false) rfl (decide_eq_false (Int32.not_le.mpr hc_18)) rfl ?_
    refine st_go 2 (pc' := 140) (lo' := [(6, .int x6_17), (0, .ref 38), (3, .int x3), (5, .int x5)]) (st' := [.int 17]) rfl ?_
    refine vmWp.sub (lo' := [(0, .ref 38), (3, .int x3), (5, .int x5), (6, .int x6_17)]) ⟨rfl, rfl, rfl, rfl, trivial⟩ ?_
    exact tMachine_portBlock_140 hQ x3 x5 x6_17 17 d h
  · have h := Eq.mp (if_neg hc_18) h
    refine st_icmp (t := 139) (b := true) rfl (decide_eq_true (Int32.not_lt.mp hc_18)) rfl ?_
    refine st_go 1 (pc' := 140) (lo' := [(6, .int x6_17), (0, .ref 38), (3, .int x3), (5, .int x5)]) (st' := [.int 0]) rfl ?_
    refine vmWp.sub (lo' := [(0, .ref 38), (3, .int x3), (5, .int x5), (6, .int x6_17)]) ⟨rfl, rfl, rfl, rfl, trivial⟩ ?_
    exact tMachine_portBlock_140 hQ x3 x5 x6_17 0 d h
set_option maxRecDepth 100000 in
def Machine_portBlock_91 (x1 : Int32) (x2 : Int32) (x3 : Int32) (x5 : Int32) (d : vmD) (Q : Int32 → vmD → Prop) : Prop :=
  Machine_moveOn 3 x2 d fun d_14 =>
  if x1 = 0 then
  (bnd (gA d_14 39 1) fun y_16 =>
  Machine_portBlock_123 x3 x5 ((y_16 + x2) &&& 255) x3 d_14 Q)
  else
  (Machine_load 6 d_14 fun r_26 d_25 =>
  Machine_portBlock_123 x3 x5 r_26 x3 d_25 Q)
set_option maxRecDepth 100000 in
set_option maxHeartbeats 4000000 in
theorem tMachine_portBlock_91 {L : Nat} {e : vmD} {Qo : Option Value → vmW → Prop} {Q : Int32 → vmD → Prop} (hQ : ∀ r d, Q r d → Qo (some (.int r)) (wC L d e)) (x1 : Int32) (x2 : Int32) (x3 : Int32) (x5 : Int32) (d : vmD) (h : Machine_portBlock_91 x1 x2 x3 x5 d Q) : vmWp 126 91 [(0, .ref 38), (1, .int x1), (2, .int x2), (3, .int x3), (5, .int x5)] [] (wC L d e) Qo := by
  unfold Machine_portBlock_91 at h
  refine st_go 3 (pc' := 94) (lo' := [(0, .ref 38), (1, .int x1), (2, .int x2), (3, .int x3), (5, .int x5)]) (st' := [.int x2, .int 3, .ref 38]) rfl ?_
  refine st_callv (k' := 122) (as := [.ref 38, .int 3, .int x2]) (rest := []) (lo' := [(0, .ref 38), (1, .int 3), (2, .int x2)]) (wf := fun d => wC L d e) rfl rfl rfl ?_
  refine tMachine_moveOn (fun d_14 h => ⟨d_14, rfl, rfl, ?_⟩) 3 x2 d h
  refine st_go 2 (pc' := 99) (lo' := [(0, .ref 38), (1, .int x1), (2, .int x2), (3, .int x3), (5, .int x5)]) (st' := [.int x1, .int x3]) rfl ?_
  by_cases hc_15 : x1 = 0
  · have h := Eq.mp (if_pos hc_15) h
    refine st_if (t := 111) (b := true) rfl (decide_eq_true hc_15) rfl ?_
    refine st_go 3 (pc' := 116) (lo' := [(0, .ref 38), (1, .int x1), (2, .int x2), (3, .int x3), (5, .int x5)]) (st' := [.int 1, .ref 39, .int x3]) rfl ?_
    refine st_ialdC (o := 39) rfl rfl (show ixOk 1 17 by decide) rfl (fun y_16 hy_y_16 => ?_)
    have h := h y_16 hy_y_16
    refine st_go 4 (pc' := 123) (lo' := [(0, .ref 38), (1, .int x1), (2, .int x2), (3, .int x3), (5, .int x5)]) (st' := [.int ((y_16 + x2) &&& 255), .int x3]) rfl ?_
    refine vmWp.sub (lo' := [(0, .ref 38), (3, .int x3), (5, .int x5)]) ⟨rfl, rfl, rfl, trivial⟩ ?_
    exact tMachine_portBlock_123 hQ x3 x5 ((y_16 + x2) &&& 255) x3 d_14 h
  · have h := Eq.mp (if_neg hc_15) h
    refine st_if (t := 102) (b := false) rfl (decide_eq_false hc_15) rfl ?_
    refine st_go 2 (pc' := 105) (lo' := [(0, .ref 38), (1, .int x1), (2, .int x2), (3, .int x3), (5, .int x5)]) (st' := [.int 6, .ref 38, .int x3]) rfl ?_
    refine st_calli (k' := 92) (as := [.ref 38, .int 6]) (rest := [.int x3]) (lo' := [(0, .ref 38), (1, .int 6)]) (wf := fun d => wC L d e) rfl rfl rfl ?_
    refine tMachine_load (fun r_26 d_25 h => ⟨r_26, d_25, rfl, rfl, ?_⟩) 6 d_14 h
    refine st_go 1 (pc' := 123) (lo' := [(0, .ref 38), (1, .int x1), (2, .int x2), (3, .int x3), (5, .int x5)]) (st' := [.int r_26, .int x3]) rfl ?_
    refine vmWp.sub (lo' := [(0, .ref 38), (3, .int x3), (5, .int x5)]) ⟨rfl, rfl, rfl, trivial⟩ ?_
    exact tMachine_portBlock_123 hQ x3 x5 r_26 x3 d_25 h
set_option maxRecDepth 100000 in
def Machine_portBlock_35 (x1 : Int32) (x2 : Int32) (s0 : Int32) (d : vmD) (Q : Int32 → vmD → Prop) : Prop :=
  bnd (gA d 39 1) fun y_5 =>
  Machine_load 1 d fun r_7 d_6 =>
  Machine_save 1 (r_7 - 1) d_6 fun d_8 =>
  Machine_load 1 d_8 fun r_10 d_9 =>
  if x1 = 0 then
  (bnd (gA d_9 39 3) fun y_12 =>
  Memory_store y_12 s0 d_9 fun d_13 =>
  Machine_portBlock_91 x1 x2 s0 r_10 d_13 Q)
  else
  (Machine_putOut y_5 s0 d_9 fun d_27 =>
  Machine_portBlock_91 x1 x2 s0 r_10 d_27 Q)
set_option maxRecDepth 100000 in
set_option maxHeartbeats 4000000 in
theorem tMachine_portBlock_35 {L : Nat} {e : vmD} {Qo : Option Value → vmW → Prop} {Q : Int32 → vmD → Prop} (hQ : ∀ r d, Q r d → Qo (some (.int r)) (wC L d e)) (x1 : Int32) (x2 : Int32) (s0 : Int32) (d : vmD) (h : Machine_portBlock_35 x1 x2 s0 d Q) : vmWp 126 35 [(0, .ref 38), (1, .int x1), (2, .int x2)] [.int s0] (wC L d e) Qo := by
  unfold Machine_portBlock_35 at h
  refine st_go 4 (pc' := 41) (lo' := [(3, .int s0), (0, .ref 38), (1, .int x1), (2, .int x2)]) (st' := [.int 1, .ref 39]) rfl ?_
  refine st_ialdC (o := 39) rfl rfl (show ixOk 1 17 by decide) rfl (fun y_5 hy_y_5 => ?_)
  have h := h y_5 hy_y_5
  refine st_go 5 (pc' := 48) (lo' := [(4, .int y_5), (3, .int s0), (0, .ref 38), (1, .int x1), (2, .int x2)]) (st' := [.int 1, .ref 38, .int 1, .ref 38]) rfl ?_
  refine st_calli (k' := 92) (as := [.ref 38, .int 1]) (rest := [.int 1, .ref 38]) (lo' := [(0, .ref 38), (1, .int 1)]) (wf := fun d => wC L d e) rfl rfl rfl ?_
  refine tMachine_load (fun r_7 d_6 h => ⟨r_7, d_6, rfl, rfl, ?_⟩) 1 d h
  refine st_go 2 (pc' := 53) (lo' := [(4, .int y_5), (3, .int s0), (0, .ref 38), (1, .int x1), (2, .int x2)]) (st' := [.int (r_7 - 1), .int 1, .ref 38]) rfl ?_
  refine st_callv (k' := 93) (as := [.ref 38, .int 1, .int (r_7 - 1)]) (rest := []) (lo' := [(0, .ref 38), (1, .int 1), (2, .int (r_7 - 1))]) (wf := fun d => wC L d e) rfl rfl rfl ?_
  refine tMachine_save (fun d_8 h => ⟨d_8, rfl, rfl, ?_⟩) 1 (r_7 - 1) d_6 h
  refine st_go 2 (pc' := 58) (lo' := [(4, .int y_5), (3, .int s0), (0, .ref 38), (1, .int x1), (2, .int x2)]) (st' := [.int 1, .ref 38]) rfl ?_
  refine st_calli (k' := 92) (as := [.ref 38, .int 1]) (rest := []) (lo' := [(0, .ref 38), (1, .int 1)]) (wf := fun d => wC L d e) rfl rfl rfl ?_
  refine tMachine_load (fun r_10 d_9 h => ⟨r_10, d_9, rfl, rfl, ?_⟩) 1 d_8 h
  refine st_go 2 (pc' := 64) (lo' := [(5, .int r_10), (4, .int y_5), (3, .int s0), (0, .ref 38), (1, .int x1), (2, .int x2)]) (st' := [.int x1]) rfl ?_
  by_cases hc_11 : x1 = 0
  · have h := Eq.mp (if_pos hc_11) h
    refine st_if (t := 77) (b := true) rfl (decide_eq_true hc_11) rfl ?_
    refine st_go 5 (pc' := 86) (lo' := [(5, .int r_10), (4, .int y_5), (3, .int s0), (0, .ref 38), (1, .int x1), (2, .int x2)]) (st' := [.int 3, .ref 39, .ref 1]) rfl ?_
    refine st_ialdC (o := 39) rfl rfl (show ixOk 3 17 by decide) rfl (fun y_12 hy_y_12 => ?_)
    have h := h y_12 hy_y_12
    refine st_go 1 (pc' := 88) (lo' := [(5, .int r_10), (4, .int y_5), (3, .int s0), (0, .ref 38), (1, .int x1), (2, .int x2)]) (st' := [.int s0, .int y_12, .ref 1]) rfl ?_
    refine st_callv (k' := 130) (as := [.ref 1, .int y_12, .int s0]) (rest := []) (lo' := [(0, .ref 1), (1, .int y_12), (2, .int s0)]) (wf := fun d => wC L d e) rfl rfl rfl ?_
    refine tMemory_store (fun d_13 h => ⟨d_13, rfl, rfl, ?_⟩) y_12 s0 d_9 h
    refine vmWp.sub (lo' := [(0, .ref 38), (1, .int x1), (2, .int x2), (3, .int s0), (5, .int r_10)]) ⟨rfl, rfl, rfl, rfl, rfl, trivial⟩ ?_
    exact tMachine_portBlock_91 hQ x1 x2 s0 r_10 d_13 h
  · have h := Eq.mp (if_neg hc_11) h
    refine st_if (t := 67) (b := false) rfl (decide_eq_false hc_11) rfl ?_
    refine st_go 3 (pc' := 71) (lo' := [(5, .int r_10), (4, .int y_5), (3, .int s0), (0, .ref 38), (1, .int x1), (2, .int x2)]) (st' := [.int s0, .int y_5, .ref 38]) rfl ?_
    refine st_callv (k' := 119) (as := [.ref 38, .int y_5, .int s0]) (rest := []) (lo' := [(0, .ref 38), (1, .int y_5), (2, .int s0)]) (wf := fun d => wC L d e) rfl rfl rfl ?_
    refine tMachine_putOut (fun d_27 h => ⟨d_27, rfl, rfl, ?_⟩) y_5 s0 d_9 h
    refine st_go 1 (pc' := 91) (lo' := [(5, .int r_10), (4, .int y_5), (3, .int s0), (0, .ref 38), (1, .int x1), (2, .int x2)]) (st' := []) rfl ?_
    refine vmWp.sub (lo' := [(0, .ref 38), (1, .int x1), (2, .int x2), (3, .int s0), (5, .int r_10)]) ⟨rfl, rfl, rfl, rfl, rfl, trivial⟩ ?_
    exact tMachine_portBlock_91 hQ x1 x2 s0 r_10 d_27 h
set_option maxRecDepth 100000 in
def Machine_portBlock (x1 : Int32) (x2 : Int32) (d : vmD) (Q : Int32 → vmD → Prop) : Prop :=
  if x1 = 0 then
  (bnd (gA d 39 1) fun y_2 =>
  ixOk (y_2 &&& 255) 256 ∧
  bnd (gA d 40 (y_2 &&& 255).toNatClampNeg) fun y_4 =>
  Machine_portBlock_35 x1 x2 y_4 d Q)
  else
  (bnd (gA d 39 3) fun y_28 =>
  Memory_at y_28 d fun r_30 d_29 =>
  Machine_portBlock_35 x1 x2 r_30 d_29 Q)
set_option maxRecDepth 100000 in
set_option maxHeartbeats 4000000 in
theorem tMachine_portBlock {L : Nat} {e : vmD} {Qo : Option Value → vmW → Prop} {Q : Int32 → vmD → Prop} (hQ : ∀ r d, Q r d → Qo (some (.int r)) (wC L d e)) (x1 : Int32) (x2 : Int32) (d : vmD) (h : Machine_portBlock x1 x2 d Q) : vmWp 126 0 [(0, .ref 38), (1, .int x1), (2, .int x2)] [] (wC L d e) Qo := by
  unfold Machine_portBlock at h
  refine st_go 1 (pc' := 1) (lo' := [(0, .ref 38), (1, .int x1), (2, .int x2)]) (st' := [.int x1]) rfl ?_
  by_cases hc_1 : x1 = 0
  · have h := Eq.mp (if_pos hc_1) h
    refine st_if (t := 20) (b := true) rfl (decide_eq_true hc_1) rfl ?_
    refine st_go 5 (pc' := 29) (lo' := [(0, .ref 38), (1, .int x1), (2, .int x2)]) (st' := [.int 1, .ref 39, .ref 40]) rfl ?_
    refine st_ialdC (o := 39) rfl rfl (show ixOk 1 17 by decide) rfl (fun y_2 hy_y_2 => ?_)
    have h := h y_2 hy_y_2
    refine st_go 2 (pc' := 34) (lo' := [(0, .ref 38), (1, .int x1), (2, .int x2)]) (st' := [.int (y_2 &&& 255), .ref 40]) rfl ?_
    obtain ⟨hj_3, h⟩ := h
    refine st_ialdC (o := 40) rfl rfl hj_3 rfl (fun y_4 hy_y_4 => ?_)
    have h := h y_4 hy_y_4
    refine vmWp.sub (lo' := [(0, .ref 38), (1, .int x1), (2, .int x2)]) ⟨rfl, rfl, rfl, trivial⟩ ?_
    exact tMachine_portBlock_35 hQ x1 x2 y_4 d h
  · have h := Eq.mp (if_neg hc_1) h
    refine st_if (t := 4) (b := false) rfl (decide_eq_false hc_1) rfl ?_
    refine st_go 5 (pc' := 13) (lo' := [(0, .ref 38), (1, .int x1), (2, .int x2)]) (st' := [.int 3, .ref 39, .ref 1]) rfl ?_
    refine st_ialdC (o := 39) rfl rfl (show ixOk 3 17 by decide) rfl (fun y_28 hy_y_28 => ?_)
    have h := h y_28 hy_y_28
    refine st_calli (k' := 128) (as := [.ref 1, .int y_28]) (rest := []) (lo' := [(0, .ref 1), (1, .int y_28)]) (wf := fun d => wC L d e) rfl rfl rfl ?_
    refine tMemory_at (fun r_30 d_29 h => ⟨r_30, d_29, rfl, rfl, ?_⟩) y_28 d h
    refine st_go 1 (pc' := 35) (lo' := [(0, .ref 38), (1, .int x1), (2, .int x2)]) (st' := [.int r_30]) rfl ?_
    refine vmWp.sub (lo' := [(0, .ref 38), (1, .int x1), (2, .int x2)]) ⟨rfl, rfl, rfl, trivial⟩ ?_
    exact tMachine_portBlock_35 hQ x1 x2 r_30 d_29 h
set_option maxRecDepth 100000 in
def Machine_handleBlock_62 (x2 : Int32) (x3 : Int32) (x5 : Int32) (d : vmD) (Q : vmD → Prop) : Prop :=
  if x5 = 0 then
  (Q d)
  else
  (if x2 < 2 then
  (Q d)
  else
  (bnd (sA d 39 11 x3) fun d_7 =>
  Q d_7))
set_option maxRecDepth 100000 in
set_option maxHeartbeats 4000000 in
theorem tMachine_handleBlock_62 {L : Nat} {e : vmD} {Qo : Option Value → vmW → Prop} {Q : vmD → Prop} (hQ : ∀ d, Q d → Qo none (wC L d e)) (x2 : Int32) (x3 : Int32) (x5 : Int32) (d : vmD) (h : Machine_handleBlock_62 x2 x3 x5 d Q) : vmWp 121 62 [(0, .ref 38), (2, .int x2), (3, .int x3), (5, .int x5)] [] (wC L d e) Qo := by
  unfold Machine_handleBlock_62 at h
  refine st_go 1 (pc' := 64) (lo' := [(0, .ref 38), (2, .int x2), (3, .int x3), (5, .int x5)]) (st' := [.int x5]) rfl ?_
  by_cases hc_5 : x5 = 0
  · have h := Eq.mp (if_pos hc_5) h
    refine st_if (t := 80) (b := true) rfl (decide_eq_true hc_5) rfl ?_
    exact st_retV rfl rfl (hQ _ h)
  · have h := Eq.mp (if_neg hc_5) h
    refine st_if (t := 67) (b := false) rfl (decide_eq_false hc_5) rfl ?_
    refine st_go 2 (pc' := 69) (lo' := [(0, .ref 38), (2, .int x2), (3, .int x3), (5, .int x5)]) (st' := [.int 2, .int x2]) rfl ?_
    by_cases hc_6 : x2 < 2
    · have h := Eq.mp (if_pos hc_6) h
      refine st_icmp (t := 80) (b := true) rfl (decide_eq_true hc_6) rfl ?_
      exact st_retV rfl rfl (hQ _ h)
    · have h := Eq.mp (if_neg hc_6) h
      refine st_icmp (t := 72) (b := false) rfl (decide_eq_false hc_6) rfl ?_
      refine st_go 4 (pc' := 79) (lo' := [(0, .ref 38), (2, .int x2), (3, .int x3), (5, .int x5)]) (st' := [.int x3, .int 11, .ref 39]) rfl ?_
      refine st_iastC (o := 39) rfl rfl (show ixOk 11 17 by decide) rfl (fun d_7 hy_d_7 => ?_)
      have h := h d_7 hy_d_7
      exact st_retV rfl rfl (hQ _ h)
set_option maxRecDepth 100000 in
def Machine_handleBlock_55 (x2 : Int32) (x3 : Int32) (x4 : Int32) (s0 : Int32) (d : vmD) (Q : vmD → Prop) : Prop :=
  Machine_portBlock s0 x4 d fun r_13 d_12 =>
  Machine_handleBlock_62 x2 x3 r_13 d_12 Q
set_option maxRecDepth 100000 in
set_option maxHeartbeats 4000000 in
theorem tMachine_handleBlock_55 {L : Nat} {e : vmD} {Qo : Option Value → vmW → Prop} {Q : vmD → Prop} (hQ : ∀ d, Q d → Qo none (wC L d e)) (x2 : Int32) (x3 : Int32) (x4 : Int32) (s0 : Int32) (d : vmD) (h : Machine_handleBlock_55 x2 x3 x4 s0 d Q) : vmWp 121 55 [(0, .ref 38), (2, .int x2), (3, .int x3), (4, .int x4)] [.int s0, .ref 38] (wC L d e) Qo := by
  unfold Machine_handleBlock_55 at h
  refine st_go 1 (pc' := 57) (lo' := [(0, .ref 38), (2, .int x2), (3, .int x3), (4, .int x4)]) (st' := [.int x4, .int s0, .ref 38]) rfl ?_
  refine st_calli (k' := 126) (as := [.ref 38, .int s0, .int x4]) (rest := []) (lo' := [(0, .ref 38), (1, .int s0), (2, .int x4)]) (wf := fun d => wC L d e) rfl rfl rfl ?_
  refine tMachine_portBlock (fun r_13 d_12 h => ⟨r_13, d_12, rfl, rfl, ?_⟩) s0 x4 d h
  refine st_go 1 (pc' := 62) (lo' := [(5, .int r_13), (0, .ref 38), (2, .int x2), (3, .int x3), (4, .int x4)]) (st' := []) rfl ?_
  refine vmWp.sub (lo' := [(0, .ref 38), (2, .int x2), (3, .int x3), (5, .int r_13)]) ⟨rfl, rfl, rfl, rfl, trivial⟩ ?_
  exact tMachine_handleBlock_62 hQ x2 x3 r_13 d_12 h
set_option maxRecDepth 100000 in
def Machine_handleBlock_11 (x1 : Int32) (x2 : Int32) (x3 : Int32) (s0 : Int32) (d : vmD) (Q : vmD → Prop) : Prop :=
  if x1 = 0 then
  (Machine_moveBlock s0 d fun r_4 d_3 =>
  Machine_handleBlock_62 x2 x3 r_4 d_3 Q)
  else
  (if x1 = 1 then
  (Machine_compareBlock s0 d fun r_10 d_9 =>
  Machine_handleBlock_62 x2 x3 r_10 d_9 Q)
  else
  (if x1 = 3 then
  (Machine_handleBlock_55 x2 x3 s0 1 d Q)
  else
  (Machine_handleBlock_55 x2 x3 s0 0 d Q)))
set_option maxRecDepth 100000 in
set_option maxHeartbeats 4000000 in
theorem tMachine_handleBlock_11 {L : Nat} {e : vmD} {Qo : Option Value → vmW → Prop} {Q : vmD → Prop} (hQ : ∀ d, Q d → Qo none (wC L d e)) (x1 : Int32) (x2 : Int32) (x3 : Int32) (s0 : Int32) (d : vmD) (h : Machine_handleBlock_11 x1 x2 x3 s0 d Q) : vmWp 121 11 [(0, .ref 38), (1, .int x1), (2, .int x2), (3, .int x3)] [.int s0] (wC L d e) Qo := by
  unfold Machine_handleBlock_11 at h
  refine st_go 2 (pc' := 14) (lo' := [(4, .int s0), (0, .ref 38), (1, .int x1), (2, .int x2), (3, .int x3)]) (st' := [.int x1]) rfl ?_
  by_cases hc_2 : x1 = 0
  · have h := Eq.mp (if_pos hc_2) h
    refine st_if (t := 17) (b := false) rfl (decide_eq_false (fun z => z hc_2)) rfl ?_
    refine st_go 2 (pc' := 20) (lo' := [(4, .int s0), (0, .ref 38), (1, .int x1), (2, .int x2), (3, .int x3)]) (st' := [.int s0, .ref 38]) rfl ?_
    refine st_calli (k' := 124) (as := [.ref 38, .int s0]) (rest := []) (lo' := [(0, .ref 38), (1, .int s0)]) (wf := fun d => wC L d e) rfl rfl rfl ?_
    refine tMachine_moveBlock (fun r_4 d_3 h => ⟨r_4, d_3, rfl, rfl, ?_⟩) s0 d h
    refine st_go 2 (pc' := 62) (lo' := [(5, .int r_4), (4, .int s0), (0, .ref 38), (1, .int x1), (2, .int x2), (3, .int x3)]) (st' := []) rfl ?_
    refine vmWp.sub (lo' := [(0, .ref 38), (2, .int x2), (3, .int x3), (5, .int r_4)]) ⟨rfl, rfl, rfl, rfl, trivial⟩ ?_
    exact tMachine_handleBlock_62 hQ x2 x3 r_4 d_3 h
  · have h := Eq.mp (if_neg hc_2) h
    refine st_if (t := 28) (b := true) rfl (decide_eq_true hc_2) rfl ?_
    refine st_go 2 (pc' := 30) (lo' := [(4, .int s0), (0, .ref 38), (1, .int x1), (2, .int x2), (3, .int x3)]) (st' := [.int 1, .int x1]) rfl ?_
    by_cases hc_8 : x1 = 1
    · have h := Eq.mp (if_pos hc_8) h
      refine st_icmp (t := 33) (b := false) rfl (decide_eq_false (fun z => z hc_8)) rfl ?_
      refine st_go 2 (pc' := 36) (lo' := [(4, .int s0), (0, .ref 38), (1, .int x1), (2, .int x2), (3, .int x3)]) (st' := [.int s0, .ref 38]) rfl ?_
      refine st_calli (k' := 125) (as := [.ref 38, .int s0]) (rest := []) (lo' := [(0, .ref 38), (1, .int s0)]) (wf := fun d => wC L d e) rfl rfl rfl ?_
      refine tMachine_compareBlock (fun r_10 d_9 h => ⟨r_10, d_9, rfl, rfl, ?_⟩) s0 d h
      refine st_go 2 (pc' := 62) (lo' := [(5, .int r_10), (4, .int s0), (0, .ref 38), (1, .int x1), (2, .int x2), (3, .int x3)]) (st' := []) rfl ?_
      refine vmWp.sub (lo' := [(0, .ref 38), (2, .int x2), (3, .int x3), (5, .int r_10)]) ⟨rfl, rfl, rfl, rfl, trivial⟩ ?_
      exact tMachine_handleBlock_62 hQ x2 x3 r_10 d_9 h
    · have h := Eq.mp (if_neg hc_8) h
      refine st_icmp (t := 44) (b := true) rfl (decide_eq_true hc_8) rfl ?_
      refine st_go 3 (pc' := 47) (lo' := [(4, .int s0), (0, .ref 38), (1, .int x1), (2, .int x2), (3, .int x3)]) (st' := [.int 3, .int x1, .ref 38]) rfl ?_
      by_cases hc_11 : x1 = 3
      · have h := Eq.mp (if_pos hc_11) h
        refine st_icmp (t := 50) (b := false) rfl (decide_eq_false (fun z => z hc_11)) rfl ?_
        refine st_go 2 (pc' := 55) (lo' := [(4, .int s0), (0, .ref 38), (1, .int x1), (2, .int x2), (3, .int x3)]) (st' := [.int 1, .ref 38]) rfl ?_
        refine vmWp.sub (lo' := [(0, .ref 38), (2, .int x2), (3, .int x3), (4, .int s0)]) ⟨rfl, rfl, rfl, rfl, trivial⟩ ?_
        exact tMachine_handleBlock_55 hQ x2 x3 s0 1 d h
      · have h := Eq.mp (if_neg hc_11) h
        refine st_icmp (t := 54) (b := true) rfl (decide_eq_true hc_11) rfl ?_
        refine st_go 1 (pc' := 55) (lo' := [(4, .int s0), (0, .ref 38), (1, .int x1), (2, .int x2), (3, .int x3)]) (st' := [.int 0, .ref 38]) rfl ?_
        refine vmWp.sub (lo' := [(0, .ref 38), (2, .int x2), (3, .int x3), (4, .int s0)]) ⟨rfl, rfl, rfl, rfl, trivial⟩ ?_
        exact tMachine_handleBlock_55 hQ x2 x3 s0 0 d h
set_option maxRecDepth 100000 in
def Machine_handleBlock (x1 : Int32) (x2 : Int32) (x3 : Int32) (d : vmD) (Q : vmD → Prop) : Prop :=
  if (x2 - x2 / 2 * 2) = 0 then
  (Machine_handleBlock_11 x1 x2 x3 1 d Q)
  else
  (Machine_handleBlock_11 x1 x2 x3 (-1) d Q)
set_option maxRecDepth 100000 in
set_option maxHeartbeats 4000000 in
theorem tMachine_handleBlock {L : Nat} {e : vmD} {Qo : Option Value → vmW → Prop} {Q : vmD → Prop} (hQ : ∀ d, Q d → Qo none (wC L d e)) (x1 : Int32) (x2 : Int32) (x3 : Int32) (d : vmD) (h : Machine_handleBlock x1 x2 x3 d Q) : vmWp 121 0 [(0, .ref 38), (1, .int x1), (2, .int x2), (3, .int x3)] [] (wC L d e) Qo := by
  unfold Machine_handleBlock at h
  refine st_go 2 (pc' := 2) (lo' := [(0, .ref 38), (1, .int x1), (2, .int x2), (3, .int x3)]) (st' := [.int 2, .int x2]) rfl ?_
  refine st_irem rfl (by decide) ?_
  by_cases hc_1 : (x2 - x2 / 2 * 2) = 0
  · have h := Eq.mp (if_pos hc_1) h
    refine st_if (t := 6) (b := false) rfl (decide_eq_false (fun z => z hc_1)) rfl ?_
    refine st_go 2 (pc' := 11) (lo' := [(0, .ref 38), (1, .int x1), (2, .int x2), (3, .int x3)]) (st' := [.int 1]) rfl ?_
    refine vmWp.sub (lo' := [(0, .ref 38), (1, .int x1), (2, .int x2), (3, .int x3)]) ⟨rfl, rfl, rfl, rfl, trivial⟩ ?_
    exact tMachine_handleBlock_11 hQ x1 x2 x3 1 d h
  · have h := Eq.mp (if_neg hc_1) h
    refine st_if (t := 10) (b := true) rfl (decide_eq_true hc_1) rfl ?_
    refine st_go 1 (pc' := 11) (lo' := [(0, .ref 38), (1, .int x1), (2, .int x2), (3, .int x3)]) (st' := [.int (-1)]) rfl ?_
    refine vmWp.sub (lo' := [(0, .ref 38), (1, .int x1), (2, .int x2), (3, .int x3)]) ⟨rfl, rfl, rfl, rfl, trivial⟩ ?_
    exact tMachine_handleBlock_11 hQ x1 x2 x3 (-1) d h
set_option maxRecDepth 100000 in
def Machine_handleBit_68 (x3 : Int32) (x4 : Int32) (s0 : Int32) (d : vmD) (Q : vmD → Prop) : Prop :=
  Machine_flags d fun r_12 d_11 =>
  Machine_setFlags (((((r_12 &&& 1) ||| ((x3 &&& x4) &&& 128)) ||| (x3 &&& 40)) ||| 16) ||| s0) d_11 fun d_13 =>
  Q d_13
set_option maxRecDepth 100000 in
set_option maxHeartbeats 4000000 in
theorem tMachine_handleBit_68 {L : Nat} {e : vmD} {Qo : Option Value → vmW → Prop} {Q : vmD → Prop} (hQ : ∀ d, Q d → Qo none (wC L d e)) (x3 : Int32) (x4 : Int32) (s0 : Int32) (d : vmD) (h : Machine_handleBit_68 x3 x4 s0 d Q) : vmWp 116 68 [(0, .ref 38), (3, .int x3), (4, .int x4)] [.int s0] (wC L d e) Qo := by
  unfold Machine_handleBit_68 at h
  refine st_go 3 (pc' := 72) (lo' := [(5, .int s0), (0, .ref 38), (3, .int x3), (4, .int x4)]) (st' := [.ref 38, .ref 38]) rfl ?_
  refine st_calli (k' := 88) (as := [.ref 38]) (rest := [.ref 38]) (lo' := [(0, .ref 38)]) (wf := fun d => wC L d e) rfl rfl rfl ?_
  refine tMachine_flags (fun r_12 d_11 h => ⟨r_12, d_11, rfl, rfl, ?_⟩) d h
  refine st_go 16 (pc' := 97) (lo' := [(5, .int s0), (0, .ref 38), (3, .int x3), (4, .int x4)]) (st' := [.int (((((r_12 &&& 1) ||| ((x3 &&& x4) &&& 128)) ||| (x3 &&& 40)) ||| 16) ||| s0), .ref 38]) rfl ?_
  refine st_callv (k' := 89) (as := [.ref 38, .int (((((r_12 &&& 1) ||| ((x3 &&& x4) &&& 128)) ||| (x3 &&& 40)) ||| 16) ||| s0)]) (rest := []) (lo' := [(0, .ref 38), (1, .int (((((r_12 &&& 1) ||| ((x3 &&& x4) &&& 128)) ||| (x3 &&& 40)) ||| 16) ||| s0))]) (wf := fun d => wC L d e) rfl rfl rfl ?_
  refine tMachine_setFlags (fun d_13 h => ⟨d_13, rfl, rfl, ?_⟩) (((((r_12 &&& 1) ||| ((x3 &&& x4) &&& 128)) ||| (x3 &&& 40)) ||| 16) ||| s0) d_11 h
  exact st_retV rfl rfl (hQ _ h)
set_option maxRecDepth 100000 in
def Machine_handleBit (x1 : Int32) (x2 : Int32) (d : vmD) (Q : vmD → Prop) : Prop :=
  Machine_load x2 d fun r_2 d_1 =>
  Instruction_number d_1 fun r_4 d_3 =>
  bnd ((1 : Int32) <<< (r_4 &&& 31)) fun x4_5 =>
  if x1 = 75 then
  (Machine_save x2 (r_2 &&& (x4_5 ^^^ (-1))) d_3 fun d_7 =>
  Q d_7)
  else
  (if x1 = 76 then
  (Machine_save x2 (r_2 ||| x4_5) d_3 fun d_9 =>
  Q d_9)
  else
  (if (r_2 &&& x4_5) = 0 then
  (Machine_handleBit_68 r_2 x4_5 68 d_3 Q)
  else
  (Machine_handleBit_68 r_2 x4_5 0 d_3 Q)))
set_option maxRecDepth 100000 in
set_option maxHeartbeats 4000000 in
theorem tMachine_handleBit {L : Nat} {e : vmD} {Qo : Option Value → vmW → Prop} {Q : vmD → Prop} (hQ : ∀ d, Q d → Qo none (wC L d e)) (x1 : Int32) (x2 : Int32) (d : vmD) (h : Machine_handleBit x1 x2 d Q) : vmWp 116 0 [(0, .ref 38), (1, .int x1), (2, .int x2)] [] (wC L d e) Qo := by
  unfold Machine_handleBit at h
  refine st_go 2 (pc' := 2) (lo' := [(0, .ref 38), (1, .int x1), (2, .int x2)]) (st' := [.int x2, .ref 38]) rfl ?_
  refine st_calli (k' := 92) (as := [.ref 38, .int x2]) (rest := []) (lo' := [(0, .ref 38), (1, .int x2)]) (wf := fun d => wC L d e) rfl rfl rfl ?_
  refine tMachine_load (fun r_2 d_1 h => ⟨r_2, d_1, rfl, rfl, ?_⟩) x2 d h
  refine st_go 4 (pc' := 11) (lo' := [(3, .int r_2), (0, .ref 38), (1, .int x1), (2, .int x2)]) (st' := [.ref 19, .int 1]) rfl ?_
  refine st_calli (k' := 68) (as := [.ref 19]) (rest := [.int 1]) (lo' := [(0, .ref 19)]) (wf := fun d => wC L d e) rfl rfl rfl ?_
  refine tInstruction_number (fun r_4 d_3 h => ⟨r_4, d_3, rfl, rfl, ?_⟩) d_1 h
  refine st_go 2 (pc' := 17) (lo' := [(4, .int ((1 : Int32) <<< (r_4 &&& 31))), (3, .int r_2), (0, .ref 38), (1, .int x1), (2, .int x2)]) (st' := []) rfl ?_
  refine st_locI (fun x4_5 hy_x4_5 => ?_)
  have h := h x4_5 hy_x4_5
  refine st_go 2 (pc' := 20) (lo' := [(4, .int x4_5), (3, .int r_2), (0, .ref 38), (1, .int x1), (2, .int x2)]) (st' := [.int 75, .int x1]) rfl ?_
  by_cases hc_6 : x1 = 75
  · have h := Eq.mp (if_pos hc_6) h
    refine st_icmp (t := 23) (b := false) rfl (decide_eq_false (fun z => z hc_6)) rfl ?_
    refine st_go 7 (pc' := 31) (lo' := [(4, .int x4_5), (3, .int r_2), (0, .ref 38), (1, .int x1), (2, .int x2)]) (st' := [.int (r_2 &&& (x4_5 ^^^ (-1))), .int x2, .ref 38]) rfl ?_
    refine st_callv (k' := 93) (as := [.ref 38, .int x2, .int (r_2 &&& (x4_5 ^^^ (-1)))]) (rest := []) (lo' := [(0, .ref 38), (1, .int x2), (2, .int (r_2 &&& (x4_5 ^^^ (-1))))]) (wf := fun d => wC L d e) rfl rfl rfl ?_
    refine tMachine_save (fun d_7 h => ⟨d_7, rfl, rfl, ?_⟩) x2 (r_2 &&& (x4_5 ^^^ (-1))) d_3 h
    refine st_go 1 (pc' := 100) (lo' := [(4, .int x4_5), (3, .int r_2), (0, .ref 38), (1, .int x1), (2, .int x2)]) (st' := []) rfl ?_
    exact st_retV rfl rfl (hQ _ h)
  · have h := Eq.mp (if_neg hc_6) h
    refine st_icmp (t := 37) (b := true) rfl (decide_eq_true hc_6) rfl ?_
    refine st_go 2 (pc' := 40) (lo' := [(4, .int x4_5), (3, .int r_2), (0, .ref 38), (1, .int x1), (2, .int x2)]) (st' := [.int 76, .int x1]) rfl ?_
    by_cases hc_8 : x1 = 76
    · have h := Eq.mp (if_pos hc_8) h
      refine st_icmp (t := 43) (b := false) rfl (decide_eq_false (fun z => z hc_8)) rfl ?_
      refine st_go 5 (pc' := 49) (lo' := [(4, .int x4_5), (3, .int r_2), (0, .ref 38), (1, .int x1), (2, .int x2)]) (st' := [.int (r_2 ||| x4_5), .int x2, .ref 38]) rfl ?_
      refine st_callv (k' := 93) (as := [.ref 38, .int x2, .int (r_2 ||| x4_5)]) (rest := []) (lo' := [(0, .ref 38), (1, .int x2), (2, .int (r_2 ||| x4_5))]) (wf := fun d => wC L d e) rfl rfl rfl ?_
      refine tMachine_save (fun d_9 h => ⟨d_9, rfl, rfl, ?_⟩) x2 (r_2 ||| x4_5) d_3 h
      refine st_go 1 (pc' := 100) (lo' := [(4, .int x4_5), (3, .int r_2), (0, .ref 38), (1, .int x1), (2, .int x2)]) (st' := []) rfl ?_
      exact st_retV rfl rfl (hQ _ h)
    · have h := Eq.mp (if_neg hc_8) h
      refine st_icmp (t := 55) (b := true) rfl (decide_eq_true hc_8) rfl ?_
      refine st_go 3 (pc' := 59) (lo' := [(4, .int x4_5), (3, .int r_2), (0, .ref 38), (1, .int x1), (2, .int x2)]) (st' := [.int (r_2 &&& x4_5)]) rfl ?_
      by_cases hc_10 : (r_2 &&& x4_5) = 0
      · have h := Eq.mp (if_pos hc_10) h
        refine st_if (t := 62) (b := false) rfl (decide_eq_false (fun z => z hc_10)) rfl ?_
        refine st_go 2 (pc' := 68) (lo' := [(4, .int x4_5), (3, .int r_2), (0, .ref 38), (1, .int x1), (2, .int x2)]) (st' := [.int 68]) rfl ?_
        refine vmWp.sub (lo' := [(0, .ref 38), (3, .int r_2), (4, .int x4_5)]) ⟨rfl, rfl, rfl, trivial⟩ ?_
        exact tMachine_handleBit_68 hQ r_2 x4_5 68 d_3 h
      · have h := Eq.mp (if_neg hc_10) h
        refine st_if (t := 67) (b := true) rfl (decide_eq_true hc_10) rfl ?_
        refine st_go 1 (pc' := 68) (lo' := [(4, .int x4_5), (3, .int r_2), (0, .ref 38), (1, .int x1), (2, .int x2)]) (st' := [.int 0]) rfl ?_
        refine vmWp.sub (lo' := [(0, .ref 38), (3, .int r_2), (4, .int x4_5)]) ⟨rfl, rfl, rfl, trivial⟩ ?_
        exact tMachine_handleBit_68 hQ r_2 x4_5 0 d_3 h
set_option maxRecDepth 100000 in
def Machine_moved (x1 : Int32) (x2 : Int32) (d : vmD) (Q : Int32 → vmD → Prop) : Prop :=
  Machine_flags d fun r_2 d_1 =>
  bnd (r_2 &&& 1) fun x3_3 =>
  if x1 = 0 then
  (Q (((x2 <<< ((1 : Int32) &&& 31)) ||| (x2 >>> ((7 : Int32) &&& 31))) &&& 255) d_1)
  else
  if x1 = 1 then
  (Q ((x2 >>> ((1 : Int32) &&& 31)) ||| ((x2 <<< ((7 : Int32) &&& 31)) &&& 128)) d_1)
  else
  if x1 = 2 then
  (Q (((x2 <<< ((1 : Int32) &&& 31)) ||| x3_3) &&& 255) d_1)
  else
  if x1 = 3 then
  (Q ((x2 >>> ((1 : Int32) &&& 31)) ||| (x3_3 <<< ((7 : Int32) &&& 31))) d_1)
  else
  if x1 = 4 then
  (Q ((x2 <<< ((1 : Int32) &&& 31)) &&& 255) d_1)
  else
  if x1 = 5 then
  (Q ((x2 >>> ((1 : Int32) &&& 31)) ||| (x2 &&& 128)) d_1)
  else
  (Q (x2 >>> ((1 : Int32) &&& 31)) d_1)
set_option maxRecDepth 100000 in
set_option maxHeartbeats 4000000 in
theorem tMachine_moved {L : Nat} {e : vmD} {Qo : Option Value → vmW → Prop} {Q : Int32 → vmD → Prop} (hQ : ∀ r d, Q r d → Qo (some (.int r)) (wC L d e)) (x1 : Int32) (x2 : Int32) (d : vmD) (h : Machine_moved x1 x2 d Q) : vmWp 112 0 [(0, .ref 38), (1, .int x1), (2, .int x2)] [] (wC L d e) Qo := by
  unfold Machine_moved at h
  refine st_go 1 (pc' := 1) (lo' := [(0, .ref 38), (1, .int x1), (2, .int x2)]) (st' := [.ref 38]) rfl ?_
  refine st_calli (k' := 88) (as := [.ref 38]) (rest := []) (lo' := [(0, .ref 38)]) (wf := fun d => wC L d e) rfl rfl rfl ?_
  refine tMachine_flags (fun r_2 d_1 h => ⟨r_2, d_1, rfl, rfl, ?_⟩) d h
  refine st_go 3 (pc' := 7) (lo' := [(3, .int (r_2 &&& 1)), (0, .ref 38), (1, .int x1), (2, .int x2)]) (st' := []) rfl ?_
  refine st_locI (fun x3_3 hy_x3_3 => ?_)
  have h := h x3_3 hy_x3_3
  refine st_go 1 (pc' := 8) (lo' := [(3, .int x3_3), (0, .ref 38), (1, .int x1), (2, .int x2)]) (st' := [.int x1]) rfl ?_
  by_cases hc_4 : x1 = 0
  · have h := Eq.mp (if_pos hc_4) h
    refine st_tab (t := 48) rfl (by rw [hc_4]; rfl) ?_
    refine st_go 9 (pc' := 60) (lo' := [(3, .int x3_3), (0, .ref 38), (1, .int x1), (2, .int x2)]) (st' := [.int (((x2 <<< ((1 : Int32) &&& 31)) ||| (x2 >>> ((7 : Int32) &&& 31))) &&& 255)]) rfl ?_
    exact st_retI rfl rfl (hQ _ _ h)
  · have h := Eq.mp (if_neg hc_4) h
    by_cases hc_5 : x1 = 1
    · have h := Eq.mp (if_pos hc_5) h
      refine st_tab (t := 61) rfl (by rw [hc_5]; rfl) ?_
      refine st_go 9 (pc' := 73) (lo' := [(3, .int x3_3), (0, .ref 38), (1, .int x1), (2, .int x2)]) (st' := [.int ((x2 >>> ((1 : Int32) &&& 31)) ||| ((x2 <<< ((7 : Int32) &&& 31)) &&& 128))]) rfl ?_
      exact st_retI rfl rfl (hQ _ _ h)
    · have h := Eq.mp (if_neg hc_5) h
      by_cases hc_6 : x1 = 2
      · have h := Eq.mp (if_pos hc_6) h
        refine st_tab (t := 74) rfl (by rw [hc_6]; rfl) ?_
        refine st_go 7 (pc' := 83) (lo' := [(3, .int x3_3), (0, .ref 38), (1, .int x1), (2, .int x2)]) (st' := [.int (((x2 <<< ((1 : Int32) &&& 31)) ||| x3_3) &&& 255)]) rfl ?_
        exact st_retI rfl rfl (hQ _ _ h)
      · have h := Eq.mp (if_neg hc_6) h
        by_cases hc_7 : x1 = 3
        · have h := Eq.mp (if_pos hc_7) h
          refine st_tab (t := 84) rfl (by rw [hc_7]; rfl) ?_
          refine st_go 7 (pc' := 92) (lo' := [(3, .int x3_3), (0, .ref 38), (1, .int x1), (2, .int x2)]) (st' := [.int ((x2 >>> ((1 : Int32) &&& 31)) ||| (x3_3 <<< ((7 : Int32) &&& 31)))]) rfl ?_
          exact st_retI rfl rfl (hQ _ _ h)
        · have h := Eq.mp (if_neg hc_7) h
          by_cases hc_8 : x1 = 4
          · have h := Eq.mp (if_pos hc_8) h
            refine st_tab (t := 93) rfl (by rw [hc_8]; rfl) ?_
            refine st_go 5 (pc' := 100) (lo' := [(3, .int x3_3), (0, .ref 38), (1, .int x1), (2, .int x2)]) (st' := [.int ((x2 <<< ((1 : Int32) &&& 31)) &&& 255)]) rfl ?_
            exact st_retI rfl rfl (hQ _ _ h)
          · have h := Eq.mp (if_neg hc_8) h
            by_cases hc_9 : x1 = 5
            · have h := Eq.mp (if_pos hc_9) h
              refine st_tab (t := 101) rfl (by rw [hc_9]; rfl) ?_
              refine st_go 7 (pc' := 110) (lo' := [(3, .int x3_3), (0, .ref 38), (1, .int x1), (2, .int x2)]) (st' := [.int ((x2 >>> ((1 : Int32) &&& 31)) ||| (x2 &&& 128))]) rfl ?_
              exact st_retI rfl rfl (hQ _ _ h)
            · have h := Eq.mp (if_neg hc_9) h
              refine st_tab (t := 111) rfl (tab_def rfl (by decide) rfl (by
                intro j hj hx
                have hj : j < 6 := hj
                rcases (j = 0 ∨ j = 1 ∨ j = 2 ∨ j = 3 ∨ j = 4 ∨ j = 5 : Prop) |> fun _ => (show j = 0 ∨ j = 1 ∨ j = 2 ∨ j = 3 ∨ j = 4 ∨ j = 5 by omega) with rfl | rfl | rfl | rfl | rfl | rfl <;> first | rfl | exact absurd hx hc_4 | exact absurd hx hc_5 | exact absurd hx hc_6 | exact absurd hx hc_7 | exact absurd hx hc_8 | exact absurd hx hc_9)) ?_
              refine st_go 3 (pc' := 114) (lo' := [(3, .int x3_3), (0, .ref 38), (1, .int x1), (2, .int x2)]) (st' := [.int (x2 >>> ((1 : Int32) &&& 31))]) rfl ?_
              exact st_retI rfl rfl (hQ _ _ h)
set_option maxRecDepth 100000 in
def Machine_movedOut_14 (x1 : Int32) (d : vmD) (Q : Int32 → vmD → Prop) : Prop :=
  Q (x1 >>> ((7 : Int32) &&& 31)) d
set_option maxRecDepth 100000 in
set_option maxHeartbeats 4000000 in
theorem tMachine_movedOut_14 {L : Nat} {e : vmD} {Qo : Option Value → vmW → Prop} {Q : Int32 → vmD → Prop} (hQ : ∀ r d, Q r d → Qo (some (.int r)) (wC L d e)) (x1 : Int32) (d : vmD) (h : Machine_movedOut_14 x1 d Q) : vmWp 113 14 [(1, .int x1)] [] (wC L d e) Qo := by
  unfold Machine_movedOut_14 at h
  refine st_go 4 (pc' := 24) (lo' := [(1, .int x1)]) (st' := [.int (x1 >>> ((7 : Int32) &&& 31))]) rfl ?_
  exact st_retI rfl rfl (hQ _ _ h)
set_option maxRecDepth 100000 in
def Machine_movedOut (x0 : Int32) (x1 : Int32) (d : vmD) (Q : Int32 → vmD → Prop) : Prop :=
  if x0 = 0 then
  (Machine_movedOut_14 x1 d Q)
  else
  (if x0 = 2 then
  (Machine_movedOut_14 x1 d Q)
  else
  (if x0 = 4 then
  (Machine_movedOut_14 x1 d Q)
  else
  (Q (x1 &&& 1) d)))
set_option maxRecDepth 100000 in
set_option maxHeartbeats 4000000 in
theorem tMachine_movedOut {L : Nat} {e : vmD} {Qo : Option Value → vmW → Prop} {Q : Int32 → vmD → Prop} (hQ : ∀ r d, Q r d → Qo (some (.int r)) (wC L d e)) (x0 : Int32) (x1 : Int32) (d : vmD) (h : Machine_movedOut x0 x1 d Q) : vmWp 113 0 [(0, .int x0), (1, .int x1)] [] (wC L d e) Qo := by
  unfold Machine_movedOut at h
  refine st_go 1 (pc' := 1) (lo' := [(0, .int x0), (1, .int x1)]) (st' := [.int x0]) rfl ?_
  by_cases hc_1 : x0 = 0
  · have h := Eq.mp (if_pos hc_1) h
    refine st_if (t := 14) (b := true) rfl (decide_eq_true hc_1) rfl ?_
    refine vmWp.sub (lo' := [(1, .int x1)]) ⟨rfl, trivial⟩ ?_
    exact tMachine_movedOut_14 hQ x1 d h
  · have h := Eq.mp (if_neg hc_1) h
    refine st_if (t := 4) (b := false) rfl (decide_eq_false hc_1) rfl ?_
    refine st_go 2 (pc' := 6) (lo' := [(0, .int x0), (1, .int x1)]) (st' := [.int 2, .int x0]) rfl ?_
    by_cases hc_2 : x0 = 2
    · have h := Eq.mp (if_pos hc_2) h
      refine st_icmp (t := 14) (b := true) rfl (decide_eq_true hc_2) rfl ?_
      refine vmWp.sub (lo' := [(1, .int x1)]) ⟨rfl, trivial⟩ ?_
      exact tMachine_movedOut_14 hQ x1 d h
    · have h := Eq.mp (if_neg hc_2) h
      refine st_icmp (t := 9) (b := false) rfl (decide_eq_false hc_2) rfl ?_
      refine st_go 2 (pc' := 11) (lo' := [(0, .int x0), (1, .int x1)]) (st' := [.int 4, .int x0]) rfl ?_
      by_cases hc_3 : x0 = 4
      · have h := Eq.mp (if_pos hc_3) h
        refine st_icmp (t := 14) (b := false) rfl (decide_eq_false (fun z => z hc_3)) rfl ?_
        refine vmWp.sub (lo' := [(1, .int x1)]) ⟨rfl, trivial⟩ ?_
        exact tMachine_movedOut_14 hQ x1 d h
      · have h := Eq.mp (if_neg hc_3) h
        refine st_icmp (t := 21) (b := true) rfl (decide_eq_true hc_3) rfl ?_
        refine st_go 3 (pc' := 24) (lo' := [(0, .int x0), (1, .int x1)]) (st' := [.int (x1 &&& 1)]) rfl ?_
        exact st_retI rfl rfl (hQ _ _ h)
set_option maxRecDepth 100000 in
def Machine_turn (x1 : Int32) (x2 : Int32) (d : vmD) (Q : vmD → Prop) : Prop :=
  Machine_load x2 d fun r_2 d_1 =>
  Machine_moved x1 r_2 d_1 fun r_4 d_3 =>
  Machine_save x2 r_4 d_3 fun d_5 =>
  Machine_signsOf r_4 d_5 fun r_7 d_6 =>
  Machine_parityOf r_4 d_6 fun r_9 d_8 =>
  Machine_movedOut x1 r_2 d_8 fun r_11 d_10 =>
  Machine_setFlags ((r_7 ||| r_9) ||| r_11) d_10 fun d_12 =>
  Q d_12
set_option maxRecDepth 100000 in
set_option maxHeartbeats 4000000 in
theorem tMachine_turn {L : Nat} {e : vmD} {Qo : Option Value → vmW → Prop} {Q : vmD → Prop} (hQ : ∀ d, Q d → Qo none (wC L d e)) (x1 : Int32) (x2 : Int32) (d : vmD) (h : Machine_turn x1 x2 d Q) : vmWp 115 0 [(0, .ref 38), (1, .int x1), (2, .int x2)] [] (wC L d e) Qo := by
  unfold Machine_turn at h
  refine st_go 2 (pc' := 2) (lo' := [(0, .ref 38), (1, .int x1), (2, .int x2)]) (st' := [.int x2, .ref 38]) rfl ?_
  refine st_calli (k' := 92) (as := [.ref 38, .int x2]) (rest := []) (lo' := [(0, .ref 38), (1, .int x2)]) (wf := fun d => wC L d e) rfl rfl rfl ?_
  refine tMachine_load (fun r_2 d_1 h => ⟨r_2, d_1, rfl, rfl, ?_⟩) x2 d h
  refine st_go 4 (pc' := 9) (lo' := [(3, .int r_2), (0, .ref 38), (1, .int x1), (2, .int x2)]) (st' := [.int r_2, .int x1, .ref 38]) rfl ?_
  refine st_calli (k' := 112) (as := [.ref 38, .int x1, .int r_2]) (rest := []) (lo' := [(0, .ref 38), (1, .int x1), (2, .int r_2)]) (wf := fun d => wC L d e) rfl rfl rfl ?_
  refine tMachine_moved (fun r_4 d_3 h => ⟨r_4, d_3, rfl, rfl, ?_⟩) x1 r_2 d_1 h
  refine st_go 4 (pc' := 18) (lo' := [(4, .int r_4), (3, .int r_2), (0, .ref 38), (1, .int x1), (2, .int x2)]) (st' := [.int r_4, .int x2, .ref 38]) rfl ?_
  refine st_callv (k' := 93) (as := [.ref 38, .int x2, .int r_4]) (rest := []) (lo' := [(0, .ref 38), (1, .int x2), (2, .int r_4)]) (wf := fun d => wC L d e) rfl rfl rfl ?_
  refine tMachine_save (fun d_5 h => ⟨d_5, rfl, rfl, ?_⟩) x2 r_4 d_3 h
  refine st_go 2 (pc' := 24) (lo' := [(4, .int r_4), (3, .int r_2), (0, .ref 38), (1, .int x1), (2, .int x2)]) (st' := [.int r_4, .ref 38]) rfl ?_
  refine st_calli (k' := 90) (as := [.int r_4]) (rest := [.ref 38]) (lo' := [(0, .int r_4)]) (wf := fun d => wC L d e) rfl rfl rfl ?_
  refine tMachine_signsOf (fun r_7 d_6 h => ⟨r_7, d_6, rfl, rfl, ?_⟩) r_4 d_5 h
  refine st_go 1 (pc' := 29) (lo' := [(4, .int r_4), (3, .int r_2), (0, .ref 38), (1, .int x1), (2, .int x2)]) (st' := [.int r_4, .int r_7, .ref 38]) rfl ?_
  refine st_calli (k' := 91) (as := [.int r_4]) (rest := [.int r_7, .ref 38]) (lo' := [(0, .int r_4)]) (wf := fun d => wC L d e) rfl rfl rfl ?_
  refine tMachine_parityOf (fun r_9 d_8 h => ⟨r_9, d_8, rfl, rfl, ?_⟩) r_4 d_6 h
  refine st_go 3 (pc' := 35) (lo' := [(4, .int r_4), (3, .int r_2), (0, .ref 38), (1, .int x1), (2, .int x2)]) (st' := [.int r_2, .int x1, .int (r_7 ||| r_9), .ref 38]) rfl ?_
  refine st_calli (k' := 113) (as := [.int x1, .int r_2]) (rest := [.int (r_7 ||| r_9), .ref 38]) (lo' := [(0, .int x1), (1, .int r_2)]) (wf := fun d => wC L d e) rfl rfl rfl ?_
  refine tMachine_movedOut (fun r_11 d_10 h => ⟨r_11, d_10, rfl, rfl, ?_⟩) x1 r_2 d_8 h
  refine st_go 1 (pc' := 39) (lo' := [(4, .int r_4), (3, .int r_2), (0, .ref 38), (1, .int x1), (2, .int x2)]) (st' := [.int ((r_7 ||| r_9) ||| r_11), .ref 38]) rfl ?_
  refine st_callv (k' := 89) (as := [.ref 38, .int ((r_7 ||| r_9) ||| r_11)]) (rest := []) (lo' := [(0, .ref 38), (1, .int ((r_7 ||| r_9) ||| r_11))]) (wf := fun d => wC L d e) rfl rfl rfl ?_
  refine tMachine_setFlags (fun d_12 h => ⟨d_12, rfl, rfl, ?_⟩) ((r_7 ||| r_9) ||| r_11) d_10 h
  exact st_retV rfl rfl (hQ _ h)
set_option maxRecDepth 100000 in
def Machine_turnA (x1 : Int32) (d : vmD) (Q : vmD → Prop) : Prop :=
  Machine_load 8 d fun r_2 d_1 =>
  Machine_moved x1 r_2 d_1 fun r_4 d_3 =>
  Machine_save 8 r_4 d_3 fun d_5 =>
  Machine_flags d_5 fun r_7 d_6 =>
  Machine_movedOut x1 r_2 d_6 fun r_9 d_8 =>
  Machine_setFlags (((r_7 &&& 196) ||| (r_4 &&& 40)) ||| r_9) d_8 fun d_10 =>
  Q d_10
set_option maxRecDepth 100000 in
set_option maxHeartbeats 4000000 in
theorem tMachine_turnA {L : Nat} {e : vmD} {Qo : Option Value → vmW → Prop} {Q : vmD → Prop} (hQ : ∀ d, Q d → Qo none (wC L d e)) (x1 : Int32) (d : vmD) (h : Machine_turnA x1 d Q) : vmWp 114 0 [(0, .ref 38), (1, .int x1)] [] (wC L d e) Qo := by
  unfold Machine_turnA at h
  refine st_go 2 (pc' := 3) (lo' := [(0, .ref 38), (1, .int x1)]) (st' := [.int 8, .ref 38]) rfl ?_
  refine st_calli (k' := 92) (as := [.ref 38, .int 8]) (rest := []) (lo' := [(0, .ref 38), (1, .int 8)]) (wf := fun d => wC L d e) rfl rfl rfl ?_
  refine tMachine_load (fun r_2 d_1 h => ⟨r_2, d_1, rfl, rfl, ?_⟩) 8 d h
  refine st_go 4 (pc' := 10) (lo' := [(2, .int r_2), (0, .ref 38), (1, .int x1)]) (st' := [.int r_2, .int x1, .ref 38]) rfl ?_
  refine st_calli (k' := 112) (as := [.ref 38, .int x1, .int r_2]) (rest := []) (lo' := [(0, .ref 38), (1, .int x1), (2, .int r_2)]) (wf := fun d => wC L d e) rfl rfl rfl ?_
  refine tMachine_moved (fun r_4 d_3 h => ⟨r_4, d_3, rfl, rfl, ?_⟩) x1 r_2 d_1 h
  refine st_go 4 (pc' := 18) (lo' := [(3, .int r_4), (2, .int r_2), (0, .ref 38), (1, .int x1)]) (st' := [.int r_4, .int 8, .ref 38]) rfl ?_
  refine st_callv (k' := 93) (as := [.ref 38, .int 8, .int r_4]) (rest := []) (lo' := [(0, .ref 38), (1, .int 8), (2, .int r_4)]) (wf := fun d => wC L d e) rfl rfl rfl ?_
  refine tMachine_save (fun d_5 h => ⟨d_5, rfl, rfl, ?_⟩) 8 r_4 d_3 h
  refine st_go 2 (pc' := 23) (lo' := [(3, .int r_4), (2, .int r_2), (0, .ref 38), (1, .int x1)]) (st' := [.ref 38, .ref 38]) rfl ?_
  refine st_calli (k' := 88) (as := [.ref 38]) (rest := [.ref 38]) (lo' := [(0, .ref 38)]) (wf := fun d => wC L d e) rfl rfl rfl ?_
  refine tMachine_flags (fun r_7 d_6 h => ⟨r_7, d_6, rfl, rfl, ?_⟩) d_5 h
  refine st_go 8 (pc' := 37) (lo' := [(3, .int r_4), (2, .int r_2), (0, .ref 38), (1, .int x1)]) (st' := [.int r_2, .int x1, .int ((r_7 &&& 196) ||| (r_4 &&& 40)), .ref 38]) rfl ?_
  refine st_calli (k' := 113) (as := [.int x1, .int r_2]) (rest := [.int ((r_7 &&& 196) ||| (r_4 &&& 40)), .ref 38]) (lo' := [(0, .int x1), (1, .int r_2)]) (wf := fun d => wC L d e) rfl rfl rfl ?_
  refine tMachine_movedOut (fun r_9 d_8 h => ⟨r_9, d_8, rfl, rfl, ?_⟩) x1 r_2 d_6 h
  refine st_go 1 (pc' := 41) (lo' := [(3, .int r_4), (2, .int r_2), (0, .ref 38), (1, .int x1)]) (st' := [.int (((r_7 &&& 196) ||| (r_4 &&& 40)) ||| r_9), .ref 38]) rfl ?_
  refine st_callv (k' := 89) (as := [.ref 38, .int (((r_7 &&& 196) ||| (r_4 &&& 40)) ||| r_9)]) (rest := []) (lo' := [(0, .ref 38), (1, .int (((r_7 &&& 196) ||| (r_4 &&& 40)) ||| r_9))]) (wf := fun d => wC L d e) rfl rfl rfl ?_
  refine tMachine_setFlags (fun d_10 h => ⟨d_10, rfl, rfl, ?_⟩) (((r_7 &&& 196) ||| (r_4 &&& 40)) ||| r_9) d_8 h
  exact st_retV rfl rfl (hQ _ h)
set_option maxRecDepth 100000 in
def Machine_combine (x1 : Int32) (x2 : Int32) (d : vmD) (Q : vmD → Prop) : Prop :=
  Machine_save 8 x1 d fun d_1 =>
  Machine_signsOf x1 d_1 fun r_3 d_2 =>
  Machine_parityOf x1 d_2 fun r_5 d_4 =>
  Machine_setFlags ((r_3 ||| r_5) ||| x2) d_4 fun d_6 =>
  Q d_6
set_option maxRecDepth 100000 in
set_option maxHeartbeats 4000000 in
theorem tMachine_combine {L : Nat} {e : vmD} {Qo : Option Value → vmW → Prop} {Q : vmD → Prop} (hQ : ∀ d, Q d → Qo none (wC L d e)) (x1 : Int32) (x2 : Int32) (d : vmD) (h : Machine_combine x1 x2 d Q) : vmWp 109 0 [(0, .ref 38), (1, .int x1), (2, .int x2)] [] (wC L d e) Qo := by
  unfold Machine_combine at h
  refine st_go 3 (pc' := 4) (lo' := [(0, .ref 38), (1, .int x1), (2, .int x2)]) (st' := [.int x1, .int 8, .ref 38]) rfl ?_
  refine st_callv (k' := 93) (as := [.ref 38, .int 8, .int x1]) (rest := []) (lo' := [(0, .ref 38), (1, .int 8), (2, .int x1)]) (wf := fun d => wC L d e) rfl rfl rfl ?_
  refine tMachine_save (fun d_1 h => ⟨d_1, rfl, rfl, ?_⟩) 8 x1 d h
  refine st_go 2 (pc' := 9) (lo' := [(0, .ref 38), (1, .int x1), (2, .int x2)]) (st' := [.int x1, .ref 38]) rfl ?_
  refine st_calli (k' := 90) (as := [.int x1]) (rest := [.ref 38]) (lo' := [(0, .int x1)]) (wf := fun d => wC L d e) rfl rfl rfl ?_
  refine tMachine_signsOf (fun r_3 d_2 h => ⟨r_3, d_2, rfl, rfl, ?_⟩) x1 d_1 h
  refine st_go 1 (pc' := 13) (lo' := [(0, .ref 38), (1, .int x1), (2, .int x2)]) (st' := [.int x1, .int r_3, .ref 38]) rfl ?_
  refine st_calli (k' := 91) (as := [.int x1]) (rest := [.int r_3, .ref 38]) (lo' := [(0, .int x1)]) (wf := fun d => wC L d e) rfl rfl rfl ?_
  refine tMachine_parityOf (fun r_5 d_4 h => ⟨r_5, d_4, rfl, rfl, ?_⟩) x1 d_2 h
  refine st_go 3 (pc' := 19) (lo' := [(0, .ref 38), (1, .int x1), (2, .int x2)]) (st' := [.int ((r_3 ||| r_5) ||| x2), .ref 38]) rfl ?_
  refine st_callv (k' := 89) (as := [.ref 38, .int ((r_3 ||| r_5) ||| x2)]) (rest := []) (lo' := [(0, .ref 38), (1, .int ((r_3 ||| r_5) ||| x2))]) (wf := fun d => wC L d e) rfl rfl rfl ?_
  refine tMachine_setFlags (fun d_6 h => ⟨d_6, rfl, rfl, ?_⟩) ((r_3 ||| r_5) ||| x2) d_4 h
  exact st_retV rfl rfl (hQ _ h)
set_option maxRecDepth 100000 in
def Machine_calculateWide_181 (x2 : Int32) (x7 : Int32) (d : vmD) (Q : vmD → Prop) : Prop :=
  Machine_savePair x2 x7 d fun d_10 =>
  Q d_10
set_option maxRecDepth 100000 in
set_option maxHeartbeats 4000000 in
theorem tMachine_calculateWide_181 {L : Nat} {e : vmD} {Qo : Option Value → vmW → Prop} {Q : vmD → Prop} (hQ : ∀ d, Q d → Qo none (wC L d e)) (x2 : Int32) (x7 : Int32) (d : vmD) (h : Machine_calculateWide_181 x2 x7 d Q) : vmWp 110 181 [(0, .ref 38), (2, .int x2), (7, .int x7)] [] (wC L d e) Qo := by
  unfold Machine_calculateWide_181 at h
  refine st_go 3 (pc' := 185) (lo' := [(0, .ref 38), (2, .int x2), (7, .int x7)]) (st' := [.int x7, .int x2, .ref 38]) rfl ?_
  refine st_callv (k' := 97) (as := [.ref 38, .int x2, .int x7]) (rest := []) (lo' := [(0, .ref 38), (1, .int x2), (2, .int x7)]) (wf := fun d => wC L d e) rfl rfl rfl ?_
  refine tMachine_savePair (fun d_10 h => ⟨d_10, rfl, rfl, ?_⟩) x2 x7 d h
  exact st_retV rfl rfl (hQ _ h)
set_option maxRecDepth 100000 in
def Machine_calculateWide_177 (x2 : Int32) (x7 : Int32) (s0 : Int32) (s1 : Int32) (d : vmD) (Q : vmD → Prop) : Prop :=
  Machine_setFlags (s1 ||| s0) d fun d_15 =>
  Machine_calculateWide_181 x2 x7 d_15 Q
set_option maxRecDepth 100000 in
set_option maxHeartbeats 4000000 in
theorem tMachine_calculateWide_177 {L : Nat} {e : vmD} {Qo : Option Value → vmW → Prop} {Q : vmD → Prop} (hQ : ∀ d, Q d → Qo none (wC L d e)) (x2 : Int32) (x7 : Int32) (s0 : Int32) (s1 : Int32) (d : vmD) (h : Machine_calculateWide_177 x2 x7 s0 s1 d Q) : vmWp 110 177 [(0, .ref 38), (2, .int x2), (7, .int x7)] [.int s0, .int s1, .ref 38] (wC L d e) Qo := by
  unfold Machine_calculateWide_177 at h
  refine st_go 1 (pc' := 178) (lo' := [(0, .ref 38), (2, .int x2), (7, .int x7)]) (st' := [.int (s1 ||| s0), .ref 38]) rfl ?_
  refine st_callv (k' := 89) (as := [.ref 38, .int (s1 ||| s0)]) (rest := []) (lo' := [(0, .ref 38), (1, .int (s1 ||| s0))]) (wf := fun d => wC L d e) rfl rfl rfl ?_
  refine tMachine_setFlags (fun d_15 h => ⟨d_15, rfl, rfl, ?_⟩) (s1 ||| s0) d h
  refine vmWp.sub (lo' := [(0, .ref 38), (2, .int x2), (7, .int x7)]) ⟨rfl, rfl, rfl, trivial⟩ ?_
  exact tMachine_calculateWide_181 hQ x2 x7 d_15 h
set_option maxRecDepth 100000 in
def Machine_calculateWide_143 (x2 : Int32) (x6 : Int32) (x7 : Int32) (x8 : Int32) (x9 : Int32) (s0 : Int32) (d : vmD) (Q : vmD → Prop) : Prop :=
  if x6 = 0 then
  (Machine_calculateWide_177 x2 x7 0 (((x8 ||| ((x7 >>> ((8 : Int32) &&& 31)) &&& 128)) ||| s0) ||| (x9 >>> ((13 : Int32) &&& 31))) d Q)
  else
  (Machine_calculateWide_177 x2 x7 2 (((x8 ||| ((x7 >>> ((8 : Int32) &&& 31)) &&& 128)) ||| s0) ||| (x9 >>> ((13 : Int32) &&& 31))) d Q)
set_option maxRecDepth 100000 in
set_option maxHeartbeats 4000000 in
theorem tMachine_calculateWide_143 {L : Nat} {e : vmD} {Qo : Option Value → vmW → Prop} {Q : vmD → Prop} (hQ : ∀ d, Q d → Qo none (wC L d e)) (x2 : Int32) (x6 : Int32) (x7 : Int32) (x8 : Int32) (x9 : Int32) (s0 : Int32) (d : vmD) (h : Machine_calculateWide_143 x2 x6 x7 x8 x9 s0 d Q) : vmWp 110 143 [(0, .ref 38), (2, .int x2), (6, .int x6), (7, .int x7), (8, .int x8), (9, .int x9)] [.int s0] (wC L d e) Qo := by
  unfold Machine_calculateWide_143 at h
  refine st_go 16 (pc' := 169) (lo' := [(10, .int s0), (0, .ref 38), (2, .int x2), (6, .int x6), (7, .int x7), (8, .int x8), (9, .int x9)]) (st' := [.int x6, .int (((x8 ||| ((x7 >>> ((8 : Int32) &&& 31)) &&& 128)) ||| s0) ||| (x9 >>> ((13 : Int32) &&& 31))), .ref 38]) rfl ?_
  by_cases hc_14 : x6 = 0
  · have h := Eq.mp (if_pos hc_14) h
    refine st_if (t := 176) (b := true) rfl (decide_eq_true hc_14) rfl ?_
    refine st_go 1 (pc' := 177) (lo' := [(10, .int s0), (0, .ref 38), (2, .int x2), (6, .int x6), (7, .int x7), (8, .int x8), (9, .int x9)]) (st' := [.int 0, .int (((x8 ||| ((x7 >>> ((8 : Int32) &&& 31)) &&& 128)) ||| s0) ||| (x9 >>> ((13 : Int32) &&& 31))), .ref 38]) rfl ?_
    refine vmWp.sub (lo' := [(0, .ref 38), (2, .int x2), (7, .int x7)]) ⟨rfl, rfl, rfl, trivial⟩ ?_
    exact tMachine_calculateWide_177 hQ x2 x7 0 (((x8 ||| ((x7 >>> ((8 : Int32) &&& 31)) &&& 128)) ||| s0) ||| (x9 >>> ((13 : Int32) &&& 31))) d h
  · have h := Eq.mp (if_neg hc_14) h
    refine st_if (t := 172) (b := false) rfl (decide_eq_false hc_14) rfl ?_
    refine st_go 2 (pc' := 177) (lo' := [(10, .int s0), (0, .ref 38), (2, .int x2), (6, .int x6), (7, .int x7), (8, .int x8), (9, .int x9)]) (st' := [.int 2, .int (((x8 ||| ((x7 >>> ((8 : Int32) &&& 31)) &&& 128)) ||| s0) ||| (x9 >>> ((13 : Int32) &&& 31))), .ref 38]) rfl ?_
    refine vmWp.sub (lo' := [(0, .ref 38), (2, .int x2), (7, .int x7)]) ⟨rfl, rfl, rfl, trivial⟩ ?_
    exact tMachine_calculateWide_177 hQ x2 x7 2 (((x8 ||| ((x7 >>> ((8 : Int32) &&& 31)) &&& 128)) ||| s0) ||| (x9 >>> ((13 : Int32) &&& 31))) d h
set_option maxRecDepth 100000 in
def Machine_calculateWide_118 (x2 : Int32) (x5 : Int32) (x6 : Int32) (x7 : Int32) (x8 : Int32) (s0 : Int32) (d : vmD) (Q : vmD → Prop) : Prop :=
  bnd ((s0 &&& (x5 ^^^ x7)) &&& 32768) fun x9_12 =>
  if (x7 &&& 65535) = 0 then
  (Machine_calculateWide_143 x2 x6 x7 x8 x9_12 64 d Q)
  else
  (Machine_calculateWide_143 x2 x6 x7 x8 x9_12 0 d Q)
set_option maxRecDepth 100000 in
set_option maxHeartbeats 4000000 in
theorem tMachine_calculateWide_118 {L : Nat} {e : vmD} {Qo : Option Value → vmW → Prop} {Q : vmD → Prop} (hQ : ∀ d, Q d → Qo none (wC L d e)) (x2 : Int32) (x5 : Int32) (x6 : Int32) (x7 : Int32) (x8 : Int32) (s0 : Int32) (d : vmD) (h : Machine_calculateWide_118 x2 x5 x6 x7 x8 s0 d Q) : vmWp 110 118 [(0, .ref 38), (2, .int x2), (5, .int x5), (6, .int x6), (7, .int x7), (8, .int x8)] [.int s0] (wC L d e) Qo := by
  unfold Machine_calculateWide_118 at h
  refine st_go 7 (pc' := 129) (lo' := [(9, .int ((s0 &&& (x5 ^^^ x7)) &&& 32768)), (0, .ref 38), (2, .int x2), (5, .int x5), (6, .int x6), (7, .int x7), (8, .int x8)]) (st' := []) rfl ?_
  refine st_locI (fun x9_12 hy_x9_12 => ?_)
  have h := h x9_12 hy_x9_12
  refine st_go 3 (pc' := 134) (lo' := [(9, .int x9_12), (0, .ref 38), (2, .int x2), (5, .int x5), (6, .int x6), (7, .int x7), (8, .int x8)]) (st' := [.int (x7 &&& 65535)]) rfl ?_
  by_cases hc_13 : (x7 &&& 65535) = 0
  · have h := Eq.mp (if_pos hc_13) h
    refine st_if (t := 137) (b := false) rfl (decide_eq_false (fun z => z hc_13)) rfl ?_
    refine st_go 2 (pc' := 143) (lo' := [(9, .int x9_12), (0, .ref 38), (2, .int x2), (5, .int x5), (6, .int x6), (7, .int x7), (8, .int x8)]) (st' := [.int 64]) rfl ?_
    refine vmWp.sub (lo' := [(0, .ref 38), (2, .int x2), (6, .int x6), (7, .int x7), (8, .int x8), (9, .int x9_12)]) ⟨rfl, rfl, rfl, rfl, rfl, rfl, trivial⟩ ?_
    exact tMachine_calculateWide_143 hQ x2 x6 x7 x8 x9_12 64 d h
  · have h := Eq.mp (if_neg hc_13) h
    refine st_if (t := 142) (b := true) rfl (decide_eq_true hc_13) rfl ?_
    refine st_go 1 (pc' := 143) (lo' := [(9, .int x9_12), (0, .ref 38), (2, .int x2), (5, .int x5), (6, .int x6), (7, .int x7), (8, .int x8)]) (st' := [.int 0]) rfl ?_
    refine vmWp.sub (lo' := [(0, .ref 38), (2, .int x2), (6, .int x6), (7, .int x7), (8, .int x8), (9, .int x9_12)]) ⟨rfl, rfl, rfl, rfl, rfl, rfl, trivial⟩ ?_
    exact tMachine_calculateWide_143 hQ x2 x6 x7 x8 x9_12 0 d h
set_option maxRecDepth 100000 in
def Machine_calculateWide_42 (x1 : Int32) (x2 : Int32) (x3 : Int32) (x5 : Int32) (x6 : Int32) (s0 : Int32) (d : vmD) (Q : vmD → Prop) : Prop :=
  bnd ((((((x5 ^^^ x3) ^^^ s0) >>> ((8 : Int32) &&& 31)) &&& 16) ||| ((s0 >>> ((16 : Int32) &&& 31)) &&& 1)) ||| ((s0 >>> ((8 : Int32) &&& 31)) &&& 40)) fun x8_5 =>
  if x1 = 48 then
  (Machine_flags d fun r_8 d_7 =>
  Machine_setFlags ((r_8 &&& 196) ||| x8_5) d_7 fun d_9 =>
  Machine_calculateWide_181 x2 s0 d_9 Q)
  else
  (if x6 = 0 then
  (Machine_calculateWide_118 x2 x5 x6 s0 x8_5 ((x5 ^^^ x3) ^^^ (-1)) d Q)
  else
  (Machine_calculateWide_118 x2 x5 x6 s0 x8_5 (x5 ^^^ x3) d Q))
set_option maxRecDepth 100000 in
set_option maxHeartbeats 4000000 in
theorem tMachine_calculateWide_42 {L : Nat} {e : vmD} {Qo : Option Value → vmW → Prop} {Q : vmD → Prop} (hQ : ∀ d, Q d → Qo none (wC L d e)) (x1 : Int32) (x2 : Int32) (x3 : Int32) (x5 : Int32) (x6 : Int32) (s0 : Int32) (d : vmD) (h : Machine_calculateWide_42 x1 x2 x3 x5 x6 s0 d Q) : vmWp 110 42 [(0, .ref 38), (1, .int x1), (2, .int x2), (3, .int x3), (5, .int x5), (6, .int x6)] [.int s0] (wC L d e) Qo := by
  unfold Machine_calculateWide_42 at h
  refine st_go 23 (pc' := 76) (lo' := [(8, .int ((((((x5 ^^^ x3) ^^^ s0) >>> ((8 : Int32) &&& 31)) &&& 16) ||| ((s0 >>> ((16 : Int32) &&& 31)) &&& 1)) ||| ((s0 >>> ((8 : Int32) &&& 31)) &&& 40))), (7, .int s0), (0, .ref 38), (1, .int x1), (2, .int x2), (3, .int x3), (5, .int x5), (6, .int x6)]) (st' := []) rfl ?_
  refine st_locI (fun x8_5 hy_x8_5 => ?_)
  have h := h x8_5 hy_x8_5
  refine st_go 2 (pc' := 79) (lo' := [(8, .int x8_5), (7, .int s0), (0, .ref 38), (1, .int x1), (2, .int x2), (3, .int x3), (5, .int x5), (6, .int x6)]) (st' := [.int 48, .int x1]) rfl ?_
  by_cases hc_6 : x1 = 48
  · have h := Eq.mp (if_pos hc_6) h
    refine st_icmp (t := 82) (b := false) rfl (decide_eq_false (fun z => z hc_6)) rfl ?_
    refine st_go 2 (pc' := 84) (lo' := [(8, .int x8_5), (7, .int s0), (0, .ref 38), (1, .int x1), (2, .int x2), (3, .int x3), (5, .int x5), (6, .int x6)]) (st' := [.ref 38, .ref 38]) rfl ?_
    refine st_calli (k' := 88) (as := [.ref 38]) (rest := [.ref 38]) (lo' := [(0, .ref 38)]) (wf := fun d => wC L d e) rfl rfl rfl ?_
    refine tMachine_flags (fun r_8 d_7 h => ⟨r_8, d_7, rfl, rfl, ?_⟩) d h
    refine st_go 4 (pc' := 94) (lo' := [(8, .int x8_5), (7, .int s0), (0, .ref 38), (1, .int x1), (2, .int x2), (3, .int x3), (5, .int x5), (6, .int x6)]) (st' := [.int ((r_8 &&& 196) ||| x8_5), .ref 38]) rfl ?_
    refine st_callv (k' := 89) (as := [.ref 38, .int ((r_8 &&& 196) ||| x8_5)]) (rest := []) (lo' := [(0, .ref 38), (1, .int ((r_8 &&& 196) ||| x8_5))]) (wf := fun d => wC L d e) rfl rfl rfl ?_
    refine tMachine_setFlags (fun d_9 h => ⟨d_9, rfl, rfl, ?_⟩) ((r_8 &&& 196) ||| x8_5) d_7 h
    refine st_go 1 (pc' := 181) (lo' := [(8, .int x8_5), (7, .int s0), (0, .ref 38), (1, .int x1), (2, .int x2), (3, .int x3), (5, .int x5), (6, .int x6)]) (st' := []) rfl ?_
    refine vmWp.sub (lo' := [(0, .ref 38), (2, .int x2), (7, .int s0)]) ⟨rfl, rfl, rfl, trivial⟩ ?_
    exact tMachine_calculateWide_181 hQ x2 s0 d_9 h
  · have h := Eq.mp (if_neg hc_6) h
    refine st_icmp (t := 100) (b := true) rfl (decide_eq_true hc_6) rfl ?_
    refine st_go 1 (pc' := 102) (lo' := [(8, .int x8_5), (7, .int s0), (0, .ref 38), (1, .int x1), (2, .int x2), (3, .int x3), (5, .int x5), (6, .int x6)]) (st' := [.int x6]) rfl ?_
    by_cases hc_11 : x6 = 0
    · have h := Eq.mp (if_pos hc_11) h
      refine st_if (t := 112) (b := true) rfl (decide_eq_true hc_11) rfl ?_
      refine st_go 5 (pc' := 118) (lo' := [(8, .int x8_5), (7, .int s0), (0, .ref 38), (1, .int x1), (2, .int x2), (3, .int x3), (5, .int x5), (6, .int x6)]) (st' := [.int ((x5 ^^^ x3) ^^^ (-1))]) rfl ?_
      refine vmWp.sub (lo' := [(0, .ref 38), (2, .int x2), (5, .int x5), (6, .int x6), (7, .int s0), (8, .int x8_5)]) ⟨rfl, rfl, rfl, rfl, rfl, rfl, trivial⟩ ?_
      exact tMachine_calculateWide_118 hQ x2 x5 x6 s0 x8_5 ((x5 ^^^ x3) ^^^ (-1)) d h
    · have h := Eq.mp (if_neg hc_11) h
      refine st_if (t := 105) (b := false) rfl (decide_eq_false hc_11) rfl ?_
      refine st_go 4 (pc' := 118) (lo' := [(8, .int x8_5), (7, .int s0), (0, .ref 38), (1, .int x1), (2, .int x2), (3, .int x3), (5, .int x5), (6, .int x6)]) (st' := [.int (x5 ^^^ x3)]) rfl ?_
      refine vmWp.sub (lo' := [(0, .ref 38), (2, .int x2), (5, .int x5), (6, .int x6), (7, .int s0), (8, .int x8_5)]) ⟨rfl, rfl, rfl, rfl, rfl, rfl, trivial⟩ ?_
      exact tMachine_calculateWide_118 hQ x2 x5 x6 s0 x8_5 (x5 ^^^ x3) d h
set_option maxRecDepth 100000 in
def Machine_calculateWide_18 (x1 : Int32) (x2 : Int32) (x3 : Int32) (x4 : Int32) (x5 : Int32) (s0 : Int32) (d : vmD) (Q : vmD → Prop) : Prop :=
  if s0 = 0 then
  (Machine_calculateWide_42 x1 x2 x3 x5 s0 ((x5 + x3) + x4) d Q)
  else
  (Machine_calculateWide_42 x1 x2 x3 x5 s0 ((x5 - x3) - x4) d Q)
set_option maxRecDepth 100000 in
set_option maxHeartbeats 4000000 in
theorem tMachine_calculateWide_18 {L : Nat} {e : vmD} {Qo : Option Value → vmW → Prop} {Q : vmD → Prop} (hQ : ∀ d, Q d → Qo none (wC L d e)) (x1 : Int32) (x2 : Int32) (x3 : Int32) (x4 : Int32) (x5 : Int32) (s0 : Int32) (d : vmD) (h : Machine_calculateWide_18 x1 x2 x3 x4 x5 s0 d Q) : vmWp 110 18 [(0, .ref 38), (1, .int x1), (2, .int x2), (3, .int x3), (4, .int x4), (5, .int x5)] [.int s0] (wC L d e) Qo := by
  unfold Machine_calculateWide_18 at h
  refine st_go 2 (pc' := 22) (lo' := [(6, .int s0), (0, .ref 38), (1, .int x1), (2, .int x2), (3, .int x3), (4, .int x4), (5, .int x5)]) (st' := [.int s0]) rfl ?_
  by_cases hc_4 : s0 = 0
  · have h := Eq.mp (if_pos hc_4) h
    refine st_if (t := 35) (b := true) rfl (decide_eq_true hc_4) rfl ?_
    refine st_go 5 (pc' := 42) (lo' := [(6, .int s0), (0, .ref 38), (1, .int x1), (2, .int x2), (3, .int x3), (4, .int x4), (5, .int x5)]) (st' := [.int ((x5 + x3) + x4)]) rfl ?_
    refine vmWp.sub (lo' := [(0, .ref 38), (1, .int x1), (2, .int x2), (3, .int x3), (5, .int x5), (6, .int s0)]) ⟨rfl, rfl, rfl, rfl, rfl, rfl, trivial⟩ ?_
    exact tMachine_calculateWide_42 hQ x1 x2 x3 x5 s0 ((x5 + x3) + x4) d h
  · have h := Eq.mp (if_neg hc_4) h
    refine st_if (t := 25) (b := false) rfl (decide_eq_false hc_4) rfl ?_
    refine st_go 6 (pc' := 42) (lo' := [(6, .int s0), (0, .ref 38), (1, .int x1), (2, .int x2), (3, .int x3), (4, .int x4), (5, .int x5)]) (st' := [.int ((x5 - x3) - x4)]) rfl ?_
    refine vmWp.sub (lo' := [(0, .ref 38), (1, .int x1), (2, .int x2), (3, .int x3), (5, .int x5), (6, .int s0)]) ⟨rfl, rfl, rfl, rfl, rfl, rfl, trivial⟩ ?_
    exact tMachine_calculateWide_42 hQ x1 x2 x3 x5 s0 ((x5 - x3) - x4) d h
set_option maxRecDepth 100000 in
def Machine_calculateWide (x1 : Int32) (x2 : Int32) (x3 : Int32) (x4 : Int32) (d : vmD) (Q : vmD → Prop) : Prop :=
  Machine_pair x2 d fun r_2 d_1 =>
  if x1 = 51 then
  (Machine_calculateWide_18 x1 x2 x3 x4 r_2 1 d_1 Q)
  else
  (Machine_calculateWide_18 x1 x2 x3 x4 r_2 0 d_1 Q)
set_option maxRecDepth 100000 in
set_option maxHeartbeats 4000000 in
theorem tMachine_calculateWide {L : Nat} {e : vmD} {Qo : Option Value → vmW → Prop} {Q : vmD → Prop} (hQ : ∀ d, Q d → Qo none (wC L d e)) (x1 : Int32) (x2 : Int32) (x3 : Int32) (x4 : Int32) (d : vmD) (h : Machine_calculateWide x1 x2 x3 x4 d Q) : vmWp 110 0 [(0, .ref 38), (1, .int x1), (2, .int x2), (3, .int x3), (4, .int x4)] [] (wC L d e) Qo := by
  unfold Machine_calculateWide at h
  refine st_go 2 (pc' := 2) (lo' := [(0, .ref 38), (1, .int x1), (2, .int x2), (3, .int x3), (4, .int x4)]) (st' := [.int x2, .ref 38]) rfl ?_
  refine st_calli (k' := 96) (as := [.ref 38, .int x2]) (rest := []) (lo' := [(0, .ref 38), (1, .int x2)]) (wf := fun d => wC L d e) rfl rfl rfl ?_
  refine tMachine_pair (fun r_2 d_1 h => ⟨r_2, d_1, rfl, rfl, ?_⟩) x2 d h
  refine st_go 3 (pc' := 10) (lo' := [(5, .int r_2), (0, .ref 38), (1, .int x1), (2, .int x2), (3, .int x3), (4, .int x4)]) (st' := [.int 51, .int x1]) rfl ?_
  by_cases hc_3 : x1 = 51
  · have h := Eq.mp (if_pos hc_3) h
    refine st_icmp (t := 13) (b := false) rfl (decide_eq_false (fun z => z hc_3)) rfl ?_
    refine st_go 2 (pc' := 18) (lo' := [(5, .int r_2), (0, .ref 38), (1, .int x1), (2, .int x2), (3, .int x3), (4, .int x4)]) (st' := [.int 1]) rfl ?_
    refine vmWp.sub (lo' := [(0, .ref 38), (1, .int x1), (2, .int x2), (3, .int x3), (4, .int x4), (5, .int r_2)]) ⟨rfl, rfl, rfl, rfl, rfl, rfl, trivial⟩ ?_
    exact tMachine_calculateWide_18 hQ x1 x2 x3 x4 r_2 1 d_1 h
  · have h := Eq.mp (if_neg hc_3) h
    refine st_icmp (t := 17) (b := true) rfl (decide_eq_true hc_3) rfl ?_
    refine st_go 1 (pc' := 18) (lo' := [(5, .int r_2), (0, .ref 38), (1, .int x1), (2, .int x2), (3, .int x3), (4, .int x4)]) (st' := [.int 0]) rfl ?_
    refine vmWp.sub (lo' := [(0, .ref 38), (1, .int x1), (2, .int x2), (3, .int x3), (4, .int x4), (5, .int r_2)]) ⟨rfl, rfl, rfl, rfl, rfl, rfl, trivial⟩ ?_
    exact tMachine_calculateWide_18 hQ x1 x2 x3 x4 r_2 0 d_1 h
set_option maxRecDepth 100000 in
def Machine_calculate_63 (x1 : Int32) (x4 : Int32) (x5 : Int32) (s0 : Int32) (d : vmD) (Q : vmD → Prop) : Prop :=
  Machine_load s0 d fun r_11 d_10 =>
  if x1 = 48 then
  (Machine_sum x5 r_11 x4 d_10 fun r_14 d_13 =>
  Machine_save 8 r_14 d_13 fun d_15 =>
  Q d_15)
  else
  if x1 = 49 then
  (Machine_sum x5 r_11 x4 d_10 fun r_18 d_17 =>
  Machine_save 8 r_18 d_17 fun d_19 =>
  Q d_19)
  else
  if x1 = 50 then
  (Machine_difference x5 r_11 x4 d_10 fun r_22 d_21 =>
  Machine_save 8 r_22 d_21 fun d_23 =>
  Q d_23)
  else
  if x1 = 51 then
  (Machine_difference x5 r_11 x4 d_10 fun r_26 d_25 =>
  Machine_save 8 r_26 d_25 fun d_27 =>
  Q d_27)
  else
  if x1 = 52 then
  (Machine_combine (x5 &&& r_11) 16 d_10 fun d_29 =>
  Q d_29)
  else
  if x1 = 53 then
  (Machine_combine (x5 ^^^ r_11) 0 d_10 fun d_31 =>
  Q d_31)
  else
  if x1 = 55 then
  (Machine_difference x5 r_11 0 d_10 fun r_34 d_33 =>
  Machine_flags d_33 fun r_36 d_35 =>
  Machine_setFlags ((r_36 &&& (-41)) ||| (r_11 &&& 40)) d_35 fun d_37 =>
  Q d_37)
  else
  (Machine_combine (x5 ||| r_11) 0 d_10 fun d_38 =>
  Q d_38)
set_option maxRecDepth 100000 in
set_option maxHeartbeats 4000000 in
theorem tMachine_calculate_63 {L : Nat} {e : vmD} {Qo : Option Value → vmW → Prop} {Q : vmD → Prop} (hQ : ∀ d, Q d → Qo none (wC L d e)) (x1 : Int32) (x4 : Int32) (x5 : Int32) (s0 : Int32) (d : vmD) (h : Machine_calculate_63 x1 x4 x5 s0 d Q) : vmWp 106 63 [(0, .ref 38), (1, .int x1), (4, .int x4), (5, .int x5)] [.int s0, .ref 38] (wC L d e) Qo := by
  unfold Machine_calculate_63 at h
  refine st_calli (k' := 92) (as := [.ref 38, .int s0]) (rest := []) (lo' := [(0, .ref 38), (1, .int s0)]) (wf := fun d => wC L d e) rfl rfl rfl ?_
  refine tMachine_load (fun r_11 d_10 h => ⟨r_11, d_10, rfl, rfl, ?_⟩) s0 d h
  refine st_go 2 (pc' := 69) (lo' := [(6, .int r_11), (0, .ref 38), (1, .int x1), (4, .int x4), (5, .int x5)]) (st' := [.int x1]) rfl ?_
  by_cases hc_12 : x1 = 48
  · have h := Eq.mp (if_pos hc_12) h
    refine st_tab (t := 116) rfl (by rw [hc_12]; rfl) ?_
    refine st_go 6 (pc' := 126) (lo' := [(6, .int r_11), (0, .ref 38), (1, .int x1), (4, .int x4), (5, .int x5)]) (st' := [.int x4, .int r_11, .int x5, .ref 38, .int 8, .ref 38]) rfl ?_
    refine st_calli (k' := 107) (as := [.ref 38, .int x5, .int r_11, .int x4]) (rest := [.int 8, .ref 38]) (lo' := [(0, .ref 38), (1, .int x5), (2, .int r_11), (3, .int x4)]) (wf := fun d => wC L d e) rfl rfl rfl ?_
    refine tMachine_sum (fun r_14 d_13 h => ⟨r_14, d_13, rfl, rfl, ?_⟩) x5 r_11 x4 d_10 h
    refine st_callv (k' := 93) (as := [.ref 38, .int 8, .int r_14]) (rest := []) (lo' := [(0, .ref 38), (1, .int 8), (2, .int r_14)]) (wf := fun d => wC L d e) rfl rfl rfl ?_
    refine tMachine_save (fun d_15 h => ⟨d_15, rfl, rfl, ?_⟩) 8 r_14 d_13 h
    refine st_go 1 (pc' := 221) (lo' := [(6, .int r_11), (0, .ref 38), (1, .int x1), (4, .int x4), (5, .int x5)]) (st' := []) rfl ?_
    exact st_retV rfl rfl (hQ _ h)
  · have h := Eq.mp (if_neg hc_12) h
    by_cases hc_16 : x1 = 49
    · have h := Eq.mp (if_pos hc_16) h
      refine st_tab (t := 116) rfl (by rw [hc_16]; rfl) ?_
      refine st_go 6 (pc' := 126) (lo' := [(6, .int r_11), (0, .ref 38), (1, .int x1), (4, .int x4), (5, .int x5)]) (st' := [.int x4, .int r_11, .int x5, .ref 38, .int 8, .ref 38]) rfl ?_
      refine st_calli (k' := 107) (as := [.ref 38, .int x5, .int r_11, .int x4]) (rest := [.int 8, .ref 38]) (lo' := [(0, .ref 38), (1, .int x5), (2, .int r_11), (3, .int x4)]) (wf := fun d => wC L d e) rfl rfl rfl ?_
      refine tMachine_sum (fun r_18 d_17 h => ⟨r_18, d_17, rfl, rfl, ?_⟩) x5 r_11 x4 d_10 h
      refine st_callv (k' := 93) (as := [.ref 38, .int 8, .int r_18]) (rest := []) (lo' := [(0, .ref 38), (1, .int 8), (2, .int r_18)]) (wf := fun d => wC L d e) rfl rfl rfl ?_
      refine tMachine_save (fun d_19 h => ⟨d_19, rfl, rfl, ?_⟩) 8 r_18 d_17 h
      refine st_go 1 (pc' := 221) (lo' := [(6, .int r_11), (0, .ref 38), (1, .int x1), (4, .int x4), (5, .int x5)]) (st' := []) rfl ?_
      exact st_retV rfl rfl (hQ _ h)
    · have h := Eq.mp (if_neg hc_16) h
      by_cases hc_20 : x1 = 50
      · have h := Eq.mp (if_pos hc_20) h
        refine st_tab (t := 135) rfl (by rw [hc_20]; rfl) ?_
        refine st_go 6 (pc' := 145) (lo' := [(6, .int r_11), (0, .ref 38), (1, .int x1), (4, .int x4), (5, .int x5)]) (st' := [.int x4, .int r_11, .int x5, .ref 38, .int 8, .ref 38]) rfl ?_
        refine st_calli (k' := 108) (as := [.ref 38, .int x5, .int r_11, .int x4]) (rest := [.int 8, .ref 38]) (lo' := [(0, .ref 38), (1, .int x5), (2, .int r_11), (3, .int x4)]) (wf := fun d => wC L d e) rfl rfl rfl ?_
        refine tMachine_difference (fun r_22 d_21 h => ⟨r_22, d_21, rfl, rfl, ?_⟩) x5 r_11 x4 d_10 h
        refine st_callv (k' := 93) (as := [.ref 38, .int 8, .int r_22]) (rest := []) (lo' := [(0, .ref 38), (1, .int 8), (2, .int r_22)]) (wf := fun d => wC L d e) rfl rfl rfl ?_
        refine tMachine_save (fun d_23 h => ⟨d_23, rfl, rfl, ?_⟩) 8 r_22 d_21 h
        refine st_go 1 (pc' := 221) (lo' := [(6, .int r_11), (0, .ref 38), (1, .int x1), (4, .int x4), (5, .int x5)]) (st' := []) rfl ?_
        exact st_retV rfl rfl (hQ _ h)
      · have h := Eq.mp (if_neg hc_20) h
        by_cases hc_24 : x1 = 51
        · have h := Eq.mp (if_pos hc_24) h
          refine st_tab (t := 135) rfl (by rw [hc_24]; rfl) ?_
          refine st_go 6 (pc' := 145) (lo' := [(6, .int r_11), (0, .ref 38), (1, .int x1), (4, .int x4), (5, .int x5)]) (st' := [.int x4, .int r_11, .int x5, .ref 38, .int 8, .ref 38]) rfl ?_
          refine st_calli (k' := 108) (as := [.ref 38, .int x5, .int r_11, .int x4]) (rest := [.int 8, .ref 38]) (lo' := [(0, .ref 38), (1, .int x5), (2, .int r_11), (3, .int x4)]) (wf := fun d => wC L d e) rfl rfl rfl ?_
          refine tMachine_difference (fun r_26 d_25 h => ⟨r_26, d_25, rfl, rfl, ?_⟩) x5 r_11 x4 d_10 h
          refine st_callv (k' := 93) (as := [.ref 38, .int 8, .int r_26]) (rest := []) (lo' := [(0, .ref 38), (1, .int 8), (2, .int r_26)]) (wf := fun d => wC L d e) rfl rfl rfl ?_
          refine tMachine_save (fun d_27 h => ⟨d_27, rfl, rfl, ?_⟩) 8 r_26 d_25 h
          refine st_go 1 (pc' := 221) (lo' := [(6, .int r_11), (0, .ref 38), (1, .int x1), (4, .int x4), (5, .int x5)]) (st' := []) rfl ?_
          exact st_retV rfl rfl (hQ _ h)
        · have h := Eq.mp (if_neg hc_24) h
          by_cases hc_28 : x1 = 52
          · have h := Eq.mp (if_pos hc_28) h
            refine st_tab (t := 184) rfl (by rw [hc_28]; rfl) ?_
            refine st_go 5 (pc' := 192) (lo' := [(6, .int r_11), (0, .ref 38), (1, .int x1), (4, .int x4), (5, .int x5)]) (st' := [.int 16, .int (x5 &&& r_11), .ref 38]) rfl ?_
            refine st_callv (k' := 109) (as := [.ref 38, .int (x5 &&& r_11), .int 16]) (rest := []) (lo' := [(0, .ref 38), (1, .int (x5 &&& r_11)), (2, .int 16)]) (wf := fun d => wC L d e) rfl rfl rfl ?_
            refine tMachine_combine (fun d_29 h => ⟨d_29, rfl, rfl, ?_⟩) (x5 &&& r_11) 16 d_10 h
            refine st_go 1 (pc' := 221) (lo' := [(6, .int r_11), (0, .ref 38), (1, .int x1), (4, .int x4), (5, .int x5)]) (st' := []) rfl ?_
            exact st_retV rfl rfl (hQ _ h)
          · have h := Eq.mp (if_neg hc_28) h
            by_cases hc_30 : x1 = 53
            · have h := Eq.mp (if_pos hc_30) h
              refine st_tab (t := 198) rfl (by rw [hc_30]; rfl) ?_
              refine st_go 5 (pc' := 205) (lo' := [(6, .int r_11), (0, .ref 38), (1, .int x1), (4, .int x4), (5, .int x5)]) (st' := [.int 0, .int (x5 ^^^ r_11), .ref 38]) rfl ?_
              refine st_callv (k' := 109) (as := [.ref 38, .int (x5 ^^^ r_11), .int 0]) (rest := []) (lo' := [(0, .ref 38), (1, .int (x5 ^^^ r_11)), (2, .int 0)]) (wf := fun d => wC L d e) rfl rfl rfl ?_
              refine tMachine_combine (fun d_31 h => ⟨d_31, rfl, rfl, ?_⟩) (x5 ^^^ r_11) 0 d_10 h
              refine st_go 1 (pc' := 221) (lo' := [(6, .int r_11), (0, .ref 38), (1, .int x1), (4, .int x4), (5, .int x5)]) (st' := []) rfl ?_
              exact st_retV rfl rfl (hQ _ h)
            · have h := Eq.mp (if_neg hc_30) h
              by_cases hc_32 : x1 = 55
              · have h := Eq.mp (if_pos hc_32) h
                refine st_tab (t := 154) rfl (by rw [hc_32]; rfl) ?_
                refine st_go 4 (pc' := 160) (lo' := [(6, .int r_11), (0, .ref 38), (1, .int x1), (4, .int x4), (5, .int x5)]) (st' := [.int 0, .int r_11, .int x5, .ref 38]) rfl ?_
                refine st_calli (k' := 108) (as := [.ref 38, .int x5, .int r_11, .int 0]) (rest := []) (lo' := [(0, .ref 38), (1, .int x5), (2, .int r_11), (3, .int 0)]) (wf := fun d => wC L d e) rfl rfl rfl ?_
                refine tMachine_difference (fun r_34 d_33 h => ⟨r_34, d_33, rfl, rfl, ?_⟩) x5 r_11 0 d_10 h
                refine st_go 3 (pc' := 166) (lo' := [(6, .int r_11), (0, .ref 38), (1, .int x1), (4, .int x4), (5, .int x5)]) (st' := [.ref 38, .ref 38]) rfl ?_
                refine st_calli (k' := 88) (as := [.ref 38]) (rest := [.ref 38]) (lo' := [(0, .ref 38)]) (wf := fun d => wC L d e) rfl rfl rfl ?_
                refine tMachine_flags (fun r_36 d_35 h => ⟨r_36, d_35, rfl, rfl, ?_⟩) d_33 h
                refine st_go 6 (pc' := 178) (lo' := [(6, .int r_11), (0, .ref 38), (1, .int x1), (4, .int x4), (5, .int x5)]) (st' := [.int ((r_36 &&& (-41)) ||| (r_11 &&& 40)), .ref 38]) rfl ?_
                refine st_callv (k' := 89) (as := [.ref 38, .int ((r_36 &&& (-41)) ||| (r_11 &&& 40))]) (rest := []) (lo' := [(0, .ref 38), (1, .int ((r_36 &&& (-41)) ||| (r_11 &&& 40)))]) (wf := fun d => wC L d e) rfl rfl rfl ?_
                refine tMachine_setFlags (fun d_37 h => ⟨d_37, rfl, rfl, ?_⟩) ((r_36 &&& (-41)) ||| (r_11 &&& 40)) d_35 h
                refine st_go 1 (pc' := 221) (lo' := [(6, .int r_11), (0, .ref 38), (1, .int x1), (4, .int x4), (5, .int x5)]) (st' := []) rfl ?_
                exact st_retV rfl rfl (hQ _ h)
              · have h := Eq.mp (if_neg hc_32) h
                refine st_tab (t := 211) rfl (tab_def rfl (by decide) rfl (by
                  intro j hj hx
                  have hj : j < 8 := hj
                  rcases (j = 0 ∨ j = 1 ∨ j = 2 ∨ j = 3 ∨ j = 4 ∨ j = 5 ∨ j = 6 ∨ j = 7 : Prop) |> fun _ => (show j = 0 ∨ j = 1 ∨ j = 2 ∨ j = 3 ∨ j = 4 ∨ j = 5 ∨ j = 6 ∨ j = 7 by omega) with rfl | rfl | rfl | rfl | rfl | rfl | rfl | rfl <;> first | rfl | exact absurd hx hc_12 | exact absurd hx hc_16 | exact absurd hx hc_20 | exact absurd hx hc_24 | exact absurd hx hc_28 | exact absurd hx hc_30 | exact absurd hx hc_32)) ?_
                refine st_go 5 (pc' := 218) (lo' := [(6, .int r_11), (0, .ref 38), (1, .int x1), (4, .int x4), (5, .int x5)]) (st' := [.int 0, .int (x5 ||| r_11), .ref 38]) rfl ?_
                refine st_callv (k' := 109) (as := [.ref 38, .int (x5 ||| r_11), .int 0]) (rest := []) (lo' := [(0, .ref 38), (1, .int (x5 ||| r_11)), (2, .int 0)]) (wf := fun d => wC L d e) rfl rfl rfl ?_
                refine tMachine_combine (fun d_38 h => ⟨d_38, rfl, rfl, ?_⟩) (x5 ||| r_11) 0 d_10 h
                exact st_retV rfl rfl (hQ _ h)
set_option maxRecDepth 100000 in
def Machine_calculate_22 (x1 : Int32) (x2 : Int32) (x3 : Int32) (s0 : Int32) (d : vmD) (Q : vmD → Prop) : Prop :=
  Machine_pairOf x2 d fun r_5 d_4 =>
  if r_5 < 0 then
  (Machine_load 8 d_4 fun r_8 d_7 =>
  if x3 = 0 then
  (Machine_calculate_63 x1 s0 r_8 x2 d_7 Q)
  else
  (Machine_calculate_63 x1 s0 r_8 x3 d_7 Q))
  else
  (Machine_pair x3 d_4 fun r_40 d_39 =>
  Machine_calculateWide x1 x2 r_40 s0 d_39 fun d_41 =>
  Q d_41)
set_option maxRecDepth 100000 in
set_option maxHeartbeats 4000000 in
theorem tMachine_calculate_22 {L : Nat} {e : vmD} {Qo : Option Value → vmW → Prop} {Q : vmD → Prop} (hQ : ∀ d, Q d → Qo none (wC L d e)) (x1 : Int32) (x2 : Int32) (x3 : Int32) (s0 : Int32) (d : vmD) (h : Machine_calculate_22 x1 x2 x3 s0 d Q) : vmWp 106 22 [(0, .ref 38), (1, .int x1), (2, .int x2), (3, .int x3)] [.int s0] (wC L d e) Qo := by
  unfold Machine_calculate_22 at h
  refine st_go 2 (pc' := 25) (lo' := [(4, .int s0), (0, .ref 38), (1, .int x1), (2, .int x2), (3, .int x3)]) (st' := [.int x2]) rfl ?_
  refine st_calli (k' := 95) (as := [.int x2]) (rest := []) (lo' := [(0, .int x2)]) (wf := fun d => wC L d e) rfl rfl rfl ?_
  refine tMachine_pairOf (fun r_5 d_4 h => ⟨r_5, d_4, rfl, rfl, ?_⟩) x2 d h
  by_cases hc_6 : r_5 < 0
  · have h := Eq.mp (if_pos hc_6) h
    refine st_if (t := 45) (b := true) rfl (decide_eq_true hc_6) rfl ?_
    refine st_go 2 (pc' := 48) (lo' := [(4, .int s0), (0, .ref 38), (1, .int x1), (2, .int x2), (3, .int x3)]) (st' := [.int 8, .ref 38]) rfl ?_
    refine st_calli (k' := 92) (as := [.ref 38, .int 8]) (rest := []) (lo' := [(0, .ref 38), (1, .int 8)]) (wf := fun d => wC L d e) rfl rfl rfl ?_
    refine tMachine_load (fun r_8 d_7 h => ⟨r_8, d_7, rfl, rfl, ?_⟩) 8 d_4 h
    refine st_go 3 (pc' := 55) (lo' := [(5, .int r_8), (4, .int s0), (0, .ref 38), (1, .int x1), (2, .int x2), (3, .int x3)]) (st' := [.int x3, .ref 38]) rfl ?_
    by_cases hc_9 : x3 = 0
    · have h := Eq.mp (if_pos hc_9) h
      refine st_if (t := 58) (b := false) rfl (decide_eq_false (fun z => z hc_9)) rfl ?_
      refine st_go 2 (pc' := 63) (lo' := [(5, .int r_8), (4, .int s0), (0, .ref 38), (1, .int x1), (2, .int x2), (3, .int x3)]) (st' := [.int x2, .ref 38]) rfl ?_
      refine vmWp.sub (lo' := [(0, .ref 38), (1, .int x1), (4, .int s0), (5, .int r_8)]) ⟨rfl, rfl, rfl, rfl, trivial⟩ ?_
      exact tMachine_calculate_63 hQ x1 s0 r_8 x2 d_7 h
    · have h := Eq.mp (if_neg hc_9) h
      refine st_if (t := 62) (b := true) rfl (decide_eq_true hc_9) rfl ?_
      refine st_go 1 (pc' := 63) (lo' := [(5, .int r_8), (4, .int s0), (0, .ref 38), (1, .int x1), (2, .int x2), (3, .int x3)]) (st' := [.int x3, .ref 38]) rfl ?_
      refine vmWp.sub (lo' := [(0, .ref 38), (1, .int x1), (4, .int s0), (5, .int r_8)]) ⟨rfl, rfl, rfl, rfl, trivial⟩ ?_
      exact tMachine_calculate_63 hQ x1 s0 r_8 x3 d_7 h
  · have h := Eq.mp (if_neg hc_6) h
    refine st_if (t := 31) (b := false) rfl (decide_eq_false hc_6) rfl ?_
    refine st_go 5 (pc' := 36) (lo' := [(4, .int s0), (0, .ref 38), (1, .int x1), (2, .int x2), (3, .int x3)]) (st' := [.int x3, .ref 38, .int x2, .int x1, .ref 38]) rfl ?_
    refine st_calli (k' := 96) (as := [.ref 38, .int x3]) (rest := [.int x2, .int x1, .ref 38]) (lo' := [(0, .ref 38), (1, .int x3)]) (wf := fun d => wC L d e) rfl rfl rfl ?_
    refine tMachine_pair (fun r_40 d_39 h => ⟨r_40, d_39, rfl, rfl, ?_⟩) x3 d_4 h
    refine st_go 1 (pc' := 41) (lo' := [(4, .int s0), (0, .ref 38), (1, .int x1), (2, .int x2), (3, .int x3)]) (st' := [.int s0, .int r_40, .int x2, .int x1, .ref 38]) rfl ?_
    refine st_callv (k' := 110) (as := [.ref 38, .int x1, .int x2, .int r_40, .int s0]) (rest := []) (lo' := [(0, .ref 38), (1, .int x1), (2, .int x2), (3, .int r_40), (4, .int s0)]) (wf := fun d => wC L d e) rfl rfl rfl ?_
    refine tMachine_calculateWide (fun d_41 h => ⟨d_41, rfl, rfl, ?_⟩) x1 x2 r_40 s0 d_39 h
    exact st_retV rfl rfl (hQ _ h)
set_option maxRecDepth 100000 in
def Machine_calculate_12 (x1 : Int32) (x2 : Int32) (x3 : Int32) (d : vmD) (Q : vmD → Prop) : Prop :=
  Machine_flags d fun r_3 d_2 =>
  Machine_calculate_22 x1 x2 x3 (r_3 &&& 1) d_2 Q
set_option maxRecDepth 100000 in
set_option maxHeartbeats 4000000 in
theorem tMachine_calculate_12 {L : Nat} {e : vmD} {Qo : Option Value → vmW → Prop} {Q : vmD → Prop} (hQ : ∀ d, Q d → Qo none (wC L d e)) (x1 : Int32) (x2 : Int32) (x3 : Int32) (d : vmD) (h : Machine_calculate_12 x1 x2 x3 d Q) : vmWp 106 12 [(0, .ref 38), (1, .int x1), (2, .int x2), (3, .int x3)] [] (wC L d e) Qo := by
  unfold Machine_calculate_12 at h
  refine st_go 1 (pc' := 13) (lo' := [(0, .ref 38), (1, .int x1), (2, .int x2), (3, .int x3)]) (st' := [.ref 38]) rfl ?_
  refine st_calli (k' := 88) (as := [.ref 38]) (rest := []) (lo' := [(0, .ref 38)]) (wf := fun d => wC L d e) rfl rfl rfl ?_
  refine tMachine_flags (fun r_3 d_2 h => ⟨r_3, d_2, rfl, rfl, ?_⟩) d h
  refine st_go 3 (pc' := 22) (lo' := [(0, .ref 38), (1, .int x1), (2, .int x2), (3, .int x3)]) (st' := [.int (r_3 &&& 1)]) rfl ?_
  refine vmWp.sub (lo' := [(0, .ref 38), (1, .int x1), (2, .int x2), (3, .int x3)]) ⟨rfl, rfl, rfl, rfl, trivial⟩ ?_
  exact tMachine_calculate_22 hQ x1 x2 x3 (r_3 &&& 1) d_2 h
set_option maxRecDepth 100000 in
def Machine_calculate (x1 : Int32) (x2 : Int32) (x3 : Int32) (d : vmD) (Q : vmD → Prop) : Prop :=
  if x1 = 49 then
  (Machine_calculate_12 x1 x2 x3 d Q)
  else
  (if x1 = 51 then
  (Machine_calculate_12 x1 x2 x3 d Q)
  else
  (Machine_calculate_22 x1 x2 x3 0 d Q))
set_option maxRecDepth 100000 in
set_option maxHeartbeats 4000000 in
theorem tMachine_calculate {L : Nat} {e : vmD} {Qo : Option Value → vmW → Prop} {Q : vmD → Prop} (hQ : ∀ d, Q d → Qo none (wC L d e)) (x1 : Int32) (x2 : Int32) (x3 : Int32) (d : vmD) (h : Machine_calculate x1 x2 x3 d Q) : vmWp 106 0 [(0, .ref 38), (1, .int x1), (2, .int x2), (3, .int x3)] [] (wC L d e) Qo := by
  unfold Machine_calculate at h
  refine st_go 2 (pc' := 3) (lo' := [(0, .ref 38), (1, .int x1), (2, .int x2), (3, .int x3)]) (st' := [.int 49, .int x1]) rfl ?_
  by_cases hc_1 : x1 = 49
  · have h := Eq.mp (if_pos hc_1) h
    refine st_icmp (t := 12) (b := true) rfl (decide_eq_true hc_1) rfl ?_
    refine vmWp.sub (lo' := [(0, .ref 38), (1, .int x1), (2, .int x2), (3, .int x3)]) ⟨rfl, rfl, rfl, rfl, trivial⟩ ?_
    exact tMachine_calculate_12 hQ x1 x2 x3 d h
  · have h := Eq.mp (if_neg hc_1) h
    refine st_icmp (t := 6) (b := false) rfl (decide_eq_false hc_1) rfl ?_
    refine st_go 2 (pc' := 9) (lo' := [(0, .ref 38), (1, .int x1), (2, .int x2), (3, .int x3)]) (st' := [.int 51, .int x1]) rfl ?_
    by_cases hc_42 : x1 = 51
    · have h := Eq.mp (if_pos hc_42) h
      refine st_icmp (t := 12) (b := false) rfl (decide_eq_false (fun z => z hc_42)) rfl ?_
      refine vmWp.sub (lo' := [(0, .ref 38), (1, .int x1), (2, .int x2), (3, .int x3)]) ⟨rfl, rfl, rfl, rfl, trivial⟩ ?_
      exact tMachine_calculate_12 hQ x1 x2 x3 d h
    · have h := Eq.mp (if_neg hc_42) h
      refine st_icmp (t := 21) (b := true) rfl (decide_eq_true hc_42) rfl ?_
      refine st_go 1 (pc' := 22) (lo' := [(0, .ref 38), (1, .int x1), (2, .int x2), (3, .int x3)]) (st' := [.int 0]) rfl ?_
      refine vmWp.sub (lo' := [(0, .ref 38), (1, .int x1), (2, .int x2), (3, .int x3)]) ⟨rfl, rfl, rfl, rfl, trivial⟩ ?_
      exact tMachine_calculate_22 hQ x1 x2 x3 0 d h
set_option maxRecDepth 100000 in
def Machine_execute_163 (s0 : Int32) (s1 : Int32) (d : vmD) (Q : vmD → Prop) : Prop :=
  Machine_change s1 s0 d fun d_10 =>
  Q d_10
set_option maxRecDepth 100000 in
set_option maxHeartbeats 4000000 in
theorem tMachine_execute_163 {L : Nat} {e : vmD} {Qo : Option Value → vmW → Prop} {Q : vmD → Prop} (hQ : ∀ d, Q d → Qo none (wC L d e)) (s0 : Int32) (s1 : Int32) (d : vmD) (h : Machine_execute_163 s0 s1 d Q) : vmWp 85 163 [] [.int s0, .int s1, .ref 38] (wC L d e) Qo := by
  unfold Machine_execute_163 at h
  refine st_callv (k' := 111) (as := [.ref 38, .int s1, .int s0]) (rest := []) (lo' := [(0, .ref 38), (1, .int s1), (2, .int s0)]) (wf := fun d => wC L d e) rfl rfl rfl ?_
  refine tMachine_change (fun d_10 h => ⟨d_10, rfl, rfl, ?_⟩) s1 s0 d h
  refine st_go 1 (pc' := 214) (lo' := []) (st' := []) rfl ?_
  exact st_retV rfl rfl (hQ _ h)
set_option maxRecDepth 100000 in
def Machine_execute_150 (x1 : Int32) (x2 : Int32) (d : vmD) (Q : vmD → Prop) : Prop :=
  if x1 = 37 then
  (Machine_execute_163 1 x2 d Q)
  else
  (Machine_execute_163 (-1) x2 d Q)
set_option maxRecDepth 100000 in
set_option maxHeartbeats 4000000 in
theorem tMachine_execute_150 {L : Nat} {e : vmD} {Qo : Option Value → vmW → Prop} {Q : vmD → Prop} (hQ : ∀ d, Q d → Qo none (wC L d e)) (x1 : Int32) (x2 : Int32) (d : vmD) (h : Machine_execute_150 x1 x2 d Q) : vmWp 85 150 [(0, .ref 38), (1, .int x1), (2, .int x2)] [] (wC L d e) Qo := by
  unfold Machine_execute_150 at h
  refine st_go 4 (pc' := 155) (lo' := [(0, .ref 38), (1, .int x1), (2, .int x2)]) (st' := [.int 37, .int x1, .int x2, .ref 38]) rfl ?_
  by_cases hc_9 : x1 = 37
  · have h := Eq.mp (if_pos hc_9) h
    refine st_icmp (t := 158) (b := false) rfl (decide_eq_false (fun z => z hc_9)) rfl ?_
    refine st_go 2 (pc' := 163) (lo' := [(0, .ref 38), (1, .int x1), (2, .int x2)]) (st' := [.int 1, .int x2, .ref 38]) rfl ?_
    refine vmWp.sub (lo' := []) trivial ?_
    exact tMachine_execute_163 hQ 1 x2 d h
  · have h := Eq.mp (if_neg hc_9) h
    refine st_icmp (t := 162) (b := true) rfl (decide_eq_true hc_9) rfl ?_
    refine st_go 1 (pc' := 163) (lo' := [(0, .ref 38), (1, .int x1), (2, .int x2)]) (st' := [.int (-1), .int x2, .ref 38]) rfl ?_
    refine vmWp.sub (lo' := []) trivial ?_
    exact tMachine_execute_163 hQ (-1) x2 d h
set_option maxRecDepth 100000 in
def Machine_execute_199 (x1 : Int32) (x2 : Int32) (x3 : Int32) (d : vmD) (Q : vmD → Prop) : Prop :=
  Machine_executeFlow x1 x2 x3 d fun d_14 =>
  Q d_14
set_option maxRecDepth 100000 in
set_option maxHeartbeats 4000000 in
theorem tMachine_execute_199 {L : Nat} {e : vmD} {Qo : Option Value → vmW → Prop} {Q : vmD → Prop} (hQ : ∀ d, Q d → Qo none (wC L d e)) (x1 : Int32) (x2 : Int32) (x3 : Int32) (d : vmD) (h : Machine_execute_199 x1 x2 x3 d Q) : vmWp 85 199 [(0, .ref 38), (1, .int x1), (2, .int x2), (3, .int x3)] [] (wC L d e) Qo := by
  unfold Machine_execute_199 at h
  refine st_go 4 (pc' := 203) (lo' := [(0, .ref 38), (1, .int x1), (2, .int x2), (3, .int x3)]) (st' := [.int x3, .int x2, .int x1, .ref 38]) rfl ?_
  refine st_callv (k' := 86) (as := [.ref 38, .int x1, .int x2, .int x3]) (rest := []) (lo' := [(0, .ref 38), (1, .int x1), (2, .int x2), (3, .int x3)]) (wf := fun d => wC L d e) rfl rfl rfl ?_
  refine tMachine_executeFlow (fun d_14 h => ⟨d_14, rfl, rfl, ?_⟩) x1 x2 x3 d h
  refine st_go 1 (pc' := 214) (lo' := [(0, .ref 38), (1, .int x1), (2, .int x2), (3, .int x3)]) (st' := []) rfl ?_
  exact st_retV rfl rfl (hQ _ h)
set_option maxRecDepth 100000 in
def Machine_execute_181 (x1 : Int32) (x2 : Int32) (x3 : Int32) (d : vmD) (Q : vmD → Prop) : Prop :=
  if x1 = 33 then
  (Machine_execute_199 x1 x2 x3 d Q)
  else
  (if x1 = 34 then
  (Machine_execute_199 x1 x2 x3 d Q)
  else
  (if x1 = 35 then
  (Machine_execute_199 x1 x2 x3 d Q)
  else
  (Machine_executeRest x1 d fun d_17 =>
  Q d_17)))
set_option maxRecDepth 100000 in
set_option maxHeartbeats 4000000 in
theorem tMachine_execute_181 {L : Nat} {e : vmD} {Qo : Option Value → vmW → Prop} {Q : vmD → Prop} (hQ : ∀ d, Q d → Qo none (wC L d e)) (x1 : Int32) (x2 : Int32) (x3 : Int32) (d : vmD) (h : Machine_execute_181 x1 x2 x3 d Q) : vmWp 85 181 [(0, .ref 38), (1, .int x1), (2, .int x2), (3, .int x3)] [] (wC L d e) Qo := by
  unfold Machine_execute_181 at h
  refine st_go 2 (pc' := 184) (lo' := [(0, .ref 38), (1, .int x1), (2, .int x2), (3, .int x3)]) (st' := [.int 33, .int x1]) rfl ?_
  by_cases hc_13 : x1 = 33
  · have h := Eq.mp (if_pos hc_13) h
    refine st_icmp (t := 199) (b := true) rfl (decide_eq_true hc_13) rfl ?_
    refine vmWp.sub (lo' := [(0, .ref 38), (1, .int x1), (2, .int x2), (3, .int x3)]) ⟨rfl, rfl, rfl, rfl, trivial⟩ ?_
    exact tMachine_execute_199 hQ x1 x2 x3 d h
  · have h := Eq.mp (if_neg hc_13) h
    refine st_icmp (t := 187) (b := false) rfl (decide_eq_false hc_13) rfl ?_
    refine st_go 2 (pc' := 190) (lo' := [(0, .ref 38), (1, .int x1), (2, .int x2), (3, .int x3)]) (st' := [.int 34, .int x1]) rfl ?_
    by_cases hc_15 : x1 = 34
    · have h := Eq.mp (if_pos hc_15) h
      refine st_icmp (t := 199) (b := true) rfl (decide_eq_true hc_15) rfl ?_
      refine vmWp.sub (lo' := [(0, .ref 38), (1, .int x1), (2, .int x2), (3, .int x3)]) ⟨rfl, rfl, rfl, rfl, trivial⟩ ?_
      exact tMachine_execute_199 hQ x1 x2 x3 d h
    · have h := Eq.mp (if_neg hc_15) h
      refine st_icmp (t := 193) (b := false) rfl (decide_eq_false hc_15) rfl ?_
      refine st_go 2 (pc' := 196) (lo' := [(0, .ref 38), (1, .int x1), (2, .int x2), (3, .int x3)]) (st' := [.int 35, .int x1]) rfl ?_
      by_cases hc_16 : x1 = 35
      · have h := Eq.mp (if_pos hc_16) h
        refine st_icmp (t := 199) (b := false) rfl (decide_eq_false (fun z => z hc_16)) rfl ?_
        refine vmWp.sub (lo' := [(0, .ref 38), (1, .int x1), (2, .int x2), (3, .int x3)]) ⟨rfl, rfl, rfl, rfl, trivial⟩ ?_
        exact tMachine_execute_199 hQ x1 x2 x3 d h
      · have h := Eq.mp (if_neg hc_16) h
        refine st_icmp (t := 209) (b := true) rfl (decide_eq_true hc_16) rfl ?_
        refine st_go 2 (pc' := 211) (lo' := [(0, .ref 38), (1, .int x1), (2, .int x2), (3, .int x3)]) (st' := [.int x1, .ref 38]) rfl ?_
        refine st_callv (k' := 87) (as := [.ref 38, .int x1]) (rest := []) (lo' := [(0, .ref 38), (1, .int x1)]) (wf := fun d => wC L d e) rfl rfl rfl ?_
        refine tMachine_executeRest (fun d_17 h => ⟨d_17, rfl, rfl, ?_⟩) x1 d h
        exact st_retV rfl rfl (hQ _ h)
set_option maxRecDepth 100000 in
def Machine_execute_123 (x1 : Int32) (x2 : Int32) (x3 : Int32) (d : vmD) (Q : vmD → Prop) : Prop :=
  if x1 = 36 then
  (Machine_transfer x2 x3 d fun d_7 =>
  Q d_7)
  else
  (if x1 = 37 then
  (Machine_execute_150 x1 x2 d Q)
  else
  (if x1 = 38 then
  (Machine_execute_150 x1 x2 d Q)
  else
  (if x1 < 56 then
  (Machine_execute_181 x1 x2 x3 d Q)
  else
  (if (66 : Int32) < x1 then
  (Machine_execute_181 x1 x2 x3 d Q)
  else
  (Machine_execute_199 x1 x2 x3 d Q)))))
set_option maxRecDepth 100000 in
set_option maxHeartbeats 4000000 in
theorem tMachine_execute_123 {L : Nat} {e : vmD} {Qo : Option Value → vmW → Prop} {Q : vmD → Prop} (hQ : ∀ d, Q d → Qo none (wC L d e)) (x1 : Int32) (x2 : Int32) (x3 : Int32) (d : vmD) (h : Machine_execute_123 x1 x2 x3 d Q) : vmWp 85 123 [(0, .ref 38), (1, .int x1), (2, .int x2), (3, .int x3)] [] (wC L d e) Qo := by
  unfold Machine_execute_123 at h
  refine st_go 2 (pc' := 126) (lo' := [(0, .ref 38), (1, .int x1), (2, .int x2), (3, .int x3)]) (st' := [.int 36, .int x1]) rfl ?_
  by_cases hc_6 : x1 = 36
  · have h := Eq.mp (if_pos hc_6) h
    refine st_icmp (t := 129) (b := false) rfl (decide_eq_false (fun z => z hc_6)) rfl ?_
    refine st_go 3 (pc' := 132) (lo' := [(0, .ref 38), (1, .int x1), (2, .int x2), (3, .int x3)]) (st' := [.int x3, .int x2, .ref 38]) rfl ?_
    refine st_callv (k' := 102) (as := [.ref 38, .int x2, .int x3]) (rest := []) (lo' := [(0, .ref 38), (1, .int x2), (2, .int x3)]) (wf := fun d => wC L d e) rfl rfl rfl ?_
    refine tMachine_transfer (fun d_7 h => ⟨d_7, rfl, rfl, ?_⟩) x2 x3 d h
    refine st_go 1 (pc' := 214) (lo' := [(0, .ref 38), (1, .int x1), (2, .int x2), (3, .int x3)]) (st' := []) rfl ?_
    exact st_retV rfl rfl (hQ _ h)
  · have h := Eq.mp (if_neg hc_6) h
    refine st_icmp (t := 138) (b := true) rfl (decide_eq_true hc_6) rfl ?_
    refine st_go 2 (pc' := 141) (lo' := [(0, .ref 38), (1, .int x1), (2, .int x2), (3, .int x3)]) (st' := [.int 37, .int x1]) rfl ?_
    by_cases hc_8 : x1 = 37
    · have h := Eq.mp (if_pos hc_8) h
      refine st_icmp (t := 150) (b := true) rfl (decide_eq_true hc_8) rfl ?_
      refine vmWp.sub (lo' := [(0, .ref 38), (1, .int x1), (2, .int x2)]) ⟨rfl, rfl, rfl, trivial⟩ ?_
      exact tMachine_execute_150 hQ x1 x2 d h
    · have h := Eq.mp (if_neg hc_8) h
      refine st_icmp (t := 144) (b := false) rfl (decide_eq_false hc_8) rfl ?_
      refine st_go 2 (pc' := 147) (lo' := [(0, .ref 38), (1, .int x1), (2, .int x2), (3, .int x3)]) (st' := [.int 38, .int x1]) rfl ?_
      by_cases hc_11 : x1 = 38
      · have h := Eq.mp (if_pos hc_11) h
        refine st_icmp (t := 150) (b := false) rfl (decide_eq_false (fun z => z hc_11)) rfl ?_
        refine vmWp.sub (lo' := [(0, .ref 38), (1, .int x1), (2, .int x2)]) ⟨rfl, rfl, rfl, trivial⟩ ?_
        exact tMachine_execute_150 hQ x1 x2 d h
      · have h := Eq.mp (if_neg hc_11) h
        refine st_icmp (t := 169) (b := true) rfl (decide_eq_true hc_11) rfl ?_
        refine st_go 2 (pc' := 172) (lo' := [(0, .ref 38), (1, .int x1), (2, .int x2), (3, .int x3)]) (st' := [.int 56, .int x1]) rfl ?_
        by_cases hc_12 : x1 < 56
        · have h := Eq.mp (if_pos hc_12) h
          refine st_icmp (t := 181) (b := true) rfl (decide_eq_true hc_12) rfl ?_
          refine vmWp.sub (lo' := [(0, .ref 38), (1, .int x1), (2, .int x2), (3, .int x3)]) ⟨rfl, rfl, rfl, rfl, trivial⟩ ?_
          exact tMachine_execute_181 hQ x1 x2 x3 d h
        · have h := Eq.mp (if_neg hc_12) h
          refine st_icmp (t := 175) (b := false) rfl (decide_eq_false hc_12) rfl ?_
          refine st_go 2 (pc' := 178) (lo' := [(0, .ref 38), (1, .int x1), (2, .int x2), (3, .int x3)]) (st' := [.int 66, .int x1]) rfl ?_
          by_cases hc_18 : (66 : Int32) < x1
          · have h := Eq.mp (if_pos hc_18) h
            refine st_icmp (t := 181) (b := false) rfl (decide_eq_false (Int32.not_le.mpr hc_18)) rfl ?_
            refine vmWp.sub (lo' := [(0, .ref 38), (1, .int x1), (2, .int x2), (3, .int x3)]) ⟨rfl, rfl, rfl, rfl, trivial⟩ ?_
            exact tMachine_execute_181 hQ x1 x2 x3 d h
          · have h := Eq.mp (if_neg hc_18) h
            refine st_icmp (t := 199) (b := true) rfl (decide_eq_true (Int32.not_lt.mp hc_18)) rfl ?_
            refine vmWp.sub (lo' := [(0, .ref 38), (1, .int x1), (2, .int x2), (3, .int x3)]) ⟨rfl, rfl, rfl, rfl, trivial⟩ ?_
            exact tMachine_execute_199 hQ x1 x2 x3 d h
set_option maxRecDepth 100000 in
def Machine_execute_90 (x1 : Int32) (x2 : Int32) (x3 : Int32) (x4 : Int32) (d : vmD) (Q : vmD → Prop) : Prop :=
  if x1 < 83 then
  (Machine_execute_123 x1 x2 x3 d Q)
  else
  (if (98 : Int32) < x1 then
  (Machine_execute_123 x1 x2 x3 d Q)
  else
  (Machine_handleBlock ((x1 - 83) - (x1 - 83) / 4 * 4) ((x1 - 83) / 4) x4 d fun d_20 =>
  Q d_20))
set_option maxRecDepth 100000 in
set_option maxHeartbeats 4000000 in
theorem tMachine_execute_90 {L : Nat} {e : vmD} {Qo : Option Value → vmW → Prop} {Q : vmD → Prop} (hQ : ∀ d, Q d → Qo none (wC L d e)) (x1 : Int32) (x2 : Int32) (x3 : Int32) (x4 : Int32) (d : vmD) (h : Machine_execute_90 x1 x2 x3 x4 d Q) : vmWp 85 90 [(0, .ref 38), (1, .int x1), (2, .int x2), (3, .int x3), (4, .int x4)] [] (wC L d e) Qo := by
  unfold Machine_execute_90 at h
  refine st_go 2 (pc' := 93) (lo' := [(0, .ref 38), (1, .int x1), (2, .int x2), (3, .int x3), (4, .int x4)]) (st' := [.int 83, .int x1]) rfl ?_
  by_cases hc_5 : x1 < 83
  · have h := Eq.mp (if_pos hc_5) h
    refine st_icmp (t := 123) (b := true) rfl (decide_eq_true hc_5) rfl ?_
    refine vmWp.sub (lo' := [(0, .ref 38), (1, .int x1), (2, .int x2), (3, .int x3)]) ⟨rfl, rfl, rfl, rfl, trivial⟩ ?_
    exact tMachine_execute_123 hQ x1 x2 x3 d h
  · have h := Eq.mp (if_neg hc_5) h
    refine st_icmp (t := 96) (b := false) rfl (decide_eq_false hc_5) rfl ?_
    refine st_go 2 (pc' := 99) (lo' := [(0, .ref 38), (1, .int x1), (2, .int x2), (3, .int x3), (4, .int x4)]) (st' := [.int 98, .int x1]) rfl ?_
    by_cases hc_19 : (98 : Int32) < x1
    · have h := Eq.mp (if_pos hc_19) h
      refine st_icmp (t := 123) (b := true) rfl (decide_eq_true hc_19) rfl ?_
      refine vmWp.sub (lo' := [(0, .ref 38), (1, .int x1), (2, .int x2), (3, .int x3)]) ⟨rfl, rfl, rfl, rfl, trivial⟩ ?_
      exact tMachine_execute_123 hQ x1 x2 x3 d h
    · have h := Eq.mp (if_neg hc_19) h
      refine st_icmp (t := 102) (b := false) rfl (decide_eq_false hc_19) rfl ?_
      refine st_go 5 (pc' := 108) (lo' := [(0, .ref 38), (1, .int x1), (2, .int x2), (3, .int x3), (4, .int x4)]) (st' := [.int 4, .int (x1 - 83), .ref 38]) rfl ?_
      refine st_irem rfl (by decide) ?_
      refine st_go 4 (pc' := 114) (lo' := [(0, .ref 38), (1, .int x1), (2, .int x2), (3, .int x3), (4, .int x4)]) (st' := [.int 4, .int (x1 - 83), .int ((x1 - 83) - (x1 - 83) / 4 * 4), .ref 38]) rfl ?_
      refine st_idiv rfl (by decide) ?_
      refine st_go 1 (pc' := 117) (lo' := [(0, .ref 38), (1, .int x1), (2, .int x2), (3, .int x3), (4, .int x4)]) (st' := [.int x4, .int ((x1 - 83) / 4), .int ((x1 - 83) - (x1 - 83) / 4 * 4), .ref 38]) rfl ?_
      refine st_callv (k' := 121) (as := [.ref 38, .int ((x1 - 83) - (x1 - 83) / 4 * 4), .int ((x1 - 83) / 4), .int x4]) (rest := []) (lo' := [(0, .ref 38), (1, .int ((x1 - 83) - (x1 - 83) / 4 * 4)), (2, .int ((x1 - 83) / 4)), (3, .int x4)]) (wf := fun d => wC L d e) rfl rfl rfl ?_
      refine tMachine_handleBlock (fun d_20 h => ⟨d_20, rfl, rfl, ?_⟩) ((x1 - 83) - (x1 - 83) / 4 * 4) ((x1 - 83) / 4) x4 d h
      refine st_go 1 (pc' := 214) (lo' := [(0, .ref 38), (1, .int x1), (2, .int x2), (3, .int x3), (4, .int x4)]) (st' := []) rfl ?_
      exact st_retV rfl rfl (hQ _ h)
set_option maxRecDepth 100000 in
def Machine_execute_69 (x1 : Int32) (x2 : Int32) (x3 : Int32) (x4 : Int32) (d : vmD) (Q : vmD → Prop) : Prop :=
  if x1 < 74 then
  (Machine_execute_90 x1 x2 x3 x4 d Q)
  else
  (if (76 : Int32) < x1 then
  (Machine_execute_90 x1 x2 x3 x4 d Q)
  else
  (Machine_handleBit x1 x3 d fun d_22 =>
  Q d_22))
set_option maxRecDepth 100000 in
set_option maxHeartbeats 4000000 in
theorem tMachine_execute_69 {L : Nat} {e : vmD} {Qo : Option Value → vmW → Prop} {Q : vmD → Prop} (hQ : ∀ d, Q d → Qo none (wC L d e)) (x1 : Int32) (x2 : Int32) (x3 : Int32) (x4 : Int32) (d : vmD) (h : Machine_execute_69 x1 x2 x3 x4 d Q) : vmWp 85 69 [(0, .ref 38), (1, .int x1), (2, .int x2), (3, .int x3), (4, .int x4)] [] (wC L d e) Qo := by
  unfold Machine_execute_69 at h
  refine st_go 2 (pc' := 72) (lo' := [(0, .ref 38), (1, .int x1), (2, .int x2), (3, .int x3), (4, .int x4)]) (st' := [.int 74, .int x1]) rfl ?_
  by_cases hc_4 : x1 < 74
  · have h := Eq.mp (if_pos hc_4) h
    refine st_icmp (t := 90) (b := true) rfl (decide_eq_true hc_4) rfl ?_
    refine vmWp.sub (lo' := [(0, .ref 38), (1, .int x1), (2, .int x2), (3, .int x3), (4, .int x4)]) ⟨rfl, rfl, rfl, rfl, rfl, trivial⟩ ?_
    exact tMachine_execute_90 hQ x1 x2 x3 x4 d h
  · have h := Eq.mp (if_neg hc_4) h
    refine st_icmp (t := 75) (b := false) rfl (decide_eq_false hc_4) rfl ?_
    refine st_go 2 (pc' := 78) (lo' := [(0, .ref 38), (1, .int x1), (2, .int x2), (3, .int x3), (4, .int x4)]) (st' := [.int 76, .int x1]) rfl ?_
    by_cases hc_21 : (76 : Int32) < x1
    · have h := Eq.mp (if_pos hc_21) h
      refine st_icmp (t := 90) (b := true) rfl (decide_eq_true hc_21) rfl ?_
      refine vmWp.sub (lo' := [(0, .ref 38), (1, .int x1), (2, .int x2), (3, .int x3), (4, .int x4)]) ⟨rfl, rfl, rfl, rfl, rfl, trivial⟩ ?_
      exact tMachine_execute_90 hQ x1 x2 x3 x4 d h
    · have h := Eq.mp (if_neg hc_21) h
      refine st_icmp (t := 81) (b := false) rfl (decide_eq_false hc_21) rfl ?_
      refine st_go 3 (pc' := 84) (lo' := [(0, .ref 38), (1, .int x1), (2, .int x2), (3, .int x3), (4, .int x4)]) (st' := [.int x3, .int x1, .ref 38]) rfl ?_
      refine st_callv (k' := 116) (as := [.ref 38, .int x1, .int x3]) (rest := []) (lo' := [(0, .ref 38), (1, .int x1), (2, .int x3)]) (wf := fun d => wC L d e) rfl rfl rfl ?_
      refine tMachine_handleBit (fun d_22 h => ⟨d_22, rfl, rfl, ?_⟩) x1 x3 d h
      refine st_go 1 (pc' := 214) (lo' := [(0, .ref 38), (1, .int x1), (2, .int x2), (3, .int x3), (4, .int x4)]) (st' := []) rfl ?_
      exact st_retV rfl rfl (hQ _ h)
set_option maxRecDepth 100000 in
def Machine_execute_45 (x1 : Int32) (x2 : Int32) (x3 : Int32) (x4 : Int32) (d : vmD) (Q : vmD → Prop) : Prop :=
  if x1 < 67 then
  (Machine_execute_69 x1 x2 x3 x4 d Q)
  else
  (if (73 : Int32) < x1 then
  (Machine_execute_69 x1 x2 x3 x4 d Q)
  else
  (Machine_turn (x1 - 67) x2 d fun d_24 =>
  Q d_24))
set_option maxRecDepth 100000 in
set_option maxHeartbeats 4000000 in
theorem tMachine_execute_45 {L : Nat} {e : vmD} {Qo : Option Value → vmW → Prop} {Q : vmD → Prop} (hQ : ∀ d, Q d → Qo none (wC L d e)) (x1 : Int32) (x2 : Int32) (x3 : Int32) (x4 : Int32) (d : vmD) (h : Machine_execute_45 x1 x2 x3 x4 d Q) : vmWp 85 45 [(0, .ref 38), (1, .int x1), (2, .int x2), (3, .int x3), (4, .int x4)] [] (wC L d e) Qo := by
  unfold Machine_execute_45 at h
  refine st_go 2 (pc' := 48) (lo' := [(0, .ref 38), (1, .int x1), (2, .int x2), (3, .int x3), (4, .int x4)]) (st' := [.int 67, .int x1]) rfl ?_
  by_cases hc_3 : x1 < 67
  · have h := Eq.mp (if_pos hc_3) h
    refine st_icmp (t := 69) (b := true) rfl (decide_eq_true hc_3) rfl ?_
    refine vmWp.sub (lo' := [(0, .ref 38), (1, .int x1), (2, .int x2), (3, .int x3), (4, .int x4)]) ⟨rfl, rfl, rfl, rfl, rfl, trivial⟩ ?_
    exact tMachine_execute_69 hQ x1 x2 x3 x4 d h
  · have h := Eq.mp (if_neg hc_3) h
    refine st_icmp (t := 51) (b := false) rfl (decide_eq_false hc_3) rfl ?_
    refine st_go 2 (pc' := 54) (lo' := [(0, .ref 38), (1, .int x1), (2, .int x2), (3, .int x3), (4, .int x4)]) (st' := [.int 73, .int x1]) rfl ?_
    by_cases hc_23 : (73 : Int32) < x1
    · have h := Eq.mp (if_pos hc_23) h
      refine st_icmp (t := 69) (b := true) rfl (decide_eq_true hc_23) rfl ?_
      refine vmWp.sub (lo' := [(0, .ref 38), (1, .int x1), (2, .int x2), (3, .int x3), (4, .int x4)]) ⟨rfl, rfl, rfl, rfl, rfl, trivial⟩ ?_
      exact tMachine_execute_69 hQ x1 x2 x3 x4 d h
    · have h := Eq.mp (if_neg hc_23) h
      refine st_icmp (t := 57) (b := false) rfl (decide_eq_false hc_23) rfl ?_
      refine st_go 5 (pc' := 63) (lo' := [(0, .ref 38), (1, .int x1), (2, .int x2), (3, .int x3), (4, .int x4)]) (st' := [.int x2, .int (x1 - 67), .ref 38]) rfl ?_
      refine st_callv (k' := 115) (as := [.ref 38, .int (x1 - 67), .int x2]) (rest := []) (lo' := [(0, .ref 38), (1, .int (x1 - 67)), (2, .int x2)]) (wf := fun d => wC L d e) rfl rfl rfl ?_
      refine tMachine_turn (fun d_24 h => ⟨d_24, rfl, rfl, ?_⟩) (x1 - 67) x2 d h
      refine st_go 1 (pc' := 214) (lo' := [(0, .ref 38), (1, .int x1), (2, .int x2), (3, .int x3), (4, .int x4)]) (st' := []) rfl ?_
      exact st_retV rfl rfl (hQ _ h)
set_option maxRecDepth 100000 in
def Machine_execute_22 (x1 : Int32) (x2 : Int32) (x3 : Int32) (x4 : Int32) (d : vmD) (Q : vmD → Prop) : Prop :=
  if x1 < 39 then
  (Machine_execute_45 x1 x2 x3 x4 d Q)
  else
  (if (42 : Int32) < x1 then
  (Machine_execute_45 x1 x2 x3 x4 d Q)
  else
  (Machine_turnA (x1 - 39) d fun d_26 =>
  Q d_26))
set_option maxRecDepth 100000 in
set_option maxHeartbeats 4000000 in
theorem tMachine_execute_22 {L : Nat} {e : vmD} {Qo : Option Value → vmW → Prop} {Q : vmD → Prop} (hQ : ∀ d, Q d → Qo none (wC L d e)) (x1 : Int32) (x2 : Int32) (x3 : Int32) (x4 : Int32) (d : vmD) (h : Machine_execute_22 x1 x2 x3 x4 d Q) : vmWp 85 22 [(0, .ref 38), (1, .int x1), (2, .int x2), (3, .int x3), (4, .int x4)] [] (wC L d e) Qo := by
  unfold Machine_execute_22 at h
  refine st_go 2 (pc' := 25) (lo' := [(0, .ref 38), (1, .int x1), (2, .int x2), (3, .int x3), (4, .int x4)]) (st' := [.int 39, .int x1]) rfl ?_
  by_cases hc_2 : x1 < 39
  · have h := Eq.mp (if_pos hc_2) h
    refine st_icmp (t := 45) (b := true) rfl (decide_eq_true hc_2) rfl ?_
    refine vmWp.sub (lo' := [(0, .ref 38), (1, .int x1), (2, .int x2), (3, .int x3), (4, .int x4)]) ⟨rfl, rfl, rfl, rfl, rfl, trivial⟩ ?_
    exact tMachine_execute_45 hQ x1 x2 x3 x4 d h
  · have h := Eq.mp (if_neg hc_2) h
    refine st_icmp (t := 28) (b := false) rfl (decide_eq_false hc_2) rfl ?_
    refine st_go 2 (pc' := 31) (lo' := [(0, .ref 38), (1, .int x1), (2, .int x2), (3, .int x3), (4, .int x4)]) (st' := [.int 42, .int x1]) rfl ?_
    by_cases hc_25 : (42 : Int32) < x1
    · have h := Eq.mp (if_pos hc_25) h
      refine st_icmp (t := 45) (b := true) rfl (decide_eq_true hc_25) rfl ?_
      refine vmWp.sub (lo' := [(0, .ref 38), (1, .int x1), (2, .int x2), (3, .int x3), (4, .int x4)]) ⟨rfl, rfl, rfl, rfl, rfl, trivial⟩ ?_
      exact tMachine_execute_45 hQ x1 x2 x3 x4 d h
    · have h := Eq.mp (if_neg hc_25) h
      refine st_icmp (t := 34) (b := false) rfl (decide_eq_false hc_25) rfl ?_
      refine st_go 4 (pc' := 39) (lo' := [(0, .ref 38), (1, .int x1), (2, .int x2), (3, .int x3), (4, .int x4)]) (st' := [.int (x1 - 39), .ref 38]) rfl ?_
      refine st_callv (k' := 114) (as := [.ref 38, .int (x1 - 39)]) (rest := []) (lo' := [(0, .ref 38), (1, .int (x1 - 39))]) (wf := fun d => wC L d e) rfl rfl rfl ?_
      refine tMachine_turnA (fun d_26 h => ⟨d_26, rfl, rfl, ?_⟩) (x1 - 39) d h
      refine st_go 1 (pc' := 214) (lo' := [(0, .ref 38), (1, .int x1), (2, .int x2), (3, .int x3), (4, .int x4)]) (st' := []) rfl ?_
      exact st_retV rfl rfl (hQ _ h)
set_option maxRecDepth 100000 in
def Machine_execute (x1 : Int32) (x2 : Int32) (x3 : Int32) (x4 : Int32) (d : vmD) (Q : vmD → Prop) : Prop :=
  if x1 < 48 then
  (Machine_execute_22 x1 x2 x3 x4 d Q)
  else
  (if (55 : Int32) < x1 then
  (Machine_execute_22 x1 x2 x3 x4 d Q)
  else
  (Machine_calculate x1 x2 x3 d fun d_28 =>
  Q d_28))
set_option maxRecDepth 100000 in
set_option maxHeartbeats 4000000 in
theorem tMachine_execute {L : Nat} {e : vmD} {Qo : Option Value → vmW → Prop} {Q : vmD → Prop} (hQ : ∀ d, Q d → Qo none (wC L d e)) (x1 : Int32) (x2 : Int32) (x3 : Int32) (x4 : Int32) (d : vmD) (h : Machine_execute x1 x2 x3 x4 d Q) : vmWp 85 0 [(0, .ref 38), (1, .int x1), (2, .int x2), (3, .int x3), (4, .int x4)] [] (wC L d e) Qo := by
  unfold Machine_execute at h
  refine st_go 2 (pc' := 3) (lo' := [(0, .ref 38), (1, .int x1), (2, .int x2), (3, .int x3), (4, .int x4)]) (st' := [.int 48, .int x1]) rfl ?_
  by_cases hc_1 : x1 < 48
  · have h := Eq.mp (if_pos hc_1) h
    refine st_icmp (t := 22) (b := true) rfl (decide_eq_true hc_1) rfl ?_
    refine vmWp.sub (lo' := [(0, .ref 38), (1, .int x1), (2, .int x2), (3, .int x3), (4, .int x4)]) ⟨rfl, rfl, rfl, rfl, rfl, trivial⟩ ?_
    exact tMachine_execute_22 hQ x1 x2 x3 x4 d h
  · have h := Eq.mp (if_neg hc_1) h
    refine st_icmp (t := 6) (b := false) rfl (decide_eq_false hc_1) rfl ?_
    refine st_go 2 (pc' := 9) (lo' := [(0, .ref 38), (1, .int x1), (2, .int x2), (3, .int x3), (4, .int x4)]) (st' := [.int 55, .int x1]) rfl ?_
    by_cases hc_27 : (55 : Int32) < x1
    · have h := Eq.mp (if_pos hc_27) h
      refine st_icmp (t := 22) (b := true) rfl (decide_eq_true hc_27) rfl ?_
      refine vmWp.sub (lo' := [(0, .ref 38), (1, .int x1), (2, .int x2), (3, .int x3), (4, .int x4)]) ⟨rfl, rfl, rfl, rfl, rfl, trivial⟩ ?_
      exact tMachine_execute_22 hQ x1 x2 x3 x4 d h
    · have h := Eq.mp (if_neg hc_27) h
      refine st_icmp (t := 12) (b := false) rfl (decide_eq_false hc_27) rfl ?_
      refine st_go 4 (pc' := 16) (lo' := [(0, .ref 38), (1, .int x1), (2, .int x2), (3, .int x3), (4, .int x4)]) (st' := [.int x3, .int x2, .int x1, .ref 38]) rfl ?_
      refine st_callv (k' := 106) (as := [.ref 38, .int x1, .int x2, .int x3]) (rest := []) (lo' := [(0, .ref 38), (1, .int x1), (2, .int x2), (3, .int x3)]) (wf := fun d => wC L d e) rfl rfl rfl ?_
      refine tMachine_calculate (fun d_28 h => ⟨d_28, rfl, rfl, ?_⟩) x1 x2 x3 d h
      refine st_go 1 (pc' := 214) (lo' := [(0, .ref 38), (1, .int x1), (2, .int x2), (3, .int x3), (4, .int x4)]) (st' := []) rfl ?_
      exact st_retV rfl rfl (hQ _ h)
set_option maxRecDepth 100000 in
def Machine_takeRequest_48 (d : vmD) (Q : vmD → Prop) : Prop :=
  bnd (gA d 39 11) fun y_9 =>
  Machine_push y_9 d fun d_10 =>
  bnd (sA d_10 39 14 (0 : Int32)) fun d_11 =>
  if (gF d_11 38 7) = 0 then
  (bnd (sF d_11 38 6 0) fun d_13 =>
  bnd (sA d_13 39 15 (0 : Int32)) fun d_14 =>
  bnd (gA d_14 39 16) fun y_15 =>
  if y_15 = 0 then
  (bnd (sA d_14 39 11 ((gF d_14 38 8) &&& 56)) fun d_17 =>
  Q d_17)
  else
  (bnd (gA d_14 39 16) fun y_18 =>
  if y_18 = 1 then
  (bnd (sA d_14 39 11 (56 : Int32)) fun d_20 =>
  Q d_20)
  else
  (bnd (gA d_14 39 12) fun y_21 =>
  Memory_wordAt (((256 : Int32) * y_21) + (gF d_14 38 8)) d_14 fun r_23 d_22 =>
  bnd (sA d_22 39 11 r_23) fun d_24 =>
  Q d_24)))
  else
  (bnd (sF d_11 38 7 0) fun d_25 =>
  bnd (sA d_25 39 11 (102 : Int32)) fun d_26 =>
  Q d_26)
set_option maxRecDepth 100000 in
set_option maxHeartbeats 4000000 in
theorem tMachine_takeRequest_48 {L : Nat} {e : vmD} {Qo : Option Value → vmW → Prop} {Q : vmD → Prop} (hQ : ∀ d, Q d → Qo none (wC L d e)) (d : vmD) (h : Machine_takeRequest_48 d Q) : vmWp 84 48 [(0, .ref 38)] [] (wC L d e) Qo := by
  unfold Machine_takeRequest_48 at h
  refine st_go 4 (pc' := 55) (lo' := [(0, .ref 38)]) (st' := [.int 11, .ref 39, .ref 38]) rfl ?_
  refine st_ialdC (o := 39) rfl rfl (show ixOk 11 17 by decide) rfl (fun y_9 hy_y_9 => ?_)
  have h := h y_9 hy_y_9
  refine st_callv (k' := 98) (as := [.ref 38, .int y_9]) (rest := []) (lo' := [(0, .ref 38), (1, .int y_9)]) (wf := fun d => wC L d e) rfl rfl rfl ?_
  refine tMachine_push (fun d_10 h => ⟨d_10, rfl, rfl, ?_⟩) y_9 d h
  refine st_go 4 (pc' := 66) (lo' := [(0, .ref 38)]) (st' := [.int 0, .int 14, .ref 39]) rfl ?_
  refine st_iastC (o := 39) rfl rfl (show ixOk 14 17 by decide) rfl (fun d_11 hy_d_11 => ?_)
  have h := h d_11 hy_d_11
  refine st_go 2 (pc' := 71) (lo' := [(0, .ref 38)]) (st' := [.int (gF d_11 38 7)]) rfl ?_
  by_cases hc_12 : (gF d_11 38 7) = 0
  · have h := Eq.mp (if_pos hc_12) h
    refine st_if (t := 89) (b := true) rfl (decide_eq_true hc_12) rfl ?_
    refine st_go 2 (pc' := 91) (lo' := [(0, .ref 38)]) (st' := [.int 0, .ref 38]) rfl ?_
    refine st_putZC (o := 38) (f := 6) rfl rfl rfl rfl (Or.inl rfl) rfl (fun d_13 hy_d_13 => ?_)
    have h := h d_13 hy_d_13
    refine st_go 4 (pc' := 101) (lo' := [(0, .ref 38)]) (st' := [.int 0, .int 15, .ref 39]) rfl ?_
    refine st_iastC (o := 39) rfl rfl (show ixOk 15 17 by decide) rfl (fun d_14 hy_d_14 => ?_)
    have h := h d_14 hy_d_14
    refine st_go 3 (pc' := 108) (lo' := [(0, .ref 38)]) (st' := [.int 16, .ref 39]) rfl ?_
    refine st_ialdC (o := 39) rfl rfl (show ixOk 16 17 by decide) rfl (fun y_15 hy_y_15 => ?_)
    have h := h y_15 hy_y_15
    by_cases hc_16 : y_15 = 0
    · have h := Eq.mp (if_pos hc_16) h
      refine st_if (t := 112) (b := false) rfl (decide_eq_false (fun z => z hc_16)) rfl ?_
      refine st_go 7 (pc' := 125) (lo' := [(0, .ref 38)]) (st' := [.int ((gF d_14 38 8) &&& 56), .int 11, .ref 39]) rfl ?_
      refine st_iastC (o := 39) rfl rfl (show ixOk 11 17 by decide) rfl (fun d_17 hy_d_17 => ?_)
      have h := h d_17 hy_d_17
      refine st_go 1 (pc' := 182) (lo' := [(0, .ref 38)]) (st' := []) rfl ?_
      exact st_retV rfl rfl (hQ _ h)
    · have h := Eq.mp (if_neg hc_16) h
      refine st_if (t := 129) (b := true) rfl (decide_eq_true hc_16) rfl ?_
      refine st_go 3 (pc' := 135) (lo' := [(0, .ref 38)]) (st' := [.int 16, .ref 39]) rfl ?_
      refine st_ialdC (o := 39) rfl rfl (show ixOk 16 17 by decide) rfl (fun y_18 hy_y_18 => ?_)
      have h := h y_18 hy_y_18
      refine st_go 1 (pc' := 137) (lo' := [(0, .ref 38)]) (st' := [.int 1, .int y_18]) rfl ?_
      by_cases hc_19 : y_18 = 1
      · have h := Eq.mp (if_pos hc_19) h
        refine st_icmp (t := 140) (b := false) rfl (decide_eq_false (fun z => z hc_19)) rfl ?_
        refine st_go 4 (pc' := 148) (lo' := [(0, .ref 38)]) (st' := [.int 56, .int 11, .ref 39]) rfl ?_
        refine st_iastC (o := 39) rfl rfl (show ixOk 11 17 by decide) rfl (fun d_20 hy_d_20 => ?_)
        have h := h d_20 hy_d_20
        refine st_go 1 (pc' := 182) (lo' := [(0, .ref 38)]) (st' := []) rfl ?_
        exact st_retV rfl rfl (hQ _ h)
      · have h := Eq.mp (if_neg hc_19) h
        refine st_icmp (t := 152) (b := true) rfl (decide_eq_true hc_19) rfl ?_
        refine st_go 9 (pc' := 171) (lo' := [(0, .ref 38)]) (st' := [.int 12, .ref 39, .int 256, .ref 1, .int 11, .ref 39]) rfl ?_
        refine st_ialdC (o := 39) rfl rfl (show ixOk 12 17 by decide) rfl (fun y_21 hy_y_21 => ?_)
        have h := h y_21 hy_y_21
        refine st_go 4 (pc' := 178) (lo' := [(0, .ref 38)]) (st' := [.int (((256 : Int32) * y_21) + (gF d_14 38 8)), .ref 1, .int 11, .ref 39]) rfl ?_
        refine st_calli (k' := 129) (as := [.ref 1, .int (((256 : Int32) * y_21) + (gF d_14 38 8))]) (rest := [.int 11, .ref 39]) (lo' := [(0, .ref 1), (1, .int (((256 : Int32) * y_21) + (gF d_14 38 8)))]) (wf := fun d => wC L d e) rfl rfl rfl ?_
        refine tMemory_wordAt (fun r_23 d_22 h => ⟨r_23, d_22, rfl, rfl, ?_⟩) (((256 : Int32) * y_21) + (gF d_14 38 8)) d_14 h
        refine st_iastC (o := 39) rfl rfl (show ixOk 11 17 by decide) rfl (fun d_24 hy_d_24 => ?_)
        have h := h d_24 hy_d_24
        exact st_retV rfl rfl (hQ _ h)
  · have h := Eq.mp (if_neg hc_12) h
    refine st_if (t := 74) (b := false) rfl (decide_eq_false hc_12) rfl ?_
    refine st_go 2 (pc' := 76) (lo' := [(0, .ref 38)]) (st' := [.int 0, .ref 38]) rfl ?_
    refine st_putZC (o := 38) (f := 7) rfl rfl rfl rfl (Or.inl rfl) rfl (fun d_25 hy_d_25 => ?_)
    have h := h d_25 hy_d_25
    refine st_go 4 (pc' := 87) (lo' := [(0, .ref 38)]) (st' := [.int 102, .int 11, .ref 39]) rfl ?_
    refine st_iastC (o := 39) rfl rfl (show ixOk 11 17 by decide) rfl (fun d_26 hy_d_26 => ?_)
    have h := h d_26 hy_d_26
    exact st_retV rfl rfl (hQ _ h)
set_option maxRecDepth 100000 in
def Machine_takeRequest (d : vmD) (Q : vmD → Prop) : Prop :=
  Machine_refresh 0 d fun d_1 =>
  bnd (sF d_1 38 9 0) fun d_2 =>
  bnd (gA d_2 39 11) fun y_3 =>
  Memory_at y_3 d_2 fun r_5 d_4 =>
  if r_5 = 118 then
  (bnd (gA d_4 39 11) fun y_7 =>
  bnd (sA d_4 39 11 ((y_7 + 1) &&& 65535)) fun d_8 =>
  Machine_takeRequest_48 d_8 Q)
  else
  (Machine_takeRequest_48 d_4 Q)
set_option maxRecDepth 100000 in
set_option maxHeartbeats 4000000 in
theorem tMachine_takeRequest {L : Nat} {e : vmD} {Qo : Option Value → vmW → Prop} {Q : vmD → Prop} (hQ : ∀ d, Q d → Qo none (wC L d e)) (d : vmD) (h : Machine_takeRequest d Q) : vmWp 84 0 [(0, .ref 38)] [] (wC L d e) Qo := by
  unfold Machine_takeRequest at h
  refine st_go 2 (pc' := 2) (lo' := [(0, .ref 38)]) (st' := [.int 0, .ref 38]) rfl ?_
  refine st_callv (k' := 83) (as := [.ref 38, .int 0]) (rest := []) (lo' := [(0, .ref 38), (1, .int 0)]) (wf := fun d => wC L d e) rfl rfl rfl ?_
  refine tMachine_refresh (fun d_1 h => ⟨d_1, rfl, rfl, ?_⟩) 0 d h
  refine st_go 2 (pc' := 7) (lo' := [(0, .ref 38)]) (st' := [.int 0, .ref 38]) rfl ?_
  refine st_putZC (o := 38) (f := 9) rfl rfl rfl rfl (Or.inl rfl) rfl (fun d_2 hy_d_2 => ?_)
  have h := h d_2 hy_d_2
  refine st_go 5 (pc' := 20) (lo' := [(0, .ref 38)]) (st' := [.int 11, .ref 39, .ref 1]) rfl ?_
  refine st_ialdC (o := 39) rfl rfl (show ixOk 11 17 by decide) rfl (fun y_3 hy_y_3 => ?_)
  have h := h y_3 hy_y_3
  refine st_calli (k' := 128) (as := [.ref 1, .int y_3]) (rest := []) (lo' := [(0, .ref 1), (1, .int y_3)]) (wf := fun d => wC L d e) rfl rfl rfl ?_
  refine tMemory_at (fun r_5 d_4 h => ⟨r_5, d_4, rfl, rfl, ?_⟩) y_3 d_2 h
  refine st_go 1 (pc' := 26) (lo' := [(0, .ref 38)]) (st' := [.int 118, .int r_5]) rfl ?_
  by_cases hc_6 : r_5 = 118
  · have h := Eq.mp (if_pos hc_6) h
    refine st_icmp (t := 29) (b := false) rfl (decide_eq_false (fun z => z hc_6)) rfl ?_
    refine st_go 6 (pc' := 41) (lo' := [(0, .ref 38)]) (st' := [.int 11, .ref 39, .int 11, .ref 39]) rfl ?_
    refine st_ialdC (o := 39) rfl rfl (show ixOk 11 17 by decide) rfl (fun y_7 hy_y_7 => ?_)
    have h := h y_7 hy_y_7
    refine st_go 4 (pc' := 47) (lo' := [(0, .ref 38)]) (st' := [.int ((y_7 + 1) &&& 65535), .int 11, .ref 39]) rfl ?_
    refine st_iastC (o := 39) rfl rfl (show ixOk 11 17 by decide) rfl (fun d_8 hy_d_8 => ?_)
    have h := h d_8 hy_d_8
    refine vmWp.sub (lo' := [(0, .ref 38)]) ⟨rfl, trivial⟩ ?_
    exact tMachine_takeRequest_48 hQ d_8 h
  · have h := Eq.mp (if_neg hc_6) h
    refine st_icmp (t := 48) (b := true) rfl (decide_eq_true hc_6) rfl ?_
    refine vmWp.sub (lo' := [(0, .ref 38)]) ⟨rfl, trivial⟩ ?_
    exact tMachine_takeRequest_48 hQ d_4 h
set_option maxRecDepth 100000 in
def Machine_advance_141 (x1 : Int32) (x2 : Int32) (s0 : Int32) (d : vmD) (Q : Int32 → vmD → Prop) : Prop :=
  (s0 = 0 ∨ s0 = 1) ∧
  bnd (sF d 38 9 s0) fun d_22 =>
  Instruction_word d_22 fun r_25 d_24 =>
  Instruction_first d_24 fun r_27 d_26 =>
  Instruction_second d_26 fun r_29 d_28 =>
  Machine_execute r_25 r_27 r_29 x1 d_28 fun d_30 =>
  if x2 = 0 then
  (Q 1 d_30)
  else
  (Q 3 d_30)
set_option maxRecDepth 100000 in
set_option maxHeartbeats 4000000 in
theorem tMachine_advance_141 {L : Nat} {e : vmD} {Qo : Option Value → vmW → Prop} {Q : Int32 → vmD → Prop} (hQ : ∀ r d, Q r d → Qo (some (.int r)) (wC L d e)) (x1 : Int32) (x2 : Int32) (s0 : Int32) (d : vmD) (h : Machine_advance_141 x1 x2 s0 d Q) : vmWp 82 141 [(0, .ref 38), (1, .int x1), (2, .int x2)] [.int s0, .ref 38] (wC L d e) Qo := by
  unfold Machine_advance_141 at h
  obtain ⟨hz_23, h⟩ := h
  refine st_putZC (o := 38) (f := 9) rfl rfl rfl rfl hz_23 rfl (fun d_22 hy_d_22 => ?_)
  have h := h d_22 hy_d_22
  refine st_go 3 (pc' := 149) (lo' := [(0, .ref 38), (1, .int x1), (2, .int x2)]) (st' := [.ref 19, .ref 38]) rfl ?_
  refine st_calli (k' := 64) (as := [.ref 19]) (rest := [.ref 38]) (lo' := [(0, .ref 19)]) (wf := fun d => wC L d e) rfl rfl rfl ?_
  refine tInstruction_word (fun r_25 d_24 h => ⟨r_25, d_24, rfl, rfl, ?_⟩) d_22 h
  refine st_go 2 (pc' := 156) (lo' := [(0, .ref 38), (1, .int x1), (2, .int x2)]) (st' := [.ref 19, .int r_25, .ref 38]) rfl ?_
  refine st_calli (k' := 65) (as := [.ref 19]) (rest := [.int r_25, .ref 38]) (lo' := [(0, .ref 19)]) (wf := fun d => wC L d e) rfl rfl rfl ?_
  refine tInstruction_first (fun r_27 d_26 h => ⟨r_27, d_26, rfl, rfl, ?_⟩) d_24 h
  refine st_go 2 (pc' := 163) (lo' := [(0, .ref 38), (1, .int x1), (2, .int x2)]) (st' := [.ref 19, .int r_27, .int r_25, .ref 38]) rfl ?_
  refine st_calli (k' := 66) (as := [.ref 19]) (rest := [.int r_27, .int r_25, .ref 38]) (lo' := [(0, .ref 19)]) (wf := fun d => wC L d e) rfl rfl rfl ?_
  refine tInstruction_second (fun r_29 d_28 h => ⟨r_29, d_28, rfl, rfl, ?_⟩) d_26 h
  refine st_go 1 (pc' := 167) (lo' := [(0, .ref 38), (1, .int x1), (2, .int x2)]) (st' := [.int x1, .int r_29, .int r_27, .int r_25, .ref 38]) rfl ?_
  refine st_callv (k' := 85) (as := [.ref 38, .int r_25, .int r_27, .int r_29, .int x1]) (rest := []) (lo' := [(0, .ref 38), (1, .int r_25), (2, .int r_27), (3, .int r_29), (4, .int x1)]) (wf := fun d => wC L d e) rfl rfl rfl ?_
  refine tMachine_execute (fun d_30 h => ⟨d_30, rfl, rfl, ?_⟩) r_25 r_27 r_29 x1 d_28 h
  refine st_go 1 (pc' := 171) (lo' := [(0, .ref 38), (1, .int x1), (2, .int x2)]) (st' := [.int x2]) rfl ?_
  by_cases hc_31 : x2 = 0
  · have h := Eq.mp (if_pos hc_31) h
    refine st_if (t := 178) (b := true) rfl (decide_eq_true hc_31) rfl ?_
    refine st_go 1 (pc' := 179) (lo' := [(0, .ref 38), (1, .int x1), (2, .int x2)]) (st' := [.int 1]) rfl ?_
    exact st_retI rfl rfl (hQ _ _ h)
  · have h := Eq.mp (if_neg hc_31) h
    refine st_if (t := 174) (b := false) rfl (decide_eq_false hc_31) rfl ?_
    refine st_go 2 (pc' := 179) (lo' := [(0, .ref 38), (1, .int x1), (2, .int x2)]) (st' := [.int 3]) rfl ?_
    exact st_retI rfl rfl (hQ _ _ h)
set_option maxRecDepth 100000 in
def Machine_advance_122 (x1 : Int32) (x2 : Int32) (s0 : Int32) (s1 : Int32) (d : vmD) (Q : Int32 → vmD → Prop) : Prop :=
  ixOk s1 17 ∧
  bnd (sA d 39 s1.toNatClampNeg s0) fun d_18 =>
  Instruction_word d_18 fun r_20 d_19 =>
  if r_20 = 63 then
  (Machine_advance_141 x1 x2 1 d_19 Q)
  else
  (Machine_advance_141 x1 x2 0 d_19 Q)
set_option maxRecDepth 100000 in
set_option maxHeartbeats 4000000 in
theorem tMachine_advance_122 {L : Nat} {e : vmD} {Qo : Option Value → vmW → Prop} {Q : Int32 → vmD → Prop} (hQ : ∀ r d, Q r d → Qo (some (.int r)) (wC L d e)) (x1 : Int32) (x2 : Int32) (s0 : Int32) (s1 : Int32) (d : vmD) (h : Machine_advance_122 x1 x2 s0 s1 d Q) : vmWp 82 122 [(0, .ref 38), (1, .int x1), (2, .int x2)] [.int s0, .int s1, .ref 39] (wC L d e) Qo := by
  unfold Machine_advance_122 at h
  obtain ⟨hj_17, h⟩ := h
  refine st_iastC (o := 39) rfl rfl hj_17 rfl (fun d_18 hy_d_18 => ?_)
  have h := h d_18 hy_d_18
  refine st_go 3 (pc' := 128) (lo' := [(0, .ref 38), (1, .int x1), (2, .int x2)]) (st' := [.ref 19, .ref 38]) rfl ?_
  refine st_calli (k' := 64) (as := [.ref 19]) (rest := [.ref 38]) (lo' := [(0, .ref 19)]) (wf := fun d => wC L d e) rfl rfl rfl ?_
  refine tInstruction_word (fun r_20 d_19 h => ⟨r_20, d_19, rfl, rfl, ?_⟩) d_18 h
  refine st_go 1 (pc' := 133) (lo' := [(0, .ref 38), (1, .int x1), (2, .int x2)]) (st' := [.int 63, .int r_20, .ref 38]) rfl ?_
  by_cases hc_21 : r_20 = 63
  · have h := Eq.mp (if_pos hc_21) h
    refine st_icmp (t := 136) (b := false) rfl (decide_eq_false (fun z => z hc_21)) rfl ?_
    refine st_go 2 (pc' := 141) (lo' := [(0, .ref 38), (1, .int x1), (2, .int x2)]) (st' := [.int 1, .ref 38]) rfl ?_
    refine vmWp.sub (lo' := [(0, .ref 38), (1, .int x1), (2, .int x2)]) ⟨rfl, rfl, rfl, trivial⟩ ?_
    exact tMachine_advance_141 hQ x1 x2 1 d_19 h
  · have h := Eq.mp (if_neg hc_21) h
    refine st_icmp (t := 140) (b := true) rfl (decide_eq_true hc_21) rfl ?_
    refine st_go 1 (pc' := 141) (lo' := [(0, .ref 38), (1, .int x1), (2, .int x2)]) (st' := [.int 0, .ref 38]) rfl ?_
    refine vmWp.sub (lo' := [(0, .ref 38), (1, .int x1), (2, .int x2)]) ⟨rfl, rfl, rfl, trivial⟩ ?_
    exact tMachine_advance_141 hQ x1 x2 0 d_19 h
set_option maxRecDepth 100000 in
def Machine_advance_83 (x1 : Int32) (s0 : Int32) (d : vmD) (Q : Int32 → vmD → Prop) : Prop :=
  Memory_at x1 d fun r_12 d_11 =>
  Machine_refresh r_12 d_11 fun d_13 =>
  if s0 = 0 then
  (Instruction_size d_13 fun r_16 d_15 =>
  Machine_advance_122 x1 s0 ((x1 + r_16) &&& 65535) 11 d_15 Q)
  else
  (Machine_advance_122 x1 s0 x1 11 d_13 Q)
set_option maxRecDepth 100000 in
set_option maxHeartbeats 4000000 in
theorem tMachine_advance_83 {L : Nat} {e : vmD} {Qo : Option Value → vmW → Prop} {Q : Int32 → vmD → Prop} (hQ : ∀ r d, Q r d → Qo (some (.int r)) (wC L d e)) (x1 : Int32) (s0 : Int32) (d : vmD) (h : Machine_advance_83 x1 s0 d Q) : vmWp 82 83 [(0, .ref 38), (1, .int x1)] [.int s0] (wC L d e) Qo := by
  unfold Machine_advance_83 at h
  refine st_go 5 (pc' := 90) (lo' := [(2, .int s0), (0, .ref 38), (1, .int x1)]) (st' := [.int x1, .ref 1, .ref 38]) rfl ?_
  refine st_calli (k' := 128) (as := [.ref 1, .int x1]) (rest := [.ref 38]) (lo' := [(0, .ref 1), (1, .int x1)]) (wf := fun d => wC L d e) rfl rfl rfl ?_
  refine tMemory_at (fun r_12 d_11 h => ⟨r_12, d_11, rfl, rfl, ?_⟩) x1 d h
  refine st_callv (k' := 83) (as := [.ref 38, .int r_12]) (rest := []) (lo' := [(0, .ref 38), (1, .int r_12)]) (wf := fun d => wC L d e) rfl rfl rfl ?_
  refine tMachine_refresh (fun d_13 h => ⟨d_13, rfl, rfl, ?_⟩) r_12 d_11 h
  refine st_go 4 (pc' := 103) (lo' := [(2, .int s0), (0, .ref 38), (1, .int x1)]) (st' := [.int s0, .int 11, .ref 39]) rfl ?_
  by_cases hc_14 : s0 = 0
  · have h := Eq.mp (if_pos hc_14) h
    refine st_if (t := 110) (b := true) rfl (decide_eq_true hc_14) rfl ?_
    refine st_go 3 (pc' := 115) (lo' := [(2, .int s0), (0, .ref 38), (1, .int x1)]) (st' := [.ref 19, .int x1, .int 11, .ref 39]) rfl ?_
    refine st_calli (k' := 69) (as := [.ref 19]) (rest := [.int x1, .int 11, .ref 39]) (lo' := [(0, .ref 19)]) (wf := fun d => wC L d e) rfl rfl rfl ?_
    refine tInstruction_size (fun r_16 d_15 h => ⟨r_16, d_15, rfl, rfl, ?_⟩) d_13 h
    refine st_go 3 (pc' := 122) (lo' := [(2, .int s0), (0, .ref 38), (1, .int x1)]) (st' := [.int ((x1 + r_16) &&& 65535), .int 11, .ref 39]) rfl ?_
    refine vmWp.sub (lo' := [(0, .ref 38), (1, .int x1), (2, .int s0)]) ⟨rfl, rfl, rfl, trivial⟩ ?_
    exact tMachine_advance_122 hQ x1 s0 ((x1 + r_16) &&& 65535) 11 d_15 h
  · have h := Eq.mp (if_neg hc_14) h
    refine st_if (t := 106) (b := false) rfl (decide_eq_false hc_14) rfl ?_
    refine st_go 2 (pc' := 122) (lo' := [(2, .int s0), (0, .ref 38), (1, .int x1)]) (st' := [.int x1, .int 11, .ref 39]) rfl ?_
    refine vmWp.sub (lo' := [(0, .ref 38), (1, .int x1), (2, .int s0)]) ⟨rfl, rfl, rfl, trivial⟩ ?_
    exact tMachine_advance_122 hQ x1 s0 x1 11 d_13 h
set_option maxRecDepth 100000 in
def Machine_advance_38 (d : vmD) (Q : Int32 → vmD → Prop) : Prop :=
  bnd (gA d 39 11) fun y_3 =>
  Instruction_look y_3 d fun d_4 =>
  Instruction_exists d_4 fun r_6 d_5 =>
  if r_6 = 0 then
  (Q 0 d_5)
  else
  (Instruction_word d_5 fun r_9 d_8 =>
  if r_9 = 47 then
  (Machine_advance_83 y_3 1 d_8 Q)
  else
  (Machine_advance_83 y_3 0 d_8 Q))
set_option maxRecDepth 100000 in
set_option maxHeartbeats 4000000 in
theorem tMachine_advance_38 {L : Nat} {e : vmD} {Qo : Option Value → vmW → Prop} {Q : Int32 → vmD → Prop} (hQ : ∀ r d, Q r d → Qo (some (.int r)) (wC L d e)) (d : vmD) (h : Machine_advance_38 d Q) : vmWp 82 38 [(0, .ref 38)] [] (wC L d e) Qo := by
  unfold Machine_advance_38 at h
  refine st_go 3 (pc' := 44) (lo' := [(0, .ref 38)]) (st' := [.int 11, .ref 39]) rfl ?_
  refine st_ialdC (o := 39) rfl rfl (show ixOk 11 17 by decide) rfl (fun y_3 hy_y_3 => ?_)
  have h := h y_3 hy_y_3
  refine st_go 4 (pc' := 51) (lo' := [(1, .int y_3), (0, .ref 38)]) (st' := [.int y_3, .ref 19]) rfl ?_
  refine st_callv (k' := 58) (as := [.ref 19, .int y_3]) (rest := []) (lo' := [(0, .ref 19), (1, .int y_3)]) (wf := fun d => wC L d e) rfl rfl rfl ?_
  refine tInstruction_look (fun d_4 h => ⟨d_4, rfl, rfl, ?_⟩) y_3 d h
  refine st_go 2 (pc' := 58) (lo' := [(1, .int y_3), (0, .ref 38)]) (st' := [.ref 19]) rfl ?_
  refine st_calli (k' := 63) (as := [.ref 19]) (rest := []) (lo' := [(0, .ref 19)]) (wf := fun d => wC L d e) rfl rfl rfl ?_
  refine tInstruction_exists (fun r_6 d_5 h => ⟨r_6, d_5, rfl, rfl, ?_⟩) d_4 h
  by_cases hc_7 : r_6 = 0
  · have h := Eq.mp (if_pos hc_7) h
    refine st_if (t := 64) (b := false) rfl (decide_eq_false (fun z => z hc_7)) rfl ?_
    refine st_go 1 (pc' := 65) (lo' := [(1, .int y_3), (0, .ref 38)]) (st' := [.int 0]) rfl ?_
    exact st_retI rfl rfl (hQ _ _ h)
  · have h := Eq.mp (if_neg hc_7) h
    refine st_if (t := 66) (b := true) rfl (decide_eq_true hc_7) rfl ?_
    refine st_go 2 (pc' := 70) (lo' := [(1, .int y_3), (0, .ref 38)]) (st' := [.ref 19]) rfl ?_
    refine st_calli (k' := 64) (as := [.ref 19]) (rest := []) (lo' := [(0, .ref 19)]) (wf := fun d => wC L d e) rfl rfl rfl ?_
    refine tInstruction_word (fun r_9 d_8 h => ⟨r_9, d_8, rfl, rfl, ?_⟩) d_5 h
    refine st_go 1 (pc' := 75) (lo' := [(1, .int y_3), (0, .ref 38)]) (st' := [.int 47, .int r_9]) rfl ?_
    by_cases hc_10 : r_9 = 47
    · have h := Eq.mp (if_pos hc_10) h
      refine st_icmp (t := 78) (b := false) rfl (decide_eq_false (fun z => z hc_10)) rfl ?_
      refine st_go 2 (pc' := 83) (lo' := [(1, .int y_3), (0, .ref 38)]) (st' := [.int 1]) rfl ?_
      refine vmWp.sub (lo' := [(0, .ref 38), (1, .int y_3)]) ⟨rfl, rfl, trivial⟩ ?_
      exact tMachine_advance_83 hQ y_3 1 d_8 h
    · have h := Eq.mp (if_neg hc_10) h
      refine st_icmp (t := 82) (b := true) rfl (decide_eq_true hc_10) rfl ?_
      refine st_go 1 (pc' := 83) (lo' := [(1, .int y_3), (0, .ref 38)]) (st' := [.int 0]) rfl ?_
      refine vmWp.sub (lo' := [(0, .ref 38), (1, .int y_3)]) ⟨rfl, rfl, trivial⟩ ?_
      exact tMachine_advance_83 hQ y_3 0 d_8 h
set_option maxRecDepth 100000 in
def Machine_advance_32 (d : vmD) (Q : Int32 → vmD → Prop) : Prop :=
  Machine_takeRequest d fun d_35 =>
  Q 2 d_35
set_option maxRecDepth 100000 in
set_option maxHeartbeats 4000000 in
theorem tMachine_advance_32 {L : Nat} {e : vmD} {Qo : Option Value → vmW → Prop} {Q : Int32 → vmD → Prop} (hQ : ∀ r d, Q r d → Qo (some (.int r)) (wC L d e)) (d : vmD) (h : Machine_advance_32 d Q) : vmWp 82 32 [(0, .ref 38)] [] (wC L d e) Qo := by
  unfold Machine_advance_32 at h
  refine st_go 1 (pc' := 33) (lo' := [(0, .ref 38)]) (st' := [.ref 38]) rfl ?_
  refine st_callv (k' := 84) (as := [.ref 38]) (rest := []) (lo' := [(0, .ref 38)]) (wf := fun d => wC L d e) rfl rfl rfl ?_
  refine tMachine_takeRequest (fun d_35 h => ⟨d_35, rfl, rfl, ?_⟩) d h
  refine st_go 1 (pc' := 37) (lo' := [(0, .ref 38)]) (st' := [.int 2]) rfl ?_
  exact st_retI rfl rfl (hQ _ _ h)
set_option maxRecDepth 100000 in
def Machine_advance (d : vmD) (Q : Int32 → vmD → Prop) : Prop :=
  if (gF d 38 7) = 0 then
  (if (gF d 38 6) = 0 then
  (Machine_advance_38 d Q)
  else
  (bnd (gA d 39 14) fun y_32 =>
  if y_32 = 1 then
  (if (gF d 38 9) = 0 then
  (Machine_advance_32 d Q)
  else
  (Machine_advance_38 d Q))
  else
  (Machine_advance_38 d Q)))
  else
  (Machine_advance_32 d Q)
set_option maxRecDepth 100000 in
set_option maxHeartbeats 4000000 in
theorem tMachine_advance {L : Nat} {e : vmD} {Qo : Option Value → vmW → Prop} {Q : Int32 → vmD → Prop} (hQ : ∀ r d, Q r d → Qo (some (.int r)) (wC L d e)) (d : vmD) (h : Machine_advance d Q) : vmWp 82 0 [(0, .ref 38)] [] (wC L d e) Qo := by
  unfold Machine_advance at h
  refine st_go 2 (pc' := 4) (lo' := [(0, .ref 38)]) (st' := [.int (gF d 38 7)]) rfl ?_
  by_cases hc_1 : (gF d 38 7) = 0
  · have h := Eq.mp (if_pos hc_1) h
    refine st_if (t := 7) (b := false) rfl (decide_eq_false (fun z => z hc_1)) rfl ?_
    refine st_go 2 (pc' := 11) (lo' := [(0, .ref 38)]) (st' := [.int (gF d 38 6)]) rfl ?_
    by_cases hc_2 : (gF d 38 6) = 0
    · have h := Eq.mp (if_pos hc_2) h
      refine st_if (t := 38) (b := true) rfl (decide_eq_true hc_2) rfl ?_
      refine vmWp.sub (lo' := [(0, .ref 38)]) ⟨rfl, trivial⟩ ?_
      exact tMachine_advance_38 hQ d h
    · have h := Eq.mp (if_neg hc_2) h
      refine st_if (t := 14) (b := false) rfl (decide_eq_false hc_2) rfl ?_
      refine st_go 3 (pc' := 20) (lo' := [(0, .ref 38)]) (st' := [.int 14, .ref 39]) rfl ?_
      refine st_ialdC (o := 39) rfl rfl (show ixOk 14 17 by decide) rfl (fun y_32 hy_y_32 => ?_)
      have h := h y_32 hy_y_32
      refine st_go 1 (pc' := 22) (lo' := [(0, .ref 38)]) (st' := [.int 1, .int y_32]) rfl ?_
      by_cases hc_33 : y_32 = 1
      · have h := Eq.mp (if_pos hc_33) h
        refine st_icmp (t := 25) (b := false) rfl (decide_eq_false (fun z => z hc_33)) rfl ?_
        refine st_go 2 (pc' := 29) (lo' := [(0, .ref 38)]) (st' := [.int (gF d 38 9)]) rfl ?_
        by_cases hc_34 : (gF d 38 9) = 0
        · have h := Eq.mp (if_pos hc_34) h
          refine st_if (t := 32) (b := false) rfl (decide_eq_false (fun z => z hc_34)) rfl ?_
          refine vmWp.sub (lo' := [(0, .ref 38)]) ⟨rfl, trivial⟩ ?_
          exact tMachine_advance_32 hQ d h
        · have h := Eq.mp (if_neg hc_34) h
          refine st_if (t := 38) (b := true) rfl (decide_eq_true hc_34) rfl ?_
          refine vmWp.sub (lo' := [(0, .ref 38)]) ⟨rfl, trivial⟩ ?_
          exact tMachine_advance_38 hQ d h
      · have h := Eq.mp (if_neg hc_33) h
        refine st_icmp (t := 38) (b := true) rfl (decide_eq_true hc_33) rfl ?_
        refine vmWp.sub (lo' := [(0, .ref 38)]) ⟨rfl, trivial⟩ ?_
        exact tMachine_advance_38 hQ d h
  · have h := Eq.mp (if_neg hc_1) h
    refine st_if (t := 32) (b := true) rfl (decide_eq_true hc_1) rfl ?_
    refine vmWp.sub (lo' := [(0, .ref 38)]) ⟨rfl, trivial⟩ ?_
    exact tMachine_advance_32 hQ d h
set_option maxRecDepth 100000 in
def OF_step (d : vmD) (Q : Int32 → vmD → Prop) : Prop :=
  Machine_advance d fun r_2 d_1 =>
  Q r_2 d_1
set_option maxRecDepth 100000 in
set_option maxHeartbeats 4000000 in
theorem tOF_step {L : Nat} {e : vmD} {Qo : Option Value → vmW → Prop} {Q : Int32 → vmD → Prop} (hQ : ∀ r d, Q r d → Qo (some (.int r)) (wC L d e)) (d : vmD) (h : OF_step d Q) : vmWp 238 0 [(0, .ref 0)] [] (wC L d e) Qo := by
  unfold OF_step at h
  refine st_go 2 (pc' := 4) (lo' := [(0, .ref 0)]) (st' := [.ref 38]) rfl ?_
  refine st_calli (k' := 82) (as := [.ref 38]) (rest := []) (lo' := [(0, .ref 38)]) (wf := fun d => wC L d e) rfl rfl rfl ?_
  refine tMachine_advance (fun r_2 d_1 h => ⟨r_2, d_1, rfl, rfl, ?_⟩) d h
  exact st_retI rfl rfl (hQ _ _ h)
set_option maxRecDepth 100000 in
def OF_run_53 (b18 : Int32 → Int32 → Int32 → vmD → Prop) (x1 : Int32) (x3 : Int32) (s0 : Int32) (d : vmD) (Q : Int32 → vmD → Prop) : Prop :=
  bnd (x3 + 1) fun x3_8 =>
  b18 x1 s0 x3_8 d
set_option maxRecDepth 100000 in
set_option maxHeartbeats 4000000 in
theorem tOF_run_53 {L : Nat} {e : vmD} {Qo : Option Value → vmW → Prop} {b18 : Int32 → Int32 → Int32 → vmD → Prop} {Q : Int32 → vmD → Prop} (hb18 : ∀ x1 x2 x3 d, b18 x1 x2 x3 d → vmWp 239 18 [(0, .ref 0), (1, .int x1), (2, .int x2), (3, .int x3)] [] (wC L d e) Qo) (hQ : ∀ r d, Q r d → Qo (some (.int r)) (wC L d e)) (x1 : Int32) (x3 : Int32) (s0 : Int32) (d : vmD) (h : OF_run_53 b18 x1 x3 s0 d Q) : vmWp 239 53 [(0, .ref 0), (1, .int x1), (3, .int x3)] [.int s0] (wC L d e) Qo := by
  unfold OF_run_53 at h
  refine st_go 2 (pc' := 57) (lo' := [(3, .int (x3 + 1)), (2, .int s0), (0, .ref 0), (1, .int x1)]) (st' := []) rfl ?_
  refine st_locI (fun x3_8 hy_x3_8 => ?_)
  have h := h x3_8 hy_x3_8
  refine st_go 1 (pc' := 18) (lo' := [(3, .int x3_8), (2, .int s0), (0, .ref 0), (1, .int x1)]) (st' := []) rfl ?_
  refine vmWp.sub (lo' := [(0, .ref 0), (1, .int x1), (2, .int s0), (3, .int x3_8)]) ⟨rfl, rfl, rfl, rfl, trivial⟩ ?_
  exact hb18 x1 s0 x3_8 d h
set_option maxRecDepth 100000 in
def OF_run_48 (b18 : Int32 → Int32 → Int32 → vmD → Prop) (x1 : Int32) (x3 : Int32) (d : vmD) (Q : Int32 → vmD → Prop) : Prop :=
  OF_run_53 b18 x1 x3 1 d Q
set_option maxRecDepth 100000 in
set_option maxHeartbeats 4000000 in
theorem tOF_run_48 {L : Nat} {e : vmD} {Qo : Option Value → vmW → Prop} {b18 : Int32 → Int32 → Int32 → vmD → Prop} {Q : Int32 → vmD → Prop} (hb18 : ∀ x1 x2 x3 d, b18 x1 x2 x3 d → vmWp 239 18 [(0, .ref 0), (1, .int x1), (2, .int x2), (3, .int x3)] [] (wC L d e) Qo) (hQ : ∀ r d, Q r d → Qo (some (.int r)) (wC L d e)) (x1 : Int32) (x3 : Int32) (d : vmD) (h : OF_run_48 b18 x1 x3 d Q) : vmWp 239 48 [(0, .ref 0), (1, .int x1), (3, .int x3)] [] (wC L d e) Qo := by
  unfold OF_run_48 at h
  refine st_go 2 (pc' := 53) (lo' := [(0, .ref 0), (1, .int x1), (3, .int x3)]) (st' := [.int 1]) rfl ?_
  refine vmWp.sub (lo' := [(0, .ref 0), (1, .int x1), (3, .int x3)]) ⟨rfl, rfl, rfl, trivial⟩ ?_
  exact tOF_run_53 hb18 hQ x1 x3 1 d h
set_option maxRecDepth 100000 in
def OF_run_18 (Q : Int32 → vmD → Prop) : Nat → Int32 → Int32 → Int32 → vmD → Prop
  | 0, _, _, _, _ => False
  | n + 1, x1, x2, x3, d => if x2 = 0 then
  (Q x3 d)
  else
  (if x3 < x1 then
  (Machine_advance d fun r_6 d_5 =>
  if r_6 = 1 then
  (OF_run_48 (OF_run_18 Q n) x1 x3 d_5 Q)
  else
  (if r_6 = 2 then
  (OF_run_48 (OF_run_18 Q n) x1 x3 d_5 Q)
  else
  (OF_run_53 (OF_run_18 Q n) x1 x3 0 d_5 Q)))
  else
  (Q x3 d))
set_option maxRecDepth 100000 in
set_option maxHeartbeats 4000000 in
theorem tOF_run_18 {L : Nat} {e : vmD} {Qo : Option Value → vmW → Prop} {Q : Int32 → vmD → Prop} (hQ : ∀ r d, Q r d → Qo (some (.int r)) (wC L d e)) : ∀ (n : Nat) (x1 : Int32) (x2 : Int32) (x3 : Int32) (d : vmD), OF_run_18 Q n x1 x2 x3 d → vmWp 239 18 [(0, .ref 0), (1, .int x1), (2, .int x2), (3, .int x3)] [] (wC L d e) Qo := by
  intro n
  induction n with
  | zero => intro x1 x2 x3 d h; exact h.elim
  | succ n ih =>
    intro x1 x2 x3 d h
    unfold OF_run_18 at h
    refine st_go 1 (pc' := 19) (lo' := [(0, .ref 0), (1, .int x1), (2, .int x2), (3, .int x3)]) (st' := [.int x2]) rfl ?_
    by_cases hc_3 : x2 = 0
    · have h := Eq.mp (if_pos hc_3) h
      refine st_if (t := 60) (b := true) rfl (decide_eq_true hc_3) rfl ?_
      refine st_go 1 (pc' := 61) (lo' := [(0, .ref 0), (1, .int x1), (2, .int x2), (3, .int x3)]) (st' := [.int x3]) rfl ?_
      exact st_retI rfl rfl (hQ _ _ h)
    · have h := Eq.mp (if_neg hc_3) h
      refine st_if (t := 22) (b := false) rfl (decide_eq_false hc_3) rfl ?_
      refine st_go 2 (pc' := 24) (lo' := [(0, .ref 0), (1, .int x1), (2, .int x2), (3, .int x3)]) (st' := [.int x1, .int x3]) rfl ?_
      by_cases hc_4 : x3 < x1
      · have h := Eq.mp (if_pos hc_4) h
        refine st_icmp (t := 27) (b := false) rfl (decide_eq_false (Int32.not_le.mpr hc_4)) rfl ?_
        refine st_go 2 (pc' := 31) (lo' := [(0, .ref 0), (1, .int x1), (2, .int x2), (3, .int x3)]) (st' := [.ref 38]) rfl ?_
        refine st_calli (k' := 82) (as := [.ref 38]) (rest := []) (lo' := [(0, .ref 38)]) (wf := fun d => wC L d e) rfl rfl rfl ?_
        refine tMachine_advance (fun r_6 d_5 h => ⟨r_6, d_5, rfl, rfl, ?_⟩) d h
        refine st_go 3 (pc' := 39) (lo' := [(4, .int r_6), (0, .ref 0), (1, .int x1), (2, .int x2), (3, .int x3)]) (st' := [.int 1, .int r_6]) rfl ?_
        by_cases hc_7 : r_6 = 1
        · have h := Eq.mp (if_pos hc_7) h
          refine st_icmp (t := 48) (b := true) rfl (decide_eq_true hc_7) rfl ?_
          refine vmWp.sub (lo' := [(0, .ref 0), (1, .int x1), (3, .int x3)]) ⟨rfl, rfl, rfl, trivial⟩ ?_
          exact tOF_run_48 ih hQ x1 x3 d_5 h
        · have h := Eq.mp (if_neg hc_7) h
          refine st_icmp (t := 42) (b := false) rfl (decide_eq_false hc_7) rfl ?_
          refine st_go 2 (pc' := 45) (lo' := [(4, .int r_6), (0, .ref 0), (1, .int x1), (2, .int x2), (3, .int x3)]) (st' := [.int 2, .int r_6]) rfl ?_
          by_cases hc_9 : r_6 = 2
          · have h := Eq.mp (if_pos hc_9) h
            refine st_icmp (t := 48) (b := false) rfl (decide_eq_false (fun z => z hc_9)) rfl ?_
            refine vmWp.sub (lo' := [(0, .ref 0), (1, .int x1), (3, .int x3)]) ⟨rfl, rfl, rfl, trivial⟩ ?_
            exact tOF_run_48 ih hQ x1 x3 d_5 h
          · have h := Eq.mp (if_neg hc_9) h
            refine st_icmp (t := 52) (b := true) rfl (decide_eq_true hc_9) rfl ?_
            refine st_go 1 (pc' := 53) (lo' := [(4, .int r_6), (0, .ref 0), (1, .int x1), (2, .int x2), (3, .int x3)]) (st' := [.int 0]) rfl ?_
            refine vmWp.sub (lo' := [(0, .ref 0), (1, .int x1), (3, .int x3)]) ⟨rfl, rfl, rfl, trivial⟩ ?_
            exact tOF_run_53 ih hQ x1 x3 0 d_5 h
      · have h := Eq.mp (if_neg hc_4) h
        refine st_icmp (t := 60) (b := true) rfl (decide_eq_true (Int32.not_lt.mp hc_4)) rfl ?_
        refine st_go 1 (pc' := 61) (lo' := [(0, .ref 0), (1, .int x1), (2, .int x2), (3, .int x3)]) (st' := [.int x3]) rfl ?_
        exact st_retI rfl rfl (hQ _ _ h)
set_option maxRecDepth 100000 in
def OF_run (x1 : Int32) (d : vmD) (Q : Int32 → vmD → Prop) : Prop :=
  if x1 < 0 then
  (Q (-2) d)
  else
  (if (20000 : Int32) < x1 then
  (Q (-2) d)
  else
  (∃ m18, OF_run_18 Q m18 x1 1 0 d))
set_option maxRecDepth 100000 in
set_option maxHeartbeats 4000000 in
theorem tOF_run {L : Nat} {e : vmD} {Qo : Option Value → vmW → Prop} {Q : Int32 → vmD → Prop} (hQ : ∀ r d, Q r d → Qo (some (.int r)) (wC L d e)) (x1 : Int32) (d : vmD) (h : OF_run x1 d Q) : vmWp 239 0 [(0, .ref 0), (1, .int x1)] [] (wC L d e) Qo := by
  unfold OF_run at h
  refine st_go 1 (pc' := 1) (lo' := [(0, .ref 0), (1, .int x1)]) (st' := [.int x1]) rfl ?_
  by_cases hc_1 : x1 < 0
  · have h := Eq.mp (if_pos hc_1) h
    refine st_if (t := 11) (b := true) rfl (decide_eq_true hc_1) rfl ?_
    refine st_go 1 (pc' := 13) (lo' := [(0, .ref 0), (1, .int x1)]) (st' := [.int (-2)]) rfl ?_
    exact st_retI rfl rfl (hQ _ _ h)
  · have h := Eq.mp (if_neg hc_1) h
    refine st_if (t := 4) (b := false) rfl (decide_eq_false hc_1) rfl ?_
    refine st_go 2 (pc' := 8) (lo' := [(0, .ref 0), (1, .int x1)]) (st' := [.int 20000, .int x1]) rfl ?_
    by_cases hc_2 : (20000 : Int32) < x1
    · have h := Eq.mp (if_pos hc_2) h
      refine st_icmp (t := 11) (b := false) rfl (decide_eq_false (Int32.not_le.mpr hc_2)) rfl ?_
      refine st_go 1 (pc' := 13) (lo' := [(0, .ref 0), (1, .int x1)]) (st' := [.int (-2)]) rfl ?_
      exact st_retI rfl rfl (hQ _ _ h)
    · have h := Eq.mp (if_neg hc_2) h
      refine st_icmp (t := 14) (b := true) rfl (decide_eq_true (Int32.not_lt.mp hc_2)) rfl ?_
      refine st_go 4 (pc' := 18) (lo' := [(3, .int 0), (2, .int 1), (0, .ref 0), (1, .int x1)]) (st' := []) rfl ?_
      obtain ⟨m18, h⟩ := h
      refine vmWp.sub (lo' := [(0, .ref 0), (1, .int x1), (2, .int 1), (3, .int 0)]) ⟨rfl, rfl, rfl, rfl, trivial⟩ ?_
      exact tOF_run_18 hQ m18 x1 1 0 d h
set_option maxRecDepth 100000 in
def Machine_outputs (d : vmD) (Q : Int64 → vmD → Prop) : Prop :=
  Q (gG d 38 5) d
set_option maxRecDepth 100000 in
set_option maxHeartbeats 4000000 in
theorem tMachine_outputs {L : Nat} {e : vmD} {Qo : Option Value → vmW → Prop} {Q : Int64 → vmD → Prop} (hQ : ∀ r d, Q r d → Qo (some (.long r)) (wC L d e)) (d : vmD) (h : Machine_outputs d Q) : vmWp 80 0 [(0, .ref 38)] [] (wC L d e) Qo := by
  unfold Machine_outputs at h
  refine st_go 2 (pc' := 4) (lo' := [(0, .ref 38)]) (st' := [.long (gG d 38 5)]) rfl ?_
  exact st_retJ rfl rfl (hQ _ _ h)
set_option maxRecDepth 100000 in
def OF_outs (d : vmD) (Q : Int64 → vmD → Prop) : Prop :=
  Machine_outputs d fun r_2 d_1 =>
  Q r_2 d_1
set_option maxRecDepth 100000 in
set_option maxHeartbeats 4000000 in
theorem tOF_outs {L : Nat} {e : vmD} {Qo : Option Value → vmW → Prop} {Q : Int64 → vmD → Prop} (hQ : ∀ r d, Q r d → Qo (some (.long r)) (wC L d e)) (d : vmD) (h : OF_outs d Q) : vmWp 240 0 [(0, .ref 0)] [] (wC L d e) Qo := by
  unfold OF_outs at h
  refine st_go 2 (pc' := 4) (lo' := [(0, .ref 0)]) (st' := [.ref 38]) rfl ?_
  refine st_calll (k' := 80) (as := [.ref 38]) (rest := []) (lo' := [(0, .ref 38)]) (wf := fun d => wC L d e) rfl rfl rfl ?_
  refine tMachine_outputs (fun r_2 d_1 h => ⟨r_2, d_1, rfl, rfl, ?_⟩) d h
  exact st_retJ rfl rfl (hQ _ _ h)
set_option maxRecDepth 100000 in
def Arrays_fill0_39_5 (Q : vmD → Prop) : Nat → Int32 → Int32 → Int32 → vmD → Prop
  | 0, _, _, _, _ => False
  | n + 1, x1, x2, x3, d => if x2 < x3 then
  (ixOk x2 17 ∧
  bnd (sA d 39 x2.toNatClampNeg x1) fun d_3 =>
  bnd (x2 + 1) fun x2_4 =>
  (Arrays_fill0_39_5 Q n) x1 x2_4 x3 d_3)
  else
  (Q d)
set_option maxRecDepth 100000 in
set_option maxHeartbeats 4000000 in
theorem tArrays_fill0_39_5 {L : Nat} {e : vmD} {Qo : Option Value → vmW → Prop} {Q : vmD → Prop} (hQ : ∀ d, Q d → Qo none (wC L d e)) : ∀ (n : Nat) (x1 : Int32) (x2 : Int32) (x3 : Int32) (d : vmD), Arrays_fill0_39_5 Q n x1 x2 x3 d → vmWp 403 5 [(0, .ref 39), (1, .int x1), (2, .int x2), (3, .int x3)] [] (wC L d e) Qo := by
  intro n
  induction n with
  | zero => intro x1 x2 x3 d h; exact h.elim
  | succ n ih =>
    intro x1 x2 x3 d h
    unfold Arrays_fill0_39_5 at h
    refine st_go 2 (pc' := 7) (lo' := [(0, .ref 39), (1, .int x1), (2, .int x2), (3, .int x3)]) (st' := [.int x3, .int x2]) rfl ?_
    by_cases hc_1 : x2 < x3
    · have h := Eq.mp (if_pos hc_1) h
      refine st_icmp (t := 10) (b := false) rfl (decide_eq_false (Int32.not_le.mpr hc_1)) rfl ?_
      refine st_go 3 (pc' := 13) (lo' := [(0, .ref 39), (1, .int x1), (2, .int x2), (3, .int x3)]) (st' := [.int x1, .int x2, .ref 39]) rfl ?_
      obtain ⟨hj_2, h⟩ := h
      refine st_iastC (o := 39) rfl rfl hj_2 rfl (fun d_3 hy_d_3 => ?_)
      have h := h d_3 hy_d_3
      refine st_go 1 (pc' := 17) (lo' := [(2, .int (x2 + 1)), (0, .ref 39), (1, .int x1), (3, .int x3)]) (st' := []) rfl ?_
      refine st_locI (fun x2_4 hy_x2_4 => ?_)
      have h := h x2_4 hy_x2_4
      refine st_go 1 (pc' := 5) (lo' := [(2, .int x2_4), (0, .ref 39), (1, .int x1), (3, .int x3)]) (st' := []) rfl ?_
      refine vmWp.sub (lo' := [(0, .ref 39), (1, .int x1), (2, .int x2_4), (3, .int x3)]) ⟨rfl, rfl, rfl, rfl, trivial⟩ ?_
      exact ih x1 x2_4 x3 d_3 h
    · have h := Eq.mp (if_neg hc_1) h
      refine st_icmp (t := 20) (b := true) rfl (decide_eq_true (Int32.not_lt.mp hc_1)) rfl ?_
      exact st_retV rfl rfl (hQ _ h)
set_option maxRecDepth 100000 in
def Arrays_fill0_39 (x1 : Int32) (d : vmD) (Q : vmD → Prop) : Prop :=
  ∃ m5, Arrays_fill0_39_5 Q m5 x1 0 17 d
set_option maxRecDepth 100000 in
set_option maxHeartbeats 4000000 in
theorem tArrays_fill0_39 {L : Nat} {e : vmD} {Qo : Option Value → vmW → Prop} {Q : vmD → Prop} (hQ : ∀ d, Q d → Qo none (wC L d e)) (x1 : Int32) (d : vmD) (h : Arrays_fill0_39 x1 d Q) : vmWp 403 0 [(0, .ref 39), (1, .int x1)] [] (wC L d e) Qo := by
  unfold Arrays_fill0_39 at h
  refine st_go 5 (pc' := 5) (lo' := [(3, .int 17), (2, .int 0), (0, .ref 39), (1, .int x1)]) (st' := []) rfl ?_
  obtain ⟨m5, h⟩ := h
  refine vmWp.sub (lo' := [(0, .ref 39), (1, .int x1), (2, .int 0), (3, .int 17)]) ⟨rfl, rfl, rfl, rfl, trivial⟩ ?_
  exact tArrays_fill0_39_5 hQ m5 x1 0 17 d h
set_option maxRecDepth 100000 in
def Arrays_fill0_40_5 (Q : vmD → Prop) : Nat → Int32 → Int32 → Int32 → vmD → Prop
  | 0, _, _, _, _ => False
  | n + 1, x1, x2, x3, d => if x2 < x3 then
  (ixOk x2 256 ∧
  bnd (sA d 40 x2.toNatClampNeg x1) fun d_3 =>
  bnd (x2 + 1) fun x2_4 =>
  (Arrays_fill0_40_5 Q n) x1 x2_4 x3 d_3)
  else
  (Q d)
set_option maxRecDepth 100000 in
set_option maxHeartbeats 4000000 in
theorem tArrays_fill0_40_5 {L : Nat} {e : vmD} {Qo : Option Value → vmW → Prop} {Q : vmD → Prop} (hQ : ∀ d, Q d → Qo none (wC L d e)) : ∀ (n : Nat) (x1 : Int32) (x2 : Int32) (x3 : Int32) (d : vmD), Arrays_fill0_40_5 Q n x1 x2 x3 d → vmWp 403 5 [(0, .ref 40), (1, .int x1), (2, .int x2), (3, .int x3)] [] (wC L d e) Qo := by
  intro n
  induction n with
  | zero => intro x1 x2 x3 d h; exact h.elim
  | succ n ih =>
    intro x1 x2 x3 d h
    unfold Arrays_fill0_40_5 at h
    refine st_go 2 (pc' := 7) (lo' := [(0, .ref 40), (1, .int x1), (2, .int x2), (3, .int x3)]) (st' := [.int x3, .int x2]) rfl ?_
    by_cases hc_1 : x2 < x3
    · have h := Eq.mp (if_pos hc_1) h
      refine st_icmp (t := 10) (b := false) rfl (decide_eq_false (Int32.not_le.mpr hc_1)) rfl ?_
      refine st_go 3 (pc' := 13) (lo' := [(0, .ref 40), (1, .int x1), (2, .int x2), (3, .int x3)]) (st' := [.int x1, .int x2, .ref 40]) rfl ?_
      obtain ⟨hj_2, h⟩ := h
      refine st_iastC (o := 40) rfl rfl hj_2 rfl (fun d_3 hy_d_3 => ?_)
      have h := h d_3 hy_d_3
      refine st_go 1 (pc' := 17) (lo' := [(2, .int (x2 + 1)), (0, .ref 40), (1, .int x1), (3, .int x3)]) (st' := []) rfl ?_
      refine st_locI (fun x2_4 hy_x2_4 => ?_)
      have h := h x2_4 hy_x2_4
      refine st_go 1 (pc' := 5) (lo' := [(2, .int x2_4), (0, .ref 40), (1, .int x1), (3, .int x3)]) (st' := []) rfl ?_
      refine vmWp.sub (lo' := [(0, .ref 40), (1, .int x1), (2, .int x2_4), (3, .int x3)]) ⟨rfl, rfl, rfl, rfl, trivial⟩ ?_
      exact ih x1 x2_4 x3 d_3 h
    · have h := Eq.mp (if_neg hc_1) h
      refine st_icmp (t := 20) (b := true) rfl (decide_eq_true (Int32.not_lt.mp hc_1)) rfl ?_
      exact st_retV rfl rfl (hQ _ h)
set_option maxRecDepth 100000 in
def Arrays_fill0_40 (x1 : Int32) (d : vmD) (Q : vmD → Prop) : Prop :=
  ∃ m5, Arrays_fill0_40_5 Q m5 x1 0 256 d
set_option maxRecDepth 100000 in
set_option maxHeartbeats 4000000 in
theorem tArrays_fill0_40 {L : Nat} {e : vmD} {Qo : Option Value → vmW → Prop} {Q : vmD → Prop} (hQ : ∀ d, Q d → Qo none (wC L d e)) (x1 : Int32) (d : vmD) (h : Arrays_fill0_40 x1 d Q) : vmWp 403 0 [(0, .ref 40), (1, .int x1)] [] (wC L d e) Qo := by
  unfold Arrays_fill0_40 at h
  refine st_go 5 (pc' := 5) (lo' := [(3, .int 256), (2, .int 0), (0, .ref 40), (1, .int x1)]) (st' := []) rfl ?_
  obtain ⟨m5, h⟩ := h
  refine vmWp.sub (lo' := [(0, .ref 40), (1, .int x1), (2, .int 0), (3, .int 256)]) ⟨rfl, rfl, rfl, rfl, trivial⟩ ?_
  exact tArrays_fill0_40_5 hQ m5 x1 0 256 d h
set_option maxRecDepth 100000 in
def Arrays_fill0_41_5 (Q : vmD → Prop) : Nat → Int32 → Int32 → Int32 → vmD → Prop
  | 0, _, _, _, _ => False
  | n + 1, x1, x2, x3, d => if x2 < x3 then
  (ixOk x2 256 ∧
  bnd (sA d 41 x2.toNatClampNeg x1) fun d_3 =>
  bnd (x2 + 1) fun x2_4 =>
  (Arrays_fill0_41_5 Q n) x1 x2_4 x3 d_3)
  else
  (Q d)
set_option maxRecDepth 100000 in
set_option maxHeartbeats 4000000 in
theorem tArrays_fill0_41_5 {L : Nat} {e : vmD} {Qo : Option Value → vmW → Prop} {Q : vmD → Prop} (hQ : ∀ d, Q d → Qo none (wC L d e)) : ∀ (n : Nat) (x1 : Int32) (x2 : Int32) (x3 : Int32) (d : vmD), Arrays_fill0_41_5 Q n x1 x2 x3 d → vmWp 403 5 [(0, .ref 41), (1, .int x1), (2, .int x2), (3, .int x3)] [] (wC L d e) Qo := by
  intro n
  induction n with
  | zero => intro x1 x2 x3 d h; exact h.elim
  | succ n ih =>
    intro x1 x2 x3 d h
    unfold Arrays_fill0_41_5 at h
    refine st_go 2 (pc' := 7) (lo' := [(0, .ref 41), (1, .int x1), (2, .int x2), (3, .int x3)]) (st' := [.int x3, .int x2]) rfl ?_
    by_cases hc_1 : x2 < x3
    · have h := Eq.mp (if_pos hc_1) h
      refine st_icmp (t := 10) (b := false) rfl (decide_eq_false (Int32.not_le.mpr hc_1)) rfl ?_
      refine st_go 3 (pc' := 13) (lo' := [(0, .ref 41), (1, .int x1), (2, .int x2), (3, .int x3)]) (st' := [.int x1, .int x2, .ref 41]) rfl ?_
      obtain ⟨hj_2, h⟩ := h
      refine st_iastC (o := 41) rfl rfl hj_2 rfl (fun d_3 hy_d_3 => ?_)
      have h := h d_3 hy_d_3
      refine st_go 1 (pc' := 17) (lo' := [(2, .int (x2 + 1)), (0, .ref 41), (1, .int x1), (3, .int x3)]) (st' := []) rfl ?_
      refine st_locI (fun x2_4 hy_x2_4 => ?_)
      have h := h x2_4 hy_x2_4
      refine st_go 1 (pc' := 5) (lo' := [(2, .int x2_4), (0, .ref 41), (1, .int x1), (3, .int x3)]) (st' := []) rfl ?_
      refine vmWp.sub (lo' := [(0, .ref 41), (1, .int x1), (2, .int x2_4), (3, .int x3)]) ⟨rfl, rfl, rfl, rfl, trivial⟩ ?_
      exact ih x1 x2_4 x3 d_3 h
    · have h := Eq.mp (if_neg hc_1) h
      refine st_icmp (t := 20) (b := true) rfl (decide_eq_true (Int32.not_lt.mp hc_1)) rfl ?_
      exact st_retV rfl rfl (hQ _ h)
set_option maxRecDepth 100000 in
def Arrays_fill0_41 (x1 : Int32) (d : vmD) (Q : vmD → Prop) : Prop :=
  ∃ m5, Arrays_fill0_41_5 Q m5 x1 0 256 d
set_option maxRecDepth 100000 in
set_option maxHeartbeats 4000000 in
theorem tArrays_fill0_41 {L : Nat} {e : vmD} {Qo : Option Value → vmW → Prop} {Q : vmD → Prop} (hQ : ∀ d, Q d → Qo none (wC L d e)) (x1 : Int32) (d : vmD) (h : Arrays_fill0_41 x1 d Q) : vmWp 403 0 [(0, .ref 41), (1, .int x1)] [] (wC L d e) Qo := by
  unfold Arrays_fill0_41 at h
  refine st_go 5 (pc' := 5) (lo' := [(3, .int 256), (2, .int 0), (0, .ref 41), (1, .int x1)]) (st' := []) rfl ?_
  obtain ⟨m5, h⟩ := h
  refine vmWp.sub (lo' := [(0, .ref 41), (1, .int x1), (2, .int 0), (3, .int 256)]) ⟨rfl, rfl, rfl, rfl, trivial⟩ ?_
  exact tArrays_fill0_41_5 hQ m5 x1 0 256 d h
set_option maxRecDepth 100000 in
def Machine_reset (d : vmD) (Q : vmD → Prop) : Prop :=
  Arrays_fill0_39 0 d fun d_1 =>
  Arrays_fill0_40 0 d_1 fun d_2 =>
  Arrays_fill0_41 0 d_2 fun d_3 =>
  bnd (sA d_3 39 10 (65535 : Int32)) fun d_4 =>
  bnd (sG d_4 38 5 0) fun d_5 =>
  bnd (sF d_5 38 6 0) fun d_6 =>
  bnd (sF d_6 38 7 0) fun d_7 =>
  bnd (sF d_7 38 8 0) fun d_8 =>
  bnd (sF d_8 38 9 0) fun d_9 =>
  Q d_9
set_option maxRecDepth 100000 in
set_option maxHeartbeats 4000000 in
theorem tMachine_reset {L : Nat} {e : vmD} {Qo : Option Value → vmW → Prop} {Q : vmD → Prop} (hQ : ∀ d, Q d → Qo none (wC L d e)) (d : vmD) (h : Machine_reset d Q) : vmWp 74 0 [(0, .ref 38)] [] (wC L d e) Qo := by
  unfold Machine_reset at h
  refine st_go 3 (pc' := 5) (lo' := [(0, .ref 38)]) (st' := [.int 0, .ref 39]) rfl ?_
  refine st_callv (k' := 403) (as := [.ref 39, .int 0]) (rest := []) (lo' := [(0, .ref 39), (1, .int 0)]) (wf := fun d => wC L d e) rfl rfl rfl ?_
  refine tArrays_fill0_39 (fun d_1 h => ⟨d_1, rfl, rfl, ?_⟩) 0 d h
  refine st_go 3 (pc' := 13) (lo' := [(0, .ref 38)]) (st' := [.int 0, .ref 40]) rfl ?_
  refine st_callv (k' := 403) (as := [.ref 40, .int 0]) (rest := []) (lo' := [(0, .ref 40), (1, .int 0)]) (wf := fun d => wC L d e) rfl rfl rfl ?_
  refine tArrays_fill0_40 (fun d_2 h => ⟨d_2, rfl, rfl, ?_⟩) 0 d_1 h
  refine st_go 3 (pc' := 21) (lo' := [(0, .ref 38)]) (st' := [.int 0, .ref 41]) rfl ?_
  refine st_callv (k' := 403) (as := [.ref 41, .int 0]) (rest := []) (lo' := [(0, .ref 41), (1, .int 0)]) (wf := fun d => wC L d e) rfl rfl rfl ?_
  refine tArrays_fill0_41 (fun d_3 h => ⟨d_3, rfl, rfl, ?_⟩) 0 d_2 h
  refine st_go 4 (pc' := 32) (lo' := [(0, .ref 38)]) (st' := [.int 65535, .int 10, .ref 39]) rfl ?_
  refine st_iastC (o := 39) rfl rfl (show ixOk 10 17 by decide) rfl (fun d_4 hy_d_4 => ?_)
  have h := h d_4 hy_d_4
  refine st_go 2 (pc' := 35) (lo' := [(0, .ref 38)]) (st' := [.long 0, .ref 38]) rfl ?_
  refine st_putJC (o := 38) (f := 5) rfl rfl rfl rfl rfl (fun d_5 hy_d_5 => ?_)
  have h := h d_5 hy_d_5
  refine st_go 2 (pc' := 40) (lo' := [(0, .ref 38)]) (st' := [.int 0, .ref 38]) rfl ?_
  refine st_putZC (o := 38) (f := 6) rfl rfl rfl rfl (Or.inl rfl) rfl (fun d_6 hy_d_6 => ?_)
  have h := h d_6 hy_d_6
  refine st_go 2 (pc' := 45) (lo' := [(0, .ref 38)]) (st' := [.int 0, .ref 38]) rfl ?_
  refine st_putZC (o := 38) (f := 7) rfl rfl rfl rfl (Or.inl rfl) rfl (fun d_7 hy_d_7 => ?_)
  have h := h d_7 hy_d_7
  refine st_go 2 (pc' := 50) (lo' := [(0, .ref 38)]) (st' := [.int 0, .ref 38]) rfl ?_
  refine st_putIC (o := 38) (f := 8) rfl rfl rfl rfl rfl (fun d_8 hy_d_8 => ?_)
  have h := h d_8 hy_d_8
  refine st_go 2 (pc' := 55) (lo' := [(0, .ref 38)]) (st' := [.int 0, .ref 38]) rfl ?_
  refine st_putZC (o := 38) (f := 9) rfl rfl rfl rfl (Or.inl rfl) rfl (fun d_9 hy_d_9 => ?_)
  have h := h d_9 hy_d_9
  exact st_retV rfl rfl (hQ _ h)
set_option maxRecDepth 100000 in
def OF_clear (d : vmD) (Q : vmD → Prop) : Prop :=
  Memory_fill 0 65536 0 d fun d_1 =>
  Machine_reset d_1 fun d_2 =>
  Q d_2
set_option maxRecDepth 100000 in
set_option maxHeartbeats 4000000 in
theorem tOF_clear {L : Nat} {e : vmD} {Qo : Option Value → vmW → Prop} {Q : vmD → Prop} (hQ : ∀ d, Q d → Qo none (wC L d e)) (d : vmD) (h : OF_clear d Q) : vmWp 241 0 [(0, .ref 0)] [] (wC L d e) Qo := by
  unfold OF_clear at h
  refine st_go 5 (pc' := 8) (lo' := [(0, .ref 0)]) (st' := [.int 0, .int 65536, .int 0, .ref 1]) rfl ?_
  refine st_callv (k' := 132) (as := [.ref 1, .int 0, .int 65536, .int 0]) (rest := []) (lo' := [(0, .ref 1), (1, .int 0), (2, .int 65536), (3, .int 0)]) (wf := fun d => wC L d e) rfl rfl rfl ?_
  refine tMemory_fill (fun d_1 h => ⟨d_1, rfl, rfl, ?_⟩) 0 65536 0 d h
  refine st_go 2 (pc' := 15) (lo' := [(0, .ref 0)]) (st' := [.ref 38]) rfl ?_
  refine st_callv (k' := 74) (as := [.ref 38]) (rest := []) (lo' := [(0, .ref 38)]) (wf := fun d => wC L d e) rfl rfl rfl ?_
  refine tMachine_reset (fun d_2 h => ⟨d_2, rfl, rfl, ?_⟩) d_1 h
  exact st_retV rfl rfl (hQ _ h)
set_option maxRecDepth 100000 in
def MO_feed_44 (Q : Int32 → vmD → Prop) : Nat → Int64 → Int32 → vmD → Prop
  | 0, _, _, _ => False
  | n + 1, x1, x4, d => if x4 < 0 then
  (Q (gF d 42 1) d)
  else
  (ixOk (gF d 42 1) 6000 ∧
  bnd (sA d 43 (gF d 42 1).toNatClampNeg (Int64.toInt32 ((x1 >>> ((Int32.toInt64 ((8 : Int32) * x4)) &&& 63)) &&& 255))) fun d_9 =>
  bnd (sF d_9 42 1 ((gF d_9 42 1) + 1)) fun d_10 =>
  bnd (x4 + (-1)) fun x4_11 =>
  (MO_feed_44 Q n) x1 x4_11 d_10)
set_option maxRecDepth 100000 in
set_option maxHeartbeats 4000000 in
theorem tMO_feed_44 {L : Nat} {e : vmD} {Qo : Option Value → vmW → Prop} {Q : Int32 → vmD → Prop} (hQ : ∀ r d, Q r d → Qo (some (.int r)) (wR L d e)) : ∀ (n : Nat) (x1 : Int64) (x4 : Int32) (d : vmD), MO_feed_44 Q n x1 x4 d → vmWp 243 44 [(0, .ref 42), (1, .long x1), (4, .int x4)] [] (wR L d e) Qo := by
  intro n
  induction n with
  | zero => intro x1 x4 d h; exact h.elim
  | succ n ih =>
    intro x1 x4 d h
    unfold MO_feed_44 at h
    refine st_go 1 (pc' := 46) (lo' := [(0, .ref 42), (1, .long x1), (4, .int x4)]) (st' := [.int x4]) rfl ?_
    by_cases hc_7 : x4 < 0
    · have h := Eq.mp (if_pos hc_7) h
      refine st_if (t := 86) (b := true) rfl (decide_eq_true hc_7) rfl ?_
      refine st_go 2 (pc' := 90) (lo' := [(0, .ref 42), (1, .long x1), (4, .int x4)]) (st' := [.int (gF d 42 1)]) rfl ?_
      exact st_retI rfl rfl (hQ _ _ h)
    · have h := Eq.mp (if_neg hc_7) h
      refine st_if (t := 49) (b := false) rfl (decide_eq_false hc_7) rfl ?_
      refine st_go 12 (pc' := 69) (lo' := [(0, .ref 42), (1, .long x1), (4, .int x4)]) (st' := [.int (Int64.toInt32 ((x1 >>> ((Int32.toInt64 ((8 : Int32) * x4)) &&& 63)) &&& 255)), .int (gF d 42 1), .ref 43]) rfl ?_
      obtain ⟨hj_8, h⟩ := h
      refine st_iastR (o := 43) rfl rfl hj_8 rfl (fun d_9 hy_d_9 => ?_)
      have h := h d_9 hy_d_9
      refine st_go 5 (pc' := 77) (lo' := [(0, .ref 42), (1, .long x1), (4, .int x4)]) (st' := [.int ((gF d_9 42 1) + 1), .ref 42]) rfl ?_
      refine st_putIR (o := 42) (f := 1) rfl rfl rfl rfl rfl (fun d_10 hy_d_10 => ?_)
      have h := h d_10 hy_d_10
      refine st_go 1 (pc' := 83) (lo' := [(4, .int (x4 + (-1))), (0, .ref 42), (1, .long x1)]) (st' := []) rfl ?_
      refine st_locI (fun x4_11 hy_x4_11 => ?_)
      have h := h x4_11 hy_x4_11
      refine st_go 1 (pc' := 44) (lo' := [(4, .int x4_11), (0, .ref 42), (1, .long x1)]) (st' := []) rfl ?_
      refine vmWp.sub (lo' := [(0, .ref 42), (1, .long x1), (4, .int x4_11)]) ⟨rfl, rfl, rfl, trivial⟩ ?_
      exact ih x1 x4_11 d_10 h
set_option maxRecDepth 100000 in
def MO_feed (x1 : Int64) (x3 : Int32) (d : vmD) (Q : Int32 → vmD → Prop) : Prop :=
  if x3 < 0 then
  (Q (-2) d)
  else
  (if (8 : Int32) < x3 then
  (Q (-2) d)
  else
  (if x3 = 0 then
  (bnd (sF d 42 1 0) fun d_4 =>
  Q 0 d_4)
  else
  (if (6000 : Int32) < ((gF d 42 1) + x3) then
  (Q (-4) d)
  else
  (bnd (x3 - 1) fun x4_6 =>
  ∃ m44, MO_feed_44 Q m44 x1 x4_6 d))))
set_option maxRecDepth 100000 in
set_option maxHeartbeats 4000000 in
theorem tMO_feed {L : Nat} {e : vmD} {Qo : Option Value → vmW → Prop} {Q : Int32 → vmD → Prop} (hQ : ∀ r d, Q r d → Qo (some (.int r)) (wR L d e)) (x1 : Int64) (x3 : Int32) (d : vmD) (h : MO_feed x1 x3 d Q) : vmWp 243 0 [(0, .ref 42), (1, .long x1), (3, .int x3)] [] (wR L d e) Qo := by
  unfold MO_feed at h
  refine st_go 1 (pc' := 1) (lo' := [(0, .ref 42), (1, .long x1), (3, .int x3)]) (st' := [.int x3]) rfl ?_
  by_cases hc_1 : x3 < 0
  · have h := Eq.mp (if_pos hc_1) h
    refine st_if (t := 10) (b := true) rfl (decide_eq_true hc_1) rfl ?_
    refine st_go 1 (pc' := 12) (lo' := [(0, .ref 42), (1, .long x1), (3, .int x3)]) (st' := [.int (-2)]) rfl ?_
    exact st_retI rfl rfl (hQ _ _ h)
  · have h := Eq.mp (if_neg hc_1) h
    refine st_if (t := 4) (b := false) rfl (decide_eq_false hc_1) rfl ?_
    refine st_go 2 (pc' := 7) (lo' := [(0, .ref 42), (1, .long x1), (3, .int x3)]) (st' := [.int 8, .int x3]) rfl ?_
    by_cases hc_2 : (8 : Int32) < x3
    · have h := Eq.mp (if_pos hc_2) h
      refine st_icmp (t := 10) (b := false) rfl (decide_eq_false (Int32.not_le.mpr hc_2)) rfl ?_
      refine st_go 1 (pc' := 12) (lo' := [(0, .ref 42), (1, .long x1), (3, .int x3)]) (st' := [.int (-2)]) rfl ?_
      exact st_retI rfl rfl (hQ _ _ h)
    · have h := Eq.mp (if_neg hc_2) h
      refine st_icmp (t := 13) (b := true) rfl (decide_eq_true (Int32.not_lt.mp hc_2)) rfl ?_
      refine st_go 1 (pc' := 14) (lo' := [(0, .ref 42), (1, .long x1), (3, .int x3)]) (st' := [.int x3]) rfl ?_
      by_cases hc_3 : x3 = 0
      · have h := Eq.mp (if_pos hc_3) h
        refine st_if (t := 17) (b := false) rfl (decide_eq_false (fun z => z hc_3)) rfl ?_
        refine st_go 2 (pc' := 19) (lo' := [(0, .ref 42), (1, .long x1), (3, .int x3)]) (st' := [.int 0, .ref 42]) rfl ?_
        refine st_putIR (o := 42) (f := 1) rfl rfl rfl rfl rfl (fun d_4 hy_d_4 => ?_)
        have h := h d_4 hy_d_4
        refine st_go 1 (pc' := 23) (lo' := [(0, .ref 42), (1, .long x1), (3, .int x3)]) (st' := [.int 0]) rfl ?_
        exact st_retI rfl rfl (hQ _ _ h)
      · have h := Eq.mp (if_neg hc_3) h
        refine st_if (t := 24) (b := true) rfl (decide_eq_true hc_3) rfl ?_
        refine st_go 5 (pc' := 33) (lo' := [(0, .ref 42), (1, .long x1), (3, .int x3)]) (st' := [.int 6000, .int ((gF d 42 1) + x3)]) rfl ?_
        by_cases hc_5 : (6000 : Int32) < ((gF d 42 1) + x3)
        · have h := Eq.mp (if_pos hc_5) h
          refine st_icmp (t := 36) (b := false) rfl (decide_eq_false (Int32.not_le.mpr hc_5)) rfl ?_
          refine st_go 1 (pc' := 38) (lo' := [(0, .ref 42), (1, .long x1), (3, .int x3)]) (st' := [.int (-4)]) rfl ?_
          exact st_retI rfl rfl (hQ _ _ h)
        · have h := Eq.mp (if_neg hc_5) h
          refine st_icmp (t := 39) (b := true) rfl (decide_eq_true (Int32.not_lt.mp hc_5)) rfl ?_
          refine st_go 4 (pc' := 44) (lo' := [(4, .int (x3 - 1)), (0, .ref 42), (1, .long x1), (3, .int x3)]) (st' := []) rfl ?_
          refine st_locI (fun x4_6 hy_x4_6 => ?_)
          have h := h x4_6 hy_x4_6
          obtain ⟨m44, h⟩ := h
          refine vmWp.sub (lo' := [(0, .ref 42), (1, .long x1), (4, .int x4_6)]) ⟨rfl, rfl, rfl, trivial⟩ ?_
          exact tMO_feed_44 hQ m44 x1 x4_6 d h
set_option maxRecDepth 100000 in
def MO_sourceAt (x1 : Int32) (d : vmD) (Q : Int32 → vmD → Prop) : Prop :=
  if x1 < 0 then
  (Q (-1) d)
  else
  (if x1 < (gF d 42 1) then
  (ixOk x1 6000 ∧
  bnd (gA d 43 x1.toNatClampNeg) fun y_4 =>
  Q y_4 d)
  else
  (Q (-1) d))
set_option maxRecDepth 100000 in
set_option maxHeartbeats 4000000 in
theorem tMO_sourceAt {L : Nat} {e : vmD} {Qo : Option Value → vmW → Prop} {Q : Int32 → vmD → Prop} (hQ : ∀ r d, Q r d → Qo (some (.int r)) (wR L d e)) (x1 : Int32) (d : vmD) (h : MO_sourceAt x1 d Q) : vmWp 244 0 [(0, .ref 42), (1, .int x1)] [] (wR L d e) Qo := by
  unfold MO_sourceAt at h
  refine st_go 1 (pc' := 1) (lo' := [(0, .ref 42), (1, .int x1)]) (st' := [.int x1]) rfl ?_
  by_cases hc_1 : x1 < 0
  · have h := Eq.mp (if_pos hc_1) h
    refine st_if (t := 21) (b := true) rfl (decide_eq_true hc_1) rfl ?_
    refine st_go 1 (pc' := 22) (lo' := [(0, .ref 42), (1, .int x1)]) (st' := [.int (-1)]) rfl ?_
    exact st_retI rfl rfl (hQ _ _ h)
  · have h := Eq.mp (if_neg hc_1) h
    refine st_if (t := 4) (b := false) rfl (decide_eq_false hc_1) rfl ?_
    refine st_go 3 (pc' := 9) (lo' := [(0, .ref 42), (1, .int x1)]) (st' := [.int (gF d 42 1), .int x1]) rfl ?_
    by_cases hc_2 : x1 < (gF d 42 1)
    · have h := Eq.mp (if_pos hc_2) h
      refine st_icmp (t := 12) (b := false) rfl (decide_eq_false (Int32.not_le.mpr hc_2)) rfl ?_
      refine st_go 3 (pc' := 17) (lo' := [(0, .ref 42), (1, .int x1)]) (st' := [.int x1, .ref 43]) rfl ?_
      obtain ⟨hj_3, h⟩ := h
      refine st_ialdR (o := 43) rfl rfl hj_3 rfl (fun y_4 hy_y_4 => ?_)
      have h := h y_4 hy_y_4
      refine st_go 1 (pc' := 22) (lo' := [(0, .ref 42), (1, .int x1)]) (st' := [.int y_4]) rfl ?_
      exact st_retI rfl rfl (hQ _ _ h)
    · have h := Eq.mp (if_neg hc_2) h
      refine st_icmp (t := 21) (b := true) rfl (decide_eq_true (Int32.not_lt.mp hc_2)) rfl ?_
      refine st_go 1 (pc' := 22) (lo' := [(0, .ref 42), (1, .int x1)]) (st' := [.int (-1)]) rfl ?_
      exact st_retI rfl rfl (hQ _ _ h)
set_option maxRecDepth 100000 in
def MO_wrong (x1 : Int32) (x2 : Int32) (d : vmD) (Q : Int32 → vmD → Prop) : Prop :=
  if (gF d 42 8) = 0 then
  (bnd (sF d 42 8 x1) fun d_2 =>
  bnd (sF d_2 42 9 x2) fun d_3 =>
  Q 0 d_3)
  else
  (Q 0 d)
set_option maxRecDepth 100000 in
set_option maxHeartbeats 4000000 in
theorem tMO_wrong {L : Nat} {e : vmD} {Qo : Option Value → vmW → Prop} {Q : Int32 → vmD → Prop} (hQ : ∀ r d, Q r d → Qo (some (.int r)) (wR L d e)) (x1 : Int32) (x2 : Int32) (d : vmD) (h : MO_wrong x1 x2 d Q) : vmWp 245 0 [(0, .ref 42), (1, .int x1), (2, .int x2)] [] (wR L d e) Qo := by
  unfold MO_wrong at h
  refine st_go 2 (pc' := 4) (lo' := [(0, .ref 42), (1, .int x1), (2, .int x2)]) (st' := [.int (gF d 42 8)]) rfl ?_
  by_cases hc_1 : (gF d 42 8) = 0
  · have h := Eq.mp (if_pos hc_1) h
    refine st_if (t := 7) (b := false) rfl (decide_eq_false (fun z => z hc_1)) rfl ?_
    refine st_go 2 (pc' := 9) (lo' := [(0, .ref 42), (1, .int x1), (2, .int x2)]) (st' := [.int x1, .ref 42]) rfl ?_
    refine st_putIR (o := 42) (f := 8) rfl rfl rfl rfl rfl (fun d_2 hy_d_2 => ?_)
    have h := h d_2 hy_d_2
    refine st_go 2 (pc' := 14) (lo' := [(0, .ref 42), (1, .int x1), (2, .int x2)]) (st' := [.int x2, .ref 42]) rfl ?_
    refine st_putIR (o := 42) (f := 9) rfl rfl rfl rfl rfl (fun d_3 hy_d_3 => ?_)
    have h := h d_3 hy_d_3
    refine st_go 1 (pc' := 18) (lo' := [(0, .ref 42), (1, .int x1), (2, .int x2)]) (st' := [.int 0]) rfl ?_
    exact st_retZ rfl rfl (Or.inl rfl) (hQ _ _ h)
  · have h := Eq.mp (if_neg hc_1) h
    refine st_if (t := 17) (b := true) rfl (decide_eq_true hc_1) rfl ?_
    refine st_go 1 (pc' := 18) (lo' := [(0, .ref 42), (1, .int x1), (2, .int x2)]) (st' := [.int 0]) rfl ?_
    exact st_retZ rfl rfl (Or.inl rfl) (hQ _ _ h)
set_option maxRecDepth 100000 in
def MO_isDone_4 (Q : Int32 → vmD → Prop) : Nat → Int32 → Int32 → vmD → Prop
  | 0, _, _, _ => False
  | n + 1, x1, x2, d => if x2 < (gF d 42 45) then
  (ixOk x2 9 ∧
  bnd (gA d 57 x2.toNatClampNeg) fun y_3 =>
  bnd (x1 &&& y_3) fun x1_4 =>
  bnd (x2 + 1) fun x2_5 =>
  (MO_isDone_4 Q n) x1_4 x2_5 d)
  else
  ((x1 = 0 ∨ x1 = 1) ∧ Q x1 d)
set_option maxRecDepth 100000 in
set_option maxHeartbeats 4000000 in
theorem tMO_isDone_4 {L : Nat} {e : vmD} {Qo : Option Value → vmW → Prop} {Q : Int32 → vmD → Prop} (hQ : ∀ r d, Q r d → Qo (some (.int r)) (wR L d e)) : ∀ (n : Nat) (x1 : Int32) (x2 : Int32) (d : vmD), MO_isDone_4 Q n x1 x2 d → vmWp 301 4 [(0, .ref 42), (1, .int x1), (2, .int x2)] [] (wR L d e) Qo := by
  intro n
  induction n with
  | zero => intro x1 x2 d h; exact h.elim
  | succ n ih =>
    intro x1 x2 d h
    unfold MO_isDone_4 at h
    refine st_go 3 (pc' := 9) (lo' := [(0, .ref 42), (1, .int x1), (2, .int x2)]) (st' := [.int (gF d 42 45), .int x2]) rfl ?_
    by_cases hc_1 : x2 < (gF d 42 45)
    · have h := Eq.mp (if_pos hc_1) h
      refine st_icmp (t := 12) (b := false) rfl (decide_eq_false (Int32.not_le.mpr hc_1)) rfl ?_
      refine st_go 4 (pc' := 18) (lo' := [(0, .ref 42), (1, .int x1), (2, .int x2)]) (st' := [.int x2, .ref 57, .int x1]) rfl ?_
      obtain ⟨hj_2, h⟩ := h
      refine st_zaldR (o := 57) rfl rfl hj_2 rfl (fun y_3 hy_y_3 => ?_)
      have h := h y_3 hy_y_3
      refine st_go 2 (pc' := 21) (lo' := [(1, .int (x1 &&& y_3)), (0, .ref 42), (2, .int x2)]) (st' := []) rfl ?_
      refine st_locI (fun x1_4 hy_x1_4 => ?_)
      have h := h x1_4 hy_x1_4
      refine st_go 1 (pc' := 24) (lo' := [(2, .int (x2 + 1)), (1, .int x1_4), (0, .ref 42)]) (st' := []) rfl ?_
      refine st_locI (fun x2_5 hy_x2_5 => ?_)
      have h := h x2_5 hy_x2_5
      refine st_go 1 (pc' := 4) (lo' := [(2, .int x2_5), (1, .int x1_4), (0, .ref 42)]) (st' := []) rfl ?_
      refine vmWp.sub (lo' := [(0, .ref 42), (1, .int x1_4), (2, .int x2_5)]) ⟨rfl, rfl, rfl, trivial⟩ ?_
      exact ih x1_4 x2_5 d h
    · have h := Eq.mp (if_neg hc_1) h
      refine st_icmp (t := 27) (b := true) rfl (decide_eq_true (Int32.not_lt.mp hc_1)) rfl ?_
      refine st_go 1 (pc' := 28) (lo' := [(0, .ref 42), (1, .int x1), (2, .int x2)]) (st' := [.int x1]) rfl ?_
      exact st_retZ rfl rfl h.1 (hQ _ _ h.2)
set_option maxRecDepth 100000 in
def MO_isDone (d : vmD) (Q : Int32 → vmD → Prop) : Prop :=
  ∃ m4, MO_isDone_4 Q m4 1 0 d
set_option maxRecDepth 100000 in
set_option maxHeartbeats 4000000 in
theorem tMO_isDone {L : Nat} {e : vmD} {Qo : Option Value → vmW → Prop} {Q : Int32 → vmD → Prop} (hQ : ∀ r d, Q r d → Qo (some (.int r)) (wR L d e)) (d : vmD) (h : MO_isDone d Q) : vmWp 301 0 [(0, .ref 42)] [] (wR L d e) Qo := by
  unfold MO_isDone at h
  refine st_go 4 (pc' := 4) (lo' := [(2, .int 0), (1, .int 1), (0, .ref 42)]) (st' := []) rfl ?_
  obtain ⟨m4, h⟩ := h
  refine vmWp.sub (lo' := [(0, .ref 42), (1, .int 1), (2, .int 0)]) ⟨rfl, rfl, rfl, trivial⟩ ?_
  exact tMO_isDone_4 hQ m4 1 0 d h
set_option maxRecDepth 100000 in
def MO_byteAt (x1 : Int32) (d : vmD) (Q : Int32 → vmD → Prop) : Prop :=
  if x1 < (gF d 42 1) then
  (ixOk x1 6000 ∧
  bnd (gA d 43 x1.toNatClampNeg) fun y_3 =>
  Q y_3 d)
  else
  (Q 10 d)
set_option maxRecDepth 100000 in
set_option maxHeartbeats 4000000 in
theorem tMO_byteAt {L : Nat} {e : vmD} {Qo : Option Value → vmW → Prop} {Q : Int32 → vmD → Prop} (hQ : ∀ r d, Q r d → Qo (some (.int r)) (wR L d e)) (x1 : Int32) (d : vmD) (h : MO_byteAt x1 d Q) : vmWp 247 0 [(0, .ref 42), (1, .int x1)] [] (wR L d e) Qo := by
  unfold MO_byteAt at h
  refine st_go 3 (pc' := 5) (lo' := [(0, .ref 42), (1, .int x1)]) (st' := [.int (gF d 42 1), .int x1]) rfl ?_
  by_cases hc_1 : x1 < (gF d 42 1)
  · have h := Eq.mp (if_pos hc_1) h
    refine st_icmp (t := 8) (b := false) rfl (decide_eq_false (Int32.not_le.mpr hc_1)) rfl ?_
    refine st_go 3 (pc' := 13) (lo' := [(0, .ref 42), (1, .int x1)]) (st' := [.int x1, .ref 43]) rfl ?_
    obtain ⟨hj_2, h⟩ := h
    refine st_ialdR (o := 43) rfl rfl hj_2 rfl (fun y_3 hy_y_3 => ?_)
    have h := h y_3 hy_y_3
    refine st_go 1 (pc' := 19) (lo' := [(0, .ref 42), (1, .int x1)]) (st' := [.int y_3]) rfl ?_
    exact st_retI rfl rfl (hQ _ _ h)
  · have h := Eq.mp (if_neg hc_1) h
    refine st_icmp (t := 17) (b := true) rfl (decide_eq_true (Int32.not_lt.mp hc_1)) rfl ?_
    refine st_go 1 (pc' := 19) (lo' := [(0, .ref 42), (1, .int x1)]) (st' := [.int 10]) rfl ?_
    exact st_retI rfl rfl (hQ _ _ h)
set_option maxRecDepth 100000 in
def MO_isBlank (x1 : Int32) (d : vmD) (Q : Int32 → vmD → Prop) : Prop :=
  if x1 = 32 then
  (Q 1 d)
  else
  (if x1 = 9 then
  (Q 1 d)
  else
  (if x1 = 13 then
  (Q 1 d)
  else
  (Q 0 d)))
set_option maxRecDepth 100000 in
set_option maxHeartbeats 4000000 in
theorem tMO_isBlank {L : Nat} {e : vmD} {Qo : Option Value → vmW → Prop} {Q : Int32 → vmD → Prop} (hQ : ∀ r d, Q r d → Qo (some (.int r)) (wR L d e)) (x1 : Int32) (d : vmD) (h : MO_isBlank x1 d Q) : vmWp 251 0 [(0, .ref 42), (1, .int x1)] [] (wR L d e) Qo := by
  unfold MO_isBlank at h
  refine st_go 2 (pc' := 3) (lo' := [(0, .ref 42), (1, .int x1)]) (st' := [.int 32, .int x1]) rfl ?_
  by_cases hc_1 : x1 = 32
  · have h := Eq.mp (if_pos hc_1) h
    refine st_icmp (t := 18) (b := true) rfl (decide_eq_true hc_1) rfl ?_
    refine st_go 2 (pc' := 23) (lo' := [(0, .ref 42), (1, .int x1)]) (st' := [.int 1]) rfl ?_
    exact st_retZ rfl rfl (Or.inr rfl) (hQ _ _ h)
  · have h := Eq.mp (if_neg hc_1) h
    refine st_icmp (t := 6) (b := false) rfl (decide_eq_false hc_1) rfl ?_
    refine st_go 2 (pc' := 9) (lo' := [(0, .ref 42), (1, .int x1)]) (st' := [.int 9, .int x1]) rfl ?_
    by_cases hc_2 : x1 = 9
    · have h := Eq.mp (if_pos hc_2) h
      refine st_icmp (t := 18) (b := true) rfl (decide_eq_true hc_2) rfl ?_
      refine st_go 2 (pc' := 23) (lo' := [(0, .ref 42), (1, .int x1)]) (st' := [.int 1]) rfl ?_
      exact st_retZ rfl rfl (Or.inr rfl) (hQ _ _ h)
    · have h := Eq.mp (if_neg hc_2) h
      refine st_icmp (t := 12) (b := false) rfl (decide_eq_false hc_2) rfl ?_
      refine st_go 2 (pc' := 15) (lo' := [(0, .ref 42), (1, .int x1)]) (st' := [.int 13, .int x1]) rfl ?_
      by_cases hc_3 : x1 = 13
      · have h := Eq.mp (if_pos hc_3) h
        refine st_icmp (t := 18) (b := false) rfl (decide_eq_false (fun z => z hc_3)) rfl ?_
        refine st_go 2 (pc' := 23) (lo' := [(0, .ref 42), (1, .int x1)]) (st' := [.int 1]) rfl ?_
        exact st_retZ rfl rfl (Or.inr rfl) (hQ _ _ h)
      · have h := Eq.mp (if_neg hc_3) h
        refine st_icmp (t := 22) (b := true) rfl (decide_eq_true hc_3) rfl ?_
        refine st_go 1 (pc' := 23) (lo' := [(0, .ref 42), (1, .int x1)]) (st' := [.int 0]) rfl ?_
        exact st_retZ rfl rfl (Or.inl rfl) (hQ _ _ h)
set_option maxRecDepth 100000 in
def MO_capital (x1 : Int32) (d : vmD) (Q : Int32 → vmD → Prop) : Prop :=
  if x1 < 97 then
  (Q x1 d)
  else
  (if (122 : Int32) < x1 then
  (Q x1 d)
  else
  (Q (x1 - 32) d))
set_option maxRecDepth 100000 in
set_option maxHeartbeats 4000000 in
theorem tMO_capital {L : Nat} {e : vmD} {Qo : Option Value → vmW → Prop} {Q : Int32 → vmD → Prop} (hQ : ∀ r d, Q r d → Qo (some (.int r)) (wR L d e)) (x1 : Int32) (d : vmD) (h : MO_capital x1 d Q) : vmWp 248 0 [(0, .ref 42), (1, .int x1)] [] (wR L d e) Qo := by
  unfold MO_capital at h
  refine st_go 2 (pc' := 3) (lo' := [(0, .ref 42), (1, .int x1)]) (st' := [.int 97, .int x1]) rfl ?_
  by_cases hc_1 : x1 < 97
  · have h := Eq.mp (if_pos hc_1) h
    refine st_icmp (t := 19) (b := true) rfl (decide_eq_true hc_1) rfl ?_
    refine st_go 1 (pc' := 20) (lo' := [(0, .ref 42), (1, .int x1)]) (st' := [.int x1]) rfl ?_
    exact st_retI rfl rfl (hQ _ _ h)
  · have h := Eq.mp (if_neg hc_1) h
    refine st_icmp (t := 6) (b := false) rfl (decide_eq_false hc_1) rfl ?_
    refine st_go 2 (pc' := 9) (lo' := [(0, .ref 42), (1, .int x1)]) (st' := [.int 122, .int x1]) rfl ?_
    by_cases hc_2 : (122 : Int32) < x1
    · have h := Eq.mp (if_pos hc_2) h
      refine st_icmp (t := 19) (b := true) rfl (decide_eq_true hc_2) rfl ?_
      refine st_go 1 (pc' := 20) (lo' := [(0, .ref 42), (1, .int x1)]) (st' := [.int x1]) rfl ?_
      exact st_retI rfl rfl (hQ _ _ h)
    · have h := Eq.mp (if_neg hc_2) h
      refine st_icmp (t := 12) (b := false) rfl (decide_eq_false hc_2) rfl ?_
      refine st_go 4 (pc' := 20) (lo' := [(0, .ref 42), (1, .int x1)]) (st' := [.int (x1 - 32)]) rfl ?_
      exact st_retI rfl rfl (hQ _ _ h)
set_option maxRecDepth 100000 in
def MO_isStart_18 (x1 : Int32) (d : vmD) (Q : Int32 → vmD → Prop) : Prop :=
  if x1 = 95 then
  (Q 1 d)
  else
  (Q 0 d)
set_option maxRecDepth 100000 in
set_option maxHeartbeats 4000000 in
theorem tMO_isStart_18 {L : Nat} {e : vmD} {Qo : Option Value → vmW → Prop} {Q : Int32 → vmD → Prop} (hQ : ∀ r d, Q r d → Qo (some (.int r)) (wR L d e)) (x1 : Int32) (d : vmD) (h : MO_isStart_18 x1 d Q) : vmWp 250 18 [(1, .int x1)] [] (wR L d e) Qo := by
  unfold MO_isStart_18 at h
  refine st_go 2 (pc' := 21) (lo' := [(1, .int x1)]) (st' := [.int 95, .int x1]) rfl ?_
  by_cases hc_4 : x1 = 95
  · have h := Eq.mp (if_pos hc_4) h
    refine st_icmp (t := 24) (b := false) rfl (decide_eq_false (fun z => z hc_4)) rfl ?_
    refine st_go 2 (pc' := 29) (lo' := [(1, .int x1)]) (st' := [.int 1]) rfl ?_
    exact st_retZ rfl rfl (Or.inr rfl) (hQ _ _ h)
  · have h := Eq.mp (if_neg hc_4) h
    refine st_icmp (t := 28) (b := true) rfl (decide_eq_true hc_4) rfl ?_
    refine st_go 1 (pc' := 29) (lo' := [(1, .int x1)]) (st' := [.int 0]) rfl ?_
    exact st_retZ rfl rfl (Or.inl rfl) (hQ _ _ h)
set_option maxRecDepth 100000 in
def MO_isStart (x1 : Int32) (d : vmD) (Q : Int32 → vmD → Prop) : Prop :=
  MO_capital x1 d fun r_2 d_1 =>
  if r_2 < 65 then
  (MO_isStart_18 x1 d_1 Q)
  else
  (if (90 : Int32) < r_2 then
  (MO_isStart_18 x1 d_1 Q)
  else
  (Q 1 d_1))
set_option maxRecDepth 100000 in
set_option maxHeartbeats 4000000 in
theorem tMO_isStart {L : Nat} {e : vmD} {Qo : Option Value → vmW → Prop} {Q : Int32 → vmD → Prop} (hQ : ∀ r d, Q r d → Qo (some (.int r)) (wR L d e)) (x1 : Int32) (d : vmD) (h : MO_isStart x1 d Q) : vmWp 250 0 [(0, .ref 42), (1, .int x1)] [] (wR L d e) Qo := by
  unfold MO_isStart at h
  refine st_go 2 (pc' := 2) (lo' := [(0, .ref 42), (1, .int x1)]) (st' := [.int x1, .ref 42]) rfl ?_
  refine st_calli (k' := 248) (as := [.ref 42, .int x1]) (rest := []) (lo' := [(0, .ref 42), (1, .int x1)]) (wf := fun d => wR L d e) rfl rfl rfl ?_
  refine tMO_capital (fun r_2 d_1 h => ⟨r_2, d_1, rfl, rfl, ?_⟩) x1 d h
  refine st_go 3 (pc' := 9) (lo' := [(2, .int r_2), (0, .ref 42), (1, .int x1)]) (st' := [.int 65, .int r_2]) rfl ?_
  by_cases hc_3 : r_2 < 65
  · have h := Eq.mp (if_pos hc_3) h
    refine st_icmp (t := 18) (b := true) rfl (decide_eq_true hc_3) rfl ?_
    refine vmWp.sub (lo' := [(1, .int x1)]) ⟨rfl, trivial⟩ ?_
    exact tMO_isStart_18 hQ x1 d_1 h
  · have h := Eq.mp (if_neg hc_3) h
    refine st_icmp (t := 12) (b := false) rfl (decide_eq_false hc_3) rfl ?_
    refine st_go 2 (pc' := 15) (lo' := [(2, .int r_2), (0, .ref 42), (1, .int x1)]) (st' := [.int 90, .int r_2]) rfl ?_
    by_cases hc_5 : (90 : Int32) < r_2
    · have h := Eq.mp (if_pos hc_5) h
      refine st_icmp (t := 18) (b := false) rfl (decide_eq_false (Int32.not_le.mpr hc_5)) rfl ?_
      refine vmWp.sub (lo' := [(1, .int x1)]) ⟨rfl, trivial⟩ ?_
      exact tMO_isStart_18 hQ x1 d_1 h
    · have h := Eq.mp (if_neg hc_5) h
      refine st_icmp (t := 24) (b := true) rfl (decide_eq_true (Int32.not_lt.mp hc_5)) rfl ?_
      refine st_go 2 (pc' := 29) (lo' := [(2, .int r_2), (0, .ref 42), (1, .int x1)]) (st' := [.int 1]) rfl ?_
      exact st_retZ rfl rfl (Or.inr rfl) (hQ _ _ h)
set_option maxRecDepth 100000 in
def MO_isDigit (x1 : Int32) (d : vmD) (Q : Int32 → vmD → Prop) : Prop :=
  if x1 < 48 then
  (Q 0 d)
  else
  (if (57 : Int32) < x1 then
  (Q 0 d)
  else
  (Q 1 d))
set_option maxRecDepth 100000 in
set_option maxHeartbeats 4000000 in
theorem tMO_isDigit {L : Nat} {e : vmD} {Qo : Option Value → vmW → Prop} {Q : Int32 → vmD → Prop} (hQ : ∀ r d, Q r d → Qo (some (.int r)) (wR L d e)) (x1 : Int32) (d : vmD) (h : MO_isDigit x1 d Q) : vmWp 249 0 [(0, .ref 42), (1, .int x1)] [] (wR L d e) Qo := by
  unfold MO_isDigit at h
  refine st_go 2 (pc' := 3) (lo' := [(0, .ref 42), (1, .int x1)]) (st' := [.int 48, .int x1]) rfl ?_
  by_cases hc_1 : x1 < 48
  · have h := Eq.mp (if_pos hc_1) h
    refine st_icmp (t := 16) (b := true) rfl (decide_eq_true hc_1) rfl ?_
    refine st_go 1 (pc' := 17) (lo' := [(0, .ref 42), (1, .int x1)]) (st' := [.int 0]) rfl ?_
    exact st_retZ rfl rfl (Or.inl rfl) (hQ _ _ h)
  · have h := Eq.mp (if_neg hc_1) h
    refine st_icmp (t := 6) (b := false) rfl (decide_eq_false hc_1) rfl ?_
    refine st_go 2 (pc' := 9) (lo' := [(0, .ref 42), (1, .int x1)]) (st' := [.int 57, .int x1]) rfl ?_
    by_cases hc_2 : (57 : Int32) < x1
    · have h := Eq.mp (if_pos hc_2) h
      refine st_icmp (t := 16) (b := true) rfl (decide_eq_true hc_2) rfl ?_
      refine st_go 1 (pc' := 17) (lo' := [(0, .ref 42), (1, .int x1)]) (st' := [.int 0]) rfl ?_
      exact st_retZ rfl rfl (Or.inl rfl) (hQ _ _ h)
    · have h := Eq.mp (if_neg hc_2) h
      refine st_icmp (t := 12) (b := false) rfl (decide_eq_false hc_2) rfl ?_
      refine st_go 2 (pc' := 17) (lo' := [(0, .ref 42), (1, .int x1)]) (st' := [.int 1]) rfl ?_
      exact st_retZ rfl rfl (Or.inr rfl) (hQ _ _ h)
set_option maxRecDepth 100000 in
def MO_anyName_115 (b57 : Int64 → Int32 → vmD → Prop) (x3 : Int32) (s0 : Int64) (d : vmD) (Q : Int64 → vmD → Prop) : Prop :=
  bnd (x3 + 1) fun x3_28 =>
  bnd (sF d 42 2 ((gF d 42 2) + 1)) fun d_29 =>
  b57 s0 x3_28 d_29
set_option maxRecDepth 100000 in
set_option maxHeartbeats 4000000 in
theorem tMO_anyName_115 {L : Nat} {e : vmD} {Qo : Option Value → vmW → Prop} {b57 : Int64 → Int32 → vmD → Prop} {Q : Int64 → vmD → Prop} (hb57 : ∀ x1 x3 d, b57 x1 x3 d → vmWp 314 57 [(0, .ref 42), (1, .long x1), (3, .int x3)] [] (wR L d e) Qo) (hQ : ∀ r d, Q r d → Qo (some (.long r)) (wR L d e)) (x3 : Int32) (s0 : Int64) (d : vmD) (h : MO_anyName_115 b57 x3 s0 d Q) : vmWp 314 115 [(0, .ref 42), (3, .int x3)] [.long s0] (wR L d e) Qo := by
  unfold MO_anyName_115 at h
  refine st_go 2 (pc' := 119) (lo' := [(3, .int (x3 + 1)), (1, .long s0), (0, .ref 42)]) (st' := []) rfl ?_
  refine st_locI (fun x3_28 hy_x3_28 => ?_)
  have h := h x3_28 hy_x3_28
  refine st_go 5 (pc' := 126) (lo' := [(3, .int x3_28), (1, .long s0), (0, .ref 42)]) (st' := [.int ((gF d 42 2) + 1), .ref 42]) rfl ?_
  refine st_putIR (o := 42) (f := 2) rfl rfl rfl rfl rfl (fun d_29 hy_d_29 => ?_)
  have h := h d_29 hy_d_29
  refine st_go 1 (pc' := 57) (lo' := [(3, .int x3_28), (1, .long s0), (0, .ref 42)]) (st' := []) rfl ?_
  refine vmWp.sub (lo' := [(0, .ref 42), (1, .long s0), (3, .int x3_28)]) ⟨rfl, rfl, rfl, trivial⟩ ?_
  exact hb57 s0 x3_28 d_29 h
set_option maxRecDepth 100000 in
def MO_anyName_87 (b57 : Int64 → Int32 → vmD → Prop) (x1 : Int64) (x3 : Int32) (d : vmD) (Q : Int64 → vmD → Prop) : Prop :=
  if x3 < 8 then
  (MO_byteAt (gF d 42 2) d fun r_25 d_24 =>
  MO_capital r_25 d_24 fun r_27 d_26 =>
  MO_anyName_115 b57 x3 ((x1 <<< ((Int32.toInt64 (8 : Int32)) &&& 63)) ||| (Int32.toInt64 r_27)) d_26 Q)
  else
  (MO_anyName_115 b57 x3 0 d Q)
set_option maxRecDepth 100000 in
set_option maxHeartbeats 4000000 in
theorem tMO_anyName_87 {L : Nat} {e : vmD} {Qo : Option Value → vmW → Prop} {b57 : Int64 → Int32 → vmD → Prop} {Q : Int64 → vmD → Prop} (hb57 : ∀ x1 x3 d, b57 x1 x3 d → vmWp 314 57 [(0, .ref 42), (1, .long x1), (3, .int x3)] [] (wR L d e) Qo) (hQ : ∀ r d, Q r d → Qo (some (.long r)) (wR L d e)) (x1 : Int64) (x3 : Int32) (d : vmD) (h : MO_anyName_87 b57 x1 x3 d Q) : vmWp 314 87 [(0, .ref 42), (1, .long x1), (3, .int x3)] [] (wR L d e) Qo := by
  unfold MO_anyName_87 at h
  refine st_go 2 (pc' := 90) (lo' := [(0, .ref 42), (1, .long x1), (3, .int x3)]) (st' := [.int 8, .int x3]) rfl ?_
  by_cases hc_23 : x3 < 8
  · have h := Eq.mp (if_pos hc_23) h
    refine st_icmp (t := 93) (b := false) rfl (decide_eq_false (Int32.not_le.mpr hc_23)) rfl ?_
    refine st_go 7 (pc' := 103) (lo' := [(0, .ref 42), (1, .long x1), (3, .int x3)]) (st' := [.int (gF d 42 2), .ref 42, .ref 42, .long (x1 <<< ((Int32.toInt64 (8 : Int32)) &&& 63))]) rfl ?_
    refine st_calli (k' := 247) (as := [.ref 42, .int (gF d 42 2)]) (rest := [.ref 42, .long (x1 <<< ((Int32.toInt64 (8 : Int32)) &&& 63))]) (lo' := [(0, .ref 42), (1, .int (gF d 42 2))]) (wf := fun d => wR L d e) rfl rfl rfl ?_
    refine tMO_byteAt (fun r_25 d_24 h => ⟨r_25, d_24, rfl, rfl, ?_⟩) (gF d 42 2) d h
    refine st_calli (k' := 248) (as := [.ref 42, .int r_25]) (rest := [.long (x1 <<< ((Int32.toInt64 (8 : Int32)) &&& 63))]) (lo' := [(0, .ref 42), (1, .int r_25)]) (wf := fun d => wR L d e) rfl rfl rfl ?_
    refine tMO_capital (fun r_27 d_26 h => ⟨r_27, d_26, rfl, rfl, ?_⟩) r_25 d_24 h
    refine st_go 3 (pc' := 115) (lo' := [(0, .ref 42), (1, .long x1), (3, .int x3)]) (st' := [.long ((x1 <<< ((Int32.toInt64 (8 : Int32)) &&& 63)) ||| (Int32.toInt64 r_27))]) rfl ?_
    refine vmWp.sub (lo' := [(0, .ref 42), (3, .int x3)]) ⟨rfl, rfl, trivial⟩ ?_
    exact tMO_anyName_115 hb57 hQ x3 ((x1 <<< ((Int32.toInt64 (8 : Int32)) &&& 63)) ||| (Int32.toInt64 r_27)) d_26 h
  · have h := Eq.mp (if_neg hc_23) h
    refine st_icmp (t := 114) (b := true) rfl (decide_eq_true (Int32.not_lt.mp hc_23)) rfl ?_
    refine st_go 1 (pc' := 115) (lo' := [(0, .ref 42), (1, .long x1), (3, .int x3)]) (st' := [.long 0]) rfl ?_
    refine vmWp.sub (lo' := [(0, .ref 42), (3, .int x3)]) ⟨rfl, rfl, trivial⟩ ?_
    exact tMO_anyName_115 hb57 hQ x3 0 d h
set_option maxRecDepth 100000 in
def MO_anyName_57 (Q : Int64 → vmD → Prop) : Nat → Int64 → Int32 → vmD → Prop
  | 0, _, _, _ => False
  | n + 1, x1, x3, d => MO_byteAt (gF d 42 2) d fun r_13 d_12 =>
  MO_isStart r_13 d_12 fun r_15 d_14 =>
  if r_15 = 0 then
  (MO_byteAt (gF d_14 42 2) d_14 fun r_18 d_17 =>
  MO_isDigit r_18 d_17 fun r_20 d_19 =>
  if r_20 = 0 then
  (if (8 : Int32) < x3 then
  (Q 0 d_19)
  else
  (Q x1 d_19))
  else
  (MO_anyName_87 (MO_anyName_57 Q n) x1 x3 d_19 Q))
  else
  (MO_anyName_87 (MO_anyName_57 Q n) x1 x3 d_14 Q)
set_option maxRecDepth 100000 in
set_option maxHeartbeats 4000000 in
theorem tMO_anyName_57 {L : Nat} {e : vmD} {Qo : Option Value → vmW → Prop} {Q : Int64 → vmD → Prop} (hQ : ∀ r d, Q r d → Qo (some (.long r)) (wR L d e)) : ∀ (n : Nat) (x1 : Int64) (x3 : Int32) (d : vmD), MO_anyName_57 Q n x1 x3 d → vmWp 314 57 [(0, .ref 42), (1, .long x1), (3, .int x3)] [] (wR L d e) Qo := by
  intro n
  induction n with
  | zero => intro x1 x3 d h; exact h.elim
  | succ n ih =>
    intro x1 x3 d h
    unfold MO_anyName_57 at h
    refine st_go 4 (pc' := 63) (lo' := [(0, .ref 42), (1, .long x1), (3, .int x3)]) (st' := [.int (gF d 42 2), .ref 42, .ref 42]) rfl ?_
    refine st_calli (k' := 247) (as := [.ref 42, .int (gF d 42 2)]) (rest := [.ref 42]) (lo' := [(0, .ref 42), (1, .int (gF d 42 2))]) (wf := fun d => wR L d e) rfl rfl rfl ?_
    refine tMO_byteAt (fun r_13 d_12 h => ⟨r_13, d_12, rfl, rfl, ?_⟩) (gF d 42 2) d h
    refine st_calli (k' := 250) (as := [.ref 42, .int r_13]) (rest := []) (lo' := [(0, .ref 42), (1, .int r_13)]) (wf := fun d => wR L d e) rfl rfl rfl ?_
    refine tMO_isStart (fun r_15 d_14 h => ⟨r_15, d_14, rfl, rfl, ?_⟩) r_13 d_12 h
    by_cases hc_16 : r_15 = 0
    · have h := Eq.mp (if_pos hc_16) h
      refine st_if (t := 72) (b := false) rfl (decide_eq_false (fun z => z hc_16)) rfl ?_
      refine st_go 4 (pc' := 78) (lo' := [(0, .ref 42), (1, .long x1), (3, .int x3)]) (st' := [.int (gF d_14 42 2), .ref 42, .ref 42]) rfl ?_
      refine st_calli (k' := 247) (as := [.ref 42, .int (gF d_14 42 2)]) (rest := [.ref 42]) (lo' := [(0, .ref 42), (1, .int (gF d_14 42 2))]) (wf := fun d => wR L d e) rfl rfl rfl ?_
      refine tMO_byteAt (fun r_18 d_17 h => ⟨r_18, d_17, rfl, rfl, ?_⟩) (gF d_14 42 2) d_14 h
      refine st_calli (k' := 249) (as := [.ref 42, .int r_18]) (rest := []) (lo' := [(0, .ref 42), (1, .int r_18)]) (wf := fun d => wR L d e) rfl rfl rfl ?_
      refine tMO_isDigit (fun r_20 d_19 h => ⟨r_20, d_19, rfl, rfl, ?_⟩) r_18 d_17 h
      by_cases hc_21 : r_20 = 0
      · have h := Eq.mp (if_pos hc_21) h
        refine st_if (t := 132) (b := true) rfl (decide_eq_true hc_21) rfl ?_
        refine st_go 2 (pc' := 135) (lo' := [(0, .ref 42), (1, .long x1), (3, .int x3)]) (st' := [.int 8, .int x3]) rfl ?_
        by_cases hc_22 : (8 : Int32) < x3
        · have h := Eq.mp (if_pos hc_22) h
          refine st_icmp (t := 138) (b := false) rfl (decide_eq_false (Int32.not_le.mpr hc_22)) rfl ?_
          refine st_go 2 (pc' := 143) (lo' := [(0, .ref 42), (1, .long x1), (3, .int x3)]) (st' := [.long 0]) rfl ?_
          exact st_retJ rfl rfl (hQ _ _ h)
        · have h := Eq.mp (if_neg hc_22) h
          refine st_icmp (t := 142) (b := true) rfl (decide_eq_true (Int32.not_lt.mp hc_22)) rfl ?_
          refine st_go 1 (pc' := 143) (lo' := [(0, .ref 42), (1, .long x1), (3, .int x3)]) (st' := [.long x1]) rfl ?_
          exact st_retJ rfl rfl (hQ _ _ h)
      · have h := Eq.mp (if_neg hc_21) h
        refine st_if (t := 87) (b := false) rfl (decide_eq_false hc_21) rfl ?_
        refine vmWp.sub (lo' := [(0, .ref 42), (1, .long x1), (3, .int x3)]) ⟨rfl, rfl, rfl, trivial⟩ ?_
        exact tMO_anyName_87 ih hQ x1 x3 d_19 h
    · have h := Eq.mp (if_neg hc_16) h
      refine st_if (t := 87) (b := true) rfl (decide_eq_true hc_16) rfl ?_
      refine vmWp.sub (lo' := [(0, .ref 42), (1, .long x1), (3, .int x3)]) ⟨rfl, rfl, rfl, trivial⟩ ?_
      exact tMO_anyName_87 ih hQ x1 x3 d_14 h
set_option maxRecDepth 100000 in
def MO_anyName_0 (Q : Int64 → vmD → Prop) : Nat → vmD → Prop
  | 0, _ => False
  | n + 1, d => MO_byteAt (gF d 42 2) d fun r_2 d_1 =>
  MO_isBlank r_2 d_1 fun r_4 d_3 =>
  if r_4 = 0 then
  (bnd (sF d_3 42 4 (gF d_3 42 2)) fun d_6 =>
  MO_byteAt (gF d_6 42 2) d_6 fun r_8 d_7 =>
  MO_isStart r_8 d_7 fun r_10 d_9 =>
  if r_10 = 0 then
  (Q 0 d_9)
  else
  (∃ m57, MO_anyName_57 Q m57 0 0 d_9))
  else
  (bnd (sF d_3 42 2 ((gF d_3 42 2) + 1)) fun d_30 =>
  (MO_anyName_0 Q n) d_30)
set_option maxRecDepth 100000 in
set_option maxHeartbeats 4000000 in
theorem tMO_anyName_0 {L : Nat} {e : vmD} {Qo : Option Value → vmW → Prop} {Q : Int64 → vmD → Prop} (hQ : ∀ r d, Q r d → Qo (some (.long r)) (wR L d e)) : ∀ (n : Nat) (d : vmD), MO_anyName_0 Q n d → vmWp 314 0 [(0, .ref 42)] [] (wR L d e) Qo := by
  intro n
  induction n with
  | zero => intro d h; exact h.elim
  | succ n ih =>
    intro d h
    unfold MO_anyName_0 at h
    refine st_go 4 (pc' := 6) (lo' := [(0, .ref 42)]) (st' := [.int (gF d 42 2), .ref 42, .ref 42]) rfl ?_
    refine st_calli (k' := 247) (as := [.ref 42, .int (gF d 42 2)]) (rest := [.ref 42]) (lo' := [(0, .ref 42), (1, .int (gF d 42 2))]) (wf := fun d => wR L d e) rfl rfl rfl ?_
    refine tMO_byteAt (fun r_2 d_1 h => ⟨r_2, d_1, rfl, rfl, ?_⟩) (gF d 42 2) d h
    refine st_calli (k' := 251) (as := [.ref 42, .int r_2]) (rest := []) (lo' := [(0, .ref 42), (1, .int r_2)]) (wf := fun d => wR L d e) rfl rfl rfl ?_
    refine tMO_isBlank (fun r_4 d_3 h => ⟨r_4, d_3, rfl, rfl, ?_⟩) r_2 d_1 h
    by_cases hc_5 : r_4 = 0
    · have h := Eq.mp (if_pos hc_5) h
      refine st_if (t := 28) (b := true) rfl (decide_eq_true hc_5) rfl ?_
      refine st_go 3 (pc' := 33) (lo' := [(0, .ref 42)]) (st' := [.int (gF d_3 42 2), .ref 42]) rfl ?_
      refine st_putIR (o := 42) (f := 4) rfl rfl rfl rfl rfl (fun d_6 hy_d_6 => ?_)
      have h := h d_6 hy_d_6
      refine st_go 8 (pc' := 46) (lo' := [(3, .int 0), (1, .long 0), (0, .ref 42)]) (st' := [.int (gF d_6 42 2), .ref 42, .ref 42]) rfl ?_
      refine st_calli (k' := 247) (as := [.ref 42, .int (gF d_6 42 2)]) (rest := [.ref 42]) (lo' := [(0, .ref 42), (1, .int (gF d_6 42 2))]) (wf := fun d => wR L d e) rfl rfl rfl ?_
      refine tMO_byteAt (fun r_8 d_7 h => ⟨r_8, d_7, rfl, rfl, ?_⟩) (gF d_6 42 2) d_6 h
      refine st_calli (k' := 250) (as := [.ref 42, .int r_8]) (rest := []) (lo' := [(0, .ref 42), (1, .int r_8)]) (wf := fun d => wR L d e) rfl rfl rfl ?_
      refine tMO_isStart (fun r_10 d_9 h => ⟨r_10, d_9, rfl, rfl, ?_⟩) r_8 d_7 h
      by_cases hc_11 : r_10 = 0
      · have h := Eq.mp (if_pos hc_11) h
        refine st_if (t := 55) (b := false) rfl (decide_eq_false (fun z => z hc_11)) rfl ?_
        refine st_go 1 (pc' := 56) (lo' := [(3, .int 0), (1, .long 0), (0, .ref 42)]) (st' := [.long 0]) rfl ?_
        exact st_retJ rfl rfl (hQ _ _ h)
      · have h := Eq.mp (if_neg hc_11) h
        refine st_if (t := 57) (b := true) rfl (decide_eq_true hc_11) rfl ?_
        obtain ⟨m57, h⟩ := h
        refine vmWp.sub (lo' := [(0, .ref 42), (1, .long 0), (3, .int 0)]) ⟨rfl, rfl, rfl, trivial⟩ ?_
        exact tMO_anyName_57 hQ m57 0 0 d_9 h
    · have h := Eq.mp (if_neg hc_5) h
      refine st_if (t := 15) (b := false) rfl (decide_eq_false hc_5) rfl ?_
      refine st_go 5 (pc' := 22) (lo' := [(0, .ref 42)]) (st' := [.int ((gF d_3 42 2) + 1), .ref 42]) rfl ?_
      refine st_putIR (o := 42) (f := 2) rfl rfl rfl rfl rfl (fun d_30 hy_d_30 => ?_)
      have h := h d_30 hy_d_30
      refine st_go 1 (pc' := 0) (lo' := [(0, .ref 42)]) (st' := []) rfl ?_
      refine vmWp.sub (lo' := [(0, .ref 42)]) ⟨rfl, trivial⟩ ?_
      exact ih d_30 h
set_option maxRecDepth 100000 in
def MO_anyName (d : vmD) (Q : Int64 → vmD → Prop) : Prop :=
  ∃ m0, MO_anyName_0 Q m0 d
set_option maxRecDepth 100000 in
set_option maxHeartbeats 4000000 in
theorem tMO_anyName {L : Nat} {e : vmD} {Qo : Option Value → vmW → Prop} {Q : Int64 → vmD → Prop} (hQ : ∀ r d, Q r d → Qo (some (.long r)) (wR L d e)) (d : vmD) (h : MO_anyName d Q) : vmWp 314 0 [(0, .ref 42)] [] (wR L d e) Qo := by
  unfold MO_anyName at h
  obtain ⟨m0, h⟩ := h
  refine vmWp.sub (lo' := [(0, .ref 42)]) ⟨rfl, trivial⟩ ?_
  exact tMO_anyName_0 hQ m0 d h
set_option maxRecDepth 100000 in
def MO_refuse_13 (s0 : Int32) (d : vmD) (Q : Int32 → vmD → Prop) : Prop :=
  MO_wrong s0 (gF d 42 4) d fun r_3 d_2 =>
  (r_3 = 0 ∨ r_3 = 1) ∧ Q r_3 d_2
set_option maxRecDepth 100000 in
set_option maxHeartbeats 4000000 in
theorem tMO_refuse_13 {L : Nat} {e : vmD} {Qo : Option Value → vmW → Prop} {Q : Int32 → vmD → Prop} (hQ : ∀ r d, Q r d → Qo (some (.int r)) (wR L d e)) (s0 : Int32) (d : vmD) (h : MO_refuse_13 s0 d Q) : vmWp 246 13 [(0, .ref 42)] [.int s0, .ref 42] (wR L d e) Qo := by
  unfold MO_refuse_13 at h
  refine st_go 2 (pc' := 17) (lo' := [(0, .ref 42)]) (st' := [.int (gF d 42 4), .int s0, .ref 42]) rfl ?_
  refine st_calli (k' := 245) (as := [.ref 42, .int s0, .int (gF d 42 4)]) (rest := []) (lo' := [(0, .ref 42), (1, .int s0), (2, .int (gF d 42 4))]) (wf := fun d => wR L d e) rfl rfl rfl ?_
  refine tMO_wrong (fun r_3 d_2 h => ⟨r_3, d_2, rfl, rfl, ?_⟩) s0 (gF d 42 4) d h
  exact st_retZ rfl rfl h.1 (hQ _ _ h.2)
set_option maxRecDepth 100000 in
def MO_refuse (d : vmD) (Q : Int32 → vmD → Prop) : Prop :=
  if (gF d 42 3) = 0 then
  (MO_refuse_13 1 d Q)
  else
  (MO_refuse_13 2 d Q)
set_option maxRecDepth 100000 in
set_option maxHeartbeats 4000000 in
theorem tMO_refuse {L : Nat} {e : vmD} {Qo : Option Value → vmW → Prop} {Q : Int32 → vmD → Prop} (hQ : ∀ r d, Q r d → Qo (some (.int r)) (wR L d e)) (d : vmD) (h : MO_refuse d Q) : vmWp 246 0 [(0, .ref 42)] [] (wR L d e) Qo := by
  unfold MO_refuse at h
  refine st_go 3 (pc' := 5) (lo' := [(0, .ref 42)]) (st' := [.int (gF d 42 3), .ref 42]) rfl ?_
  by_cases hc_1 : (gF d 42 3) = 0
  · have h := Eq.mp (if_pos hc_1) h
    refine st_if (t := 8) (b := false) rfl (decide_eq_false (fun z => z hc_1)) rfl ?_
    refine st_go 2 (pc' := 13) (lo' := [(0, .ref 42)]) (st' := [.int 1, .ref 42]) rfl ?_
    refine vmWp.sub (lo' := [(0, .ref 42)]) ⟨rfl, trivial⟩ ?_
    exact tMO_refuse_13 hQ 1 d h
  · have h := Eq.mp (if_neg hc_1) h
    refine st_if (t := 12) (b := true) rfl (decide_eq_true hc_1) rfl ?_
    refine st_go 1 (pc' := 13) (lo' := [(0, .ref 42)]) (st' := [.int 2, .ref 42]) rfl ?_
    refine vmWp.sub (lo' := [(0, .ref 42)]) ⟨rfl, trivial⟩ ?_
    exact tMO_refuse_13 hQ 2 d h
set_option maxRecDepth 100000 in
def MO_turn_109 (s0 : Int32) (s1 : Int32) (d : vmD) (Q : Int32 → vmD → Prop) : Prop :=
  ixOk s1 9 ∧
  bnd (sA d 57 s1.toNatClampNeg (s0 &&& 1)) fun d_14 =>
  ixOk ((gF d_14 42 45) - 1) 9 ∧
  bnd (sA d_14 58 ((gF d_14 42 45) - 1).toNatClampNeg ((1 : Int32) &&& 1)) fun d_16 =>
  Q 1 d_16
set_option maxRecDepth 100000 in
set_option maxHeartbeats 4000000 in
theorem tMO_turn_109 {L : Nat} {e : vmD} {Qo : Option Value → vmW → Prop} {Q : Int32 → vmD → Prop} (hQ : ∀ r d, Q r d → Qo (some (.int r)) (wR L d e)) (s0 : Int32) (s1 : Int32) (d : vmD) (h : MO_turn_109 s0 s1 d Q) : vmWp 311 109 [(0, .ref 42)] [.int s0, .int s1, .ref 57] (wR L d e) Qo := by
  unfold MO_turn_109 at h
  obtain ⟨hj_13, h⟩ := h
  refine st_zastR (o := 57) rfl rfl rfl hj_13 rfl (fun d_14 hy_d_14 => ?_)
  have h := h d_14 hy_d_14
  refine st_go 7 (pc' := 121) (lo' := [(0, .ref 42)]) (st' := [.int 1, .int ((gF d_14 42 45) - 1), .ref 58]) rfl ?_
  obtain ⟨hj_15, h⟩ := h
  refine st_zastR (o := 58) rfl rfl rfl hj_15 rfl (fun d_16 hy_d_16 => ?_)
  have h := h d_16 hy_d_16
  refine st_go 2 (pc' := 136) (lo' := [(0, .ref 42)]) (st' := [.int 1]) rfl ?_
  exact st_retZ rfl rfl (Or.inr rfl) (hQ _ _ h)
set_option maxRecDepth 100000 in
def MO_turn_75 (x5 : Int32) (d : vmD) (Q : Int32 → vmD → Prop) : Prop :=
  if x5 = 0 then
  (bnd (sF d 42 45 ((gF d 42 45) - 1)) fun d_9 =>
  Q 1 d_9)
  else
  (ixOk ((gF d 42 45) - 1) 9 ∧
  bnd (gA d 57 ((gF d 42 45) - 1).toNatClampNeg) fun y_11 =>
  if y_11 = 0 then
  (MO_turn_109 1 ((gF d 42 45) - 1) d Q)
  else
  (MO_turn_109 0 ((gF d 42 45) - 1) d Q))
set_option maxRecDepth 100000 in
set_option maxHeartbeats 4000000 in
theorem tMO_turn_75 {L : Nat} {e : vmD} {Qo : Option Value → vmW → Prop} {Q : Int32 → vmD → Prop} (hQ : ∀ r d, Q r d → Qo (some (.int r)) (wR L d e)) (x5 : Int32) (d : vmD) (h : MO_turn_75 x5 d Q) : vmWp 311 75 [(0, .ref 42), (5, .int x5)] [] (wR L d e) Qo := by
  unfold MO_turn_75 at h
  refine st_go 1 (pc' := 77) (lo' := [(0, .ref 42), (5, .int x5)]) (st' := [.int x5]) rfl ?_
  by_cases hc_8 : x5 = 0
  · have h := Eq.mp (if_pos hc_8) h
    refine st_if (t := 125) (b := true) rfl (decide_eq_true hc_8) rfl ?_
    refine st_go 5 (pc' := 132) (lo' := [(0, .ref 42), (5, .int x5)]) (st' := [.int ((gF d 42 45) - 1), .ref 42]) rfl ?_
    refine st_putIR (o := 42) (f := 45) rfl rfl rfl rfl rfl (fun d_9 hy_d_9 => ?_)
    have h := h d_9 hy_d_9
    refine st_go 1 (pc' := 136) (lo' := [(0, .ref 42), (5, .int x5)]) (st' := [.int 1]) rfl ?_
    exact st_retZ rfl rfl (Or.inr rfl) (hQ _ _ h)
  · have h := Eq.mp (if_neg hc_8) h
    refine st_if (t := 80) (b := false) rfl (decide_eq_false hc_8) rfl ?_
    refine st_go 12 (pc' := 100) (lo' := [(0, .ref 42), (5, .int x5)]) (st' := [.int ((gF d 42 45) - 1), .ref 57, .int ((gF d 42 45) - 1), .ref 57]) rfl ?_
    obtain ⟨hj_10, h⟩ := h
    refine st_zaldR (o := 57) rfl rfl hj_10 rfl (fun y_11 hy_y_11 => ?_)
    have h := h y_11 hy_y_11
    by_cases hc_12 : y_11 = 0
    · have h := Eq.mp (if_pos hc_12) h
      refine st_if (t := 104) (b := false) rfl (decide_eq_false (fun z => z hc_12)) rfl ?_
      refine st_go 2 (pc' := 109) (lo' := [(0, .ref 42), (5, .int x5)]) (st' := [.int 1, .int ((gF d 42 45) - 1), .ref 57]) rfl ?_
      refine vmWp.sub (lo' := [(0, .ref 42)]) ⟨rfl, trivial⟩ ?_
      exact tMO_turn_109 hQ 1 ((gF d 42 45) - 1) d h
    · have h := Eq.mp (if_neg hc_12) h
      refine st_if (t := 108) (b := true) rfl (decide_eq_true hc_12) rfl ?_
      refine st_go 1 (pc' := 109) (lo' := [(0, .ref 42), (5, .int x5)]) (st' := [.int 0, .int ((gF d 42 45) - 1), .ref 57]) rfl ?_
      refine vmWp.sub (lo' := [(0, .ref 42)]) ⟨rfl, trivial⟩ ?_
      exact tMO_turn_109 hQ 0 ((gF d 42 45) - 1) d h
set_option maxRecDepth 100000 in
def MO_turn_57 (x4 : Int32) (x5 : Int32) (d : vmD) (Q : Int32 → vmD → Prop) : Prop :=
  if x4 = 0 then
  (if (gF d 42 3) = 1 then
  (MO_turn_75 x5 d Q)
  else
  (MO_refuse d fun r_18 d_17 =>
  (r_18 = 0 ∨ r_18 = 1) ∧ Q r_18 d_17))
  else
  (MO_turn_75 x5 d Q)
set_option maxRecDepth 100000 in
set_option maxHeartbeats 4000000 in
theorem tMO_turn_57 {L : Nat} {e : vmD} {Qo : Option Value → vmW → Prop} {Q : Int32 → vmD → Prop} (hQ : ∀ r d, Q r d → Qo (some (.int r)) (wR L d e)) (x4 : Int32) (x5 : Int32) (d : vmD) (h : MO_turn_57 x4 x5 d Q) : vmWp 311 57 [(0, .ref 42), (4, .int x4), (5, .int x5)] [] (wR L d e) Qo := by
  unfold MO_turn_57 at h
  refine st_go 1 (pc' := 59) (lo' := [(0, .ref 42), (4, .int x4), (5, .int x5)]) (st' := [.int x4]) rfl ?_
  by_cases hc_6 : x4 = 0
  · have h := Eq.mp (if_pos hc_6) h
    refine st_if (t := 62) (b := false) rfl (decide_eq_false (fun z => z hc_6)) rfl ?_
    refine st_go 3 (pc' := 67) (lo' := [(0, .ref 42), (4, .int x4), (5, .int x5)]) (st' := [.int 1, .int (gF d 42 3)]) rfl ?_
    by_cases hc_7 : (gF d 42 3) = 1
    · have h := Eq.mp (if_pos hc_7) h
      refine st_icmp (t := 75) (b := true) rfl (decide_eq_true hc_7) rfl ?_
      refine vmWp.sub (lo' := [(0, .ref 42), (5, .int x5)]) ⟨rfl, rfl, trivial⟩ ?_
      exact tMO_turn_75 hQ x5 d h
    · have h := Eq.mp (if_neg hc_7) h
      refine st_icmp (t := 70) (b := false) rfl (decide_eq_false hc_7) rfl ?_
      refine st_go 1 (pc' := 71) (lo' := [(0, .ref 42), (4, .int x4), (5, .int x5)]) (st' := [.ref 42]) rfl ?_
      refine st_calli (k' := 246) (as := [.ref 42]) (rest := []) (lo' := [(0, .ref 42)]) (wf := fun d => wR L d e) rfl rfl rfl ?_
      refine tMO_refuse (fun r_18 d_17 h => ⟨r_18, d_17, rfl, rfl, ?_⟩) d h
      exact st_retZ rfl rfl h.1 (hQ _ _ h.2)
  · have h := Eq.mp (if_neg hc_6) h
    refine st_if (t := 75) (b := true) rfl (decide_eq_true hc_6) rfl ?_
    refine vmWp.sub (lo' := [(0, .ref 42), (5, .int x5)]) ⟨rfl, rfl, trivial⟩ ?_
    exact tMO_turn_75 hQ x5 d h
set_option maxRecDepth 100000 in
def MO_turn_28 (x1 : Int32) (x4 : Int32) (s0 : Int32) (d : vmD) (Q : Int32 → vmD → Prop) : Prop :=
  if s0 = 0 then
  (MO_turn_57 x4 s0 d Q)
  else
  (ixOk ((gF d 42 45) - 1) 9 ∧
  bnd (gA d 58 ((gF d 42 45) - 1).toNatClampNeg) fun y_20 =>
  if y_20 = 0 then
  (MO_turn_57 x4 s0 d Q)
  else
  (MO_wrong 7 x1 d fun r_23 d_22 =>
  (r_23 = 0 ∨ r_23 = 1) ∧ Q r_23 d_22))
set_option maxRecDepth 100000 in
set_option maxHeartbeats 4000000 in
theorem tMO_turn_28 {L : Nat} {e : vmD} {Qo : Option Value → vmW → Prop} {Q : Int32 → vmD → Prop} (hQ : ∀ r d, Q r d → Qo (some (.int r)) (wR L d e)) (x1 : Int32) (x4 : Int32) (s0 : Int32) (d : vmD) (h : MO_turn_28 x1 x4 s0 d Q) : vmWp 311 28 [(0, .ref 42), (1, .int x1), (4, .int x4)] [.int s0] (wR L d e) Qo := by
  unfold MO_turn_28 at h
  refine st_go 2 (pc' := 32) (lo' := [(5, .int s0), (0, .ref 42), (1, .int x1), (4, .int x4)]) (st' := [.int s0]) rfl ?_
  by_cases hc_5 : s0 = 0
  · have h := Eq.mp (if_pos hc_5) h
    refine st_if (t := 57) (b := true) rfl (decide_eq_true hc_5) rfl ?_
    refine vmWp.sub (lo' := [(0, .ref 42), (4, .int x4), (5, .int s0)]) ⟨rfl, rfl, rfl, trivial⟩ ?_
    exact tMO_turn_57 hQ x4 s0 d h
  · have h := Eq.mp (if_neg hc_5) h
    refine st_if (t := 35) (b := false) rfl (decide_eq_false hc_5) rfl ?_
    refine st_go 6 (pc' := 45) (lo' := [(5, .int s0), (0, .ref 42), (1, .int x1), (4, .int x4)]) (st' := [.int ((gF d 42 45) - 1), .ref 58]) rfl ?_
    obtain ⟨hj_19, h⟩ := h
    refine st_zaldR (o := 58) rfl rfl hj_19 rfl (fun y_20 hy_y_20 => ?_)
    have h := h y_20 hy_y_20
    by_cases hc_21 : y_20 = 0
    · have h := Eq.mp (if_pos hc_21) h
      refine st_if (t := 57) (b := true) rfl (decide_eq_true hc_21) rfl ?_
      refine vmWp.sub (lo' := [(0, .ref 42), (4, .int x4), (5, .int s0)]) ⟨rfl, rfl, rfl, trivial⟩ ?_
      exact tMO_turn_57 hQ x4 s0 d h
    · have h := Eq.mp (if_neg hc_21) h
      refine st_if (t := 49) (b := false) rfl (decide_eq_false hc_21) rfl ?_
      refine st_go 3 (pc' := 53) (lo' := [(5, .int s0), (0, .ref 42), (1, .int x1), (4, .int x4)]) (st' := [.int x1, .int 7, .ref 42]) rfl ?_
      refine st_calli (k' := 245) (as := [.ref 42, .int 7, .int x1]) (rest := []) (lo' := [(0, .ref 42), (1, .int 7), (2, .int x1)]) (wf := fun d => wR L d e) rfl rfl rfl ?_
      refine tMO_wrong (fun r_23 d_22 h => ⟨r_23, d_22, rfl, rfl, ?_⟩) 7 x1 d h
      exact st_retZ rfl rfl h.1 (hQ _ _ h.2)
set_option maxRecDepth 100000 in
def MO_turn (x1 : Int32) (x2 : Int64) (x4 : Int32) (d : vmD) (Q : Int32 → vmD → Prop) : Prop :=
  if (gF d 42 45) = 0 then
  (MO_wrong 7 x1 d fun r_3 d_2 =>
  (r_3 = 0 ∨ r_3 = 1) ∧ Q r_3 d_2)
  else
  (if (lg_cmp x2 1162629957) = 0 then
  (MO_turn_28 x1 x4 1 d Q)
  else
  (MO_turn_28 x1 x4 0 d Q))
set_option maxRecDepth 100000 in
set_option maxHeartbeats 4000000 in
theorem tMO_turn {L : Nat} {e : vmD} {Qo : Option Value → vmW → Prop} {Q : Int32 → vmD → Prop} (hQ : ∀ r d, Q r d → Qo (some (.int r)) (wR L d e)) (x1 : Int32) (x2 : Int64) (x4 : Int32) (d : vmD) (h : MO_turn x1 x2 x4 d Q) : vmWp 311 0 [(0, .ref 42), (1, .int x1), (2, .long x2), (4, .int x4)] [] (wR L d e) Qo := by
  unfold MO_turn at h
  refine st_go 2 (pc' := 4) (lo' := [(0, .ref 42), (1, .int x1), (2, .long x2), (4, .int x4)]) (st' := [.int (gF d 42 45)]) rfl ?_
  by_cases hc_1 : (gF d 42 45) = 0
  · have h := Eq.mp (if_pos hc_1) h
    refine st_if (t := 7) (b := false) rfl (decide_eq_false (fun z => z hc_1)) rfl ?_
    refine st_go 3 (pc' := 11) (lo' := [(0, .ref 42), (1, .int x1), (2, .long x2), (4, .int x4)]) (st' := [.int x1, .int 7, .ref 42]) rfl ?_
    refine st_calli (k' := 245) (as := [.ref 42, .int 7, .int x1]) (rest := []) (lo' := [(0, .ref 42), (1, .int 7), (2, .int x1)]) (wf := fun d => wR L d e) rfl rfl rfl ?_
    refine tMO_wrong (fun r_3 d_2 h => ⟨r_3, d_2, rfl, rfl, ?_⟩) 7 x1 d h
    exact st_retZ rfl rfl h.1 (hQ _ _ h.2)
  · have h := Eq.mp (if_neg hc_1) h
    refine st_if (t := 15) (b := true) rfl (decide_eq_true hc_1) rfl ?_
    refine st_go 3 (pc' := 20) (lo' := [(0, .ref 42), (1, .int x1), (2, .long x2), (4, .int x4)]) (st' := [.int (lg_cmp x2 1162629957)]) rfl ?_
    by_cases hc_4 : (lg_cmp x2 1162629957) = 0
    · have h := Eq.mp (if_pos hc_4) h
      refine st_if (t := 23) (b := false) rfl (decide_eq_false (fun z => z hc_4)) rfl ?_
      refine st_go 2 (pc' := 28) (lo' := [(0, .ref 42), (1, .int x1), (2, .long x2), (4, .int x4)]) (st' := [.int 1]) rfl ?_
      refine vmWp.sub (lo' := [(0, .ref 42), (1, .int x1), (4, .int x4)]) ⟨rfl, rfl, rfl, trivial⟩ ?_
      exact tMO_turn_28 hQ x1 x4 1 d h
    · have h := Eq.mp (if_neg hc_4) h
      refine st_if (t := 27) (b := true) rfl (decide_eq_true hc_4) rfl ?_
      refine st_go 1 (pc' := 28) (lo' := [(0, .ref 42), (1, .int x1), (2, .long x2), (4, .int x4)]) (st' := [.int 0]) rfl ?_
      refine vmWp.sub (lo' := [(0, .ref 42), (1, .int x1), (4, .int x4)]) ⟨rfl, rfl, rfl, trivial⟩ ?_
      exact tMO_turn_28 hQ x1 x4 0 d h
set_option maxRecDepth 100000 in
def MO_skipLine_152 (x1 : Int64) (x3 : Int32) (d : vmD) (Q : Int32 → vmD → Prop) : Prop :=
  MO_turn x3 x1 1 d fun r_29 d_28 =>
  (r_29 = 0 ∨ r_29 = 1) ∧ Q r_29 d_28
set_option maxRecDepth 100000 in
set_option maxHeartbeats 4000000 in
theorem tMO_skipLine_152 {L : Nat} {e : vmD} {Qo : Option Value → vmW → Prop} {Q : Int32 → vmD → Prop} (hQ : ∀ r d, Q r d → Qo (some (.int r)) (wR L d e)) (x1 : Int64) (x3 : Int32) (d : vmD) (h : MO_skipLine_152 x1 x3 d Q) : vmWp 315 152 [(0, .ref 42), (1, .long x1), (3, .int x3)] [] (wR L d e) Qo := by
  unfold MO_skipLine_152 at h
  refine st_go 4 (pc' := 156) (lo' := [(0, .ref 42), (1, .long x1), (3, .int x3)]) (st' := [.int 1, .long x1, .int x3, .ref 42]) rfl ?_
  refine st_calli (k' := 311) (as := [.ref 42, .int x3, .long x1, .int 1]) (rest := []) (lo' := [(0, .ref 42), (1, .int x3), (2, .long x1), (4, .int 1)]) (wf := fun d => wR L d e) rfl rfl rfl ?_
  refine tMO_turn (fun r_29 d_28 h => ⟨r_29, d_28, rfl, rfl, ?_⟩) x3 x1 1 d h
  exact st_retZ rfl rfl h.1 (hQ _ _ h.2)
set_option maxRecDepth 100000 in
def MO_skipLine_77 (x1 : Int64) (x3 : Int32) (d : vmD) (Q : Int32 → vmD → Prop) : Prop :=
  if (lg_cmp x1 18758) = 0 then
  (if (gF d 42 45) = 8 then
  (MO_wrong 7 x3 d fun r_21 d_20 =>
  (r_21 = 0 ∨ r_21 = 1) ∧ Q r_21 d_20)
  else
  (ixOk (gF d 42 45) 9 ∧
  bnd (sA d 57 (gF d 42 45).toNatClampNeg ((0 : Int32) &&& 1)) fun d_23 =>
  ixOk (gF d_23 42 45) 9 ∧
  bnd (sA d_23 58 (gF d_23 42 45).toNatClampNeg ((0 : Int32) &&& 1)) fun d_25 =>
  bnd (sF d_25 42 45 ((gF d_25 42 45) + 1)) fun d_26 =>
  Q 1 d_26))
  else
  (if (lg_cmp x1 1162629957) = 0 then
  (MO_skipLine_152 x1 x3 d Q)
  else
  (if (lg_cmp x1 297665841478) = 0 then
  (MO_skipLine_152 x1 x3 d Q)
  else
  (Q 1 d)))
set_option maxRecDepth 100000 in
set_option maxHeartbeats 4000000 in
theorem tMO_skipLine_77 {L : Nat} {e : vmD} {Qo : Option Value → vmW → Prop} {Q : Int32 → vmD → Prop} (hQ : ∀ r d, Q r d → Qo (some (.int r)) (wR L d e)) (x1 : Int64) (x3 : Int32) (d : vmD) (h : MO_skipLine_77 x1 x3 d Q) : vmWp 315 77 [(0, .ref 42), (1, .long x1), (3, .int x3)] [] (wR L d e) Qo := by
  unfold MO_skipLine_77 at h
  refine st_go 3 (pc' := 82) (lo' := [(0, .ref 42), (1, .long x1), (3, .int x3)]) (st' := [.int (lg_cmp x1 18758)]) rfl ?_
  by_cases hc_18 : (lg_cmp x1 18758) = 0
  · have h := Eq.mp (if_pos hc_18) h
    refine st_if (t := 85) (b := false) rfl (decide_eq_false (fun z => z hc_18)) rfl ?_
    refine st_go 3 (pc' := 91) (lo' := [(0, .ref 42), (1, .long x1), (3, .int x3)]) (st' := [.int 8, .int (gF d 42 45)]) rfl ?_
    by_cases hc_19 : (gF d 42 45) = 8
    · have h := Eq.mp (if_pos hc_19) h
      refine st_icmp (t := 94) (b := false) rfl (decide_eq_false (fun z => z hc_19)) rfl ?_
      refine st_go 3 (pc' := 98) (lo' := [(0, .ref 42), (1, .long x1), (3, .int x3)]) (st' := [.int x3, .int 7, .ref 42]) rfl ?_
      refine st_calli (k' := 245) (as := [.ref 42, .int 7, .int x3]) (rest := []) (lo' := [(0, .ref 42), (1, .int 7), (2, .int x3)]) (wf := fun d => wR L d e) rfl rfl rfl ?_
      refine tMO_wrong (fun r_21 d_20 h => ⟨r_21, d_20, rfl, rfl, ?_⟩) 7 x3 d h
      exact st_retZ rfl rfl h.1 (hQ _ _ h.2)
    · have h := Eq.mp (if_neg hc_19) h
      refine st_icmp (t := 102) (b := true) rfl (decide_eq_true hc_19) rfl ?_
      refine st_go 5 (pc' := 111) (lo' := [(0, .ref 42), (1, .long x1), (3, .int x3)]) (st' := [.int 0, .int (gF d 42 45), .ref 57]) rfl ?_
      obtain ⟨hj_22, h⟩ := h
      refine st_zastR (o := 57) rfl rfl rfl hj_22 rfl (fun d_23 hy_d_23 => ?_)
      have h := h d_23 hy_d_23
      refine st_go 5 (pc' := 121) (lo' := [(0, .ref 42), (1, .long x1), (3, .int x3)]) (st' := [.int 0, .int (gF d_23 42 45), .ref 58]) rfl ?_
      obtain ⟨hj_24, h⟩ := h
      refine st_zastR (o := 58) rfl rfl rfl hj_24 rfl (fun d_25 hy_d_25 => ?_)
      have h := h d_25 hy_d_25
      refine st_go 5 (pc' := 129) (lo' := [(0, .ref 42), (1, .long x1), (3, .int x3)]) (st' := [.int ((gF d_25 42 45) + 1), .ref 42]) rfl ?_
      refine st_putIR (o := 42) (f := 45) rfl rfl rfl rfl rfl (fun d_26 hy_d_26 => ?_)
      have h := h d_26 hy_d_26
      refine st_go 1 (pc' := 133) (lo' := [(0, .ref 42), (1, .long x1), (3, .int x3)]) (st' := [.int 1]) rfl ?_
      exact st_retZ rfl rfl (Or.inr rfl) (hQ _ _ h)
  · have h := Eq.mp (if_neg hc_18) h
    refine st_if (t := 134) (b := true) rfl (decide_eq_true hc_18) rfl ?_
    refine st_go 3 (pc' := 139) (lo' := [(0, .ref 42), (1, .long x1), (3, .int x3)]) (st' := [.int (lg_cmp x1 1162629957)]) rfl ?_
    by_cases hc_27 : (lg_cmp x1 1162629957) = 0
    · have h := Eq.mp (if_pos hc_27) h
      refine st_if (t := 152) (b := true) rfl (decide_eq_true hc_27) rfl ?_
      refine vmWp.sub (lo' := [(0, .ref 42), (1, .long x1), (3, .int x3)]) ⟨rfl, rfl, rfl, trivial⟩ ?_
      exact tMO_skipLine_152 hQ x1 x3 d h
    · have h := Eq.mp (if_neg hc_27) h
      refine st_if (t := 142) (b := false) rfl (decide_eq_false hc_27) rfl ?_
      refine st_go 3 (pc' := 147) (lo' := [(0, .ref 42), (1, .long x1), (3, .int x3)]) (st' := [.int (lg_cmp x1 297665841478)]) rfl ?_
      by_cases hc_30 : (lg_cmp x1 297665841478) = 0
      · have h := Eq.mp (if_pos hc_30) h
        refine st_if (t := 152) (b := true) rfl (decide_eq_true hc_30) rfl ?_
        refine vmWp.sub (lo' := [(0, .ref 42), (1, .long x1), (3, .int x3)]) ⟨rfl, rfl, rfl, trivial⟩ ?_
        exact tMO_skipLine_152 hQ x1 x3 d h
      · have h := Eq.mp (if_neg hc_30) h
        refine st_if (t := 150) (b := false) rfl (decide_eq_false hc_30) rfl ?_
        refine st_go 1 (pc' := 151) (lo' := [(0, .ref 42), (1, .long x1), (3, .int x3)]) (st' := [.int 1]) rfl ?_
        exact st_retZ rfl rfl (Or.inr rfl) (hQ _ _ h)
set_option maxRecDepth 100000 in
def MO_skipLine_29 (Q : Int32 → vmD → Prop) : Nat → Int64 → Int32 → Int32 → vmD → Prop
  | 0, _, _, _, _ => False
  | n + 1, x1, x3, x4, d => MO_byteAt x4 d fun r_7 d_6 =>
  MO_isBlank r_7 d_6 fun r_9 d_8 =>
  if r_9 = 0 then
  (MO_byteAt x4 d_8 fun r_12 d_11 =>
  if r_12 = 58 then
  (bnd (sF d_11 42 2 (x4 + 1)) fun d_14 =>
  MO_anyName d_14 fun r_16 d_15 =>
  bnd (gF d_15 42 4) fun x3_17 =>
  MO_skipLine_77 r_16 x3_17 d_15 Q)
  else
  (MO_skipLine_77 x1 x3 d_11 Q))
  else
  (bnd (x4 + 1) fun x4_31 =>
  (MO_skipLine_29 Q n) x1 x3 x4_31 d_8)
set_option maxRecDepth 100000 in
set_option maxHeartbeats 4000000 in
theorem tMO_skipLine_29 {L : Nat} {e : vmD} {Qo : Option Value → vmW → Prop} {Q : Int32 → vmD → Prop} (hQ : ∀ r d, Q r d → Qo (some (.int r)) (wR L d e)) : ∀ (n : Nat) (x1 : Int64) (x3 : Int32) (x4 : Int32) (d : vmD), MO_skipLine_29 Q n x1 x3 x4 d → vmWp 315 29 [(0, .ref 42), (1, .long x1), (3, .int x3), (4, .int x4)] [] (wR L d e) Qo := by
  intro n
  induction n with
  | zero => intro x1 x3 x4 d h; exact h.elim
  | succ n ih =>
    intro x1 x3 x4 d h
    unfold MO_skipLine_29 at h
    refine st_go 3 (pc' := 33) (lo' := [(0, .ref 42), (1, .long x1), (3, .int x3), (4, .int x4)]) (st' := [.int x4, .ref 42, .ref 42]) rfl ?_
    refine st_calli (k' := 247) (as := [.ref 42, .int x4]) (rest := [.ref 42]) (lo' := [(0, .ref 42), (1, .int x4)]) (wf := fun d => wR L d e) rfl rfl rfl ?_
    refine tMO_byteAt (fun r_7 d_6 h => ⟨r_7, d_6, rfl, rfl, ?_⟩) x4 d h
    refine st_calli (k' := 251) (as := [.ref 42, .int r_7]) (rest := []) (lo' := [(0, .ref 42), (1, .int r_7)]) (wf := fun d => wR L d e) rfl rfl rfl ?_
    refine tMO_isBlank (fun r_9 d_8 h => ⟨r_9, d_8, rfl, rfl, ?_⟩) r_7 d_6 h
    by_cases hc_10 : r_9 = 0
    · have h := Eq.mp (if_pos hc_10) h
      refine st_if (t := 48) (b := true) rfl (decide_eq_true hc_10) rfl ?_
      refine st_go 2 (pc' := 51) (lo' := [(0, .ref 42), (1, .long x1), (3, .int x3), (4, .int x4)]) (st' := [.int x4, .ref 42]) rfl ?_
      refine st_calli (k' := 247) (as := [.ref 42, .int x4]) (rest := []) (lo' := [(0, .ref 42), (1, .int x4)]) (wf := fun d => wR L d e) rfl rfl rfl ?_
      refine tMO_byteAt (fun r_12 d_11 h => ⟨r_12, d_11, rfl, rfl, ?_⟩) x4 d_8 h
      refine st_go 1 (pc' := 56) (lo' := [(0, .ref 42), (1, .long x1), (3, .int x3), (4, .int x4)]) (st' := [.int 58, .int r_12]) rfl ?_
      by_cases hc_13 : r_12 = 58
      · have h := Eq.mp (if_pos hc_13) h
        refine st_icmp (t := 59) (b := false) rfl (decide_eq_false (fun z => z hc_13)) rfl ?_
        refine st_go 4 (pc' := 64) (lo' := [(0, .ref 42), (1, .long x1), (3, .int x3), (4, .int x4)]) (st' := [.int (x4 + 1), .ref 42]) rfl ?_
        refine st_putIR (o := 42) (f := 2) rfl rfl rfl rfl rfl (fun d_14 hy_d_14 => ?_)
        have h := h d_14 hy_d_14
        refine st_go 1 (pc' := 68) (lo' := [(0, .ref 42), (1, .long x1), (3, .int x3), (4, .int x4)]) (st' := [.ref 42]) rfl ?_
        refine st_calll (k' := 314) (as := [.ref 42]) (rest := []) (lo' := [(0, .ref 42)]) (wf := fun d => wR L d e) rfl rfl rfl ?_
        refine tMO_anyName (fun r_16 d_15 h => ⟨r_16, d_15, rfl, rfl, ?_⟩) d_14 h
        refine st_go 4 (pc' := 77) (lo' := [(3, .int (gF d_15 42 4)), (1, .long r_16), (0, .ref 42), (4, .int x4)]) (st' := []) rfl ?_
        refine st_locI (fun x3_17 hy_x3_17 => ?_)
        have h := h x3_17 hy_x3_17
        refine vmWp.sub (lo' := [(0, .ref 42), (1, .long r_16), (3, .int x3_17)]) ⟨rfl, rfl, rfl, trivial⟩ ?_
        exact tMO_skipLine_77 hQ r_16 x3_17 d_15 h
      · have h := Eq.mp (if_neg hc_13) h
        refine st_icmp (t := 77) (b := true) rfl (decide_eq_true hc_13) rfl ?_
        refine vmWp.sub (lo' := [(0, .ref 42), (1, .long x1), (3, .int x3)]) ⟨rfl, rfl, rfl, trivial⟩ ?_
        exact tMO_skipLine_77 hQ x1 x3 d_11 h
    · have h := Eq.mp (if_neg hc_10) h
      refine st_if (t := 42) (b := false) rfl (decide_eq_false hc_10) rfl ?_
      refine st_go 1 (pc' := 45) (lo' := [(4, .int (x4 + 1)), (0, .ref 42), (1, .long x1), (3, .int x3)]) (st' := []) rfl ?_
      refine st_locI (fun x4_31 hy_x4_31 => ?_)
      have h := h x4_31 hy_x4_31
      refine st_go 1 (pc' := 29) (lo' := [(4, .int x4_31), (0, .ref 42), (1, .long x1), (3, .int x3)]) (st' := []) rfl ?_
      refine vmWp.sub (lo' := [(0, .ref 42), (1, .long x1), (3, .int x3), (4, .int x4_31)]) ⟨rfl, rfl, rfl, rfl, trivial⟩ ?_
      exact ih x1 x3 x4_31 d_8 h
set_option maxRecDepth 100000 in
def MO_skipLine (d : vmD) (Q : Int32 → vmD → Prop) : Prop :=
  MO_anyName d fun r_2 d_1 =>
  if (gF d_1 42 2) = (gF d_1 42 4) then
  (Q 1 d_1)
  else
  (bnd (gF d_1 42 4) fun x3_4 =>
  bnd (gF d_1 42 2) fun x4_5 =>
  ∃ m29, MO_skipLine_29 Q m29 r_2 x3_4 x4_5 d_1)
set_option maxRecDepth 100000 in
set_option maxHeartbeats 4000000 in
theorem tMO_skipLine {L : Nat} {e : vmD} {Qo : Option Value → vmW → Prop} {Q : Int32 → vmD → Prop} (hQ : ∀ r d, Q r d → Qo (some (.int r)) (wR L d e)) (d : vmD) (h : MO_skipLine d Q) : vmWp 315 0 [(0, .ref 42)] [] (wR L d e) Qo := by
  unfold MO_skipLine at h
  refine st_go 1 (pc' := 1) (lo' := [(0, .ref 42)]) (st' := [.ref 42]) rfl ?_
  refine st_calll (k' := 314) (as := [.ref 42]) (rest := []) (lo' := [(0, .ref 42)]) (wf := fun d => wR L d e) rfl rfl rfl ?_
  refine tMO_anyName (fun r_2 d_1 h => ⟨r_2, d_1, rfl, rfl, ?_⟩) d h
  refine st_go 5 (pc' := 13) (lo' := [(1, .long r_2), (0, .ref 42)]) (st' := [.int (gF d_1 42 4), .int (gF d_1 42 2)]) rfl ?_
  by_cases hc_3 : (gF d_1 42 2) = (gF d_1 42 4)
  · have h := Eq.mp (if_pos hc_3) h
    refine st_icmp (t := 16) (b := false) rfl (decide_eq_false (fun z => z hc_3)) rfl ?_
    refine st_go 1 (pc' := 17) (lo' := [(1, .long r_2), (0, .ref 42)]) (st' := [.int 1]) rfl ?_
    exact st_retZ rfl rfl (Or.inr rfl) (hQ _ _ h)
  · have h := Eq.mp (if_neg hc_3) h
    refine st_icmp (t := 18) (b := true) rfl (decide_eq_true hc_3) rfl ?_
    refine st_go 3 (pc' := 23) (lo' := [(3, .int (gF d_1 42 4)), (1, .long r_2), (0, .ref 42)]) (st' := []) rfl ?_
    refine st_locI (fun x3_4 hy_x3_4 => ?_)
    have h := h x3_4 hy_x3_4
    refine st_go 3 (pc' := 29) (lo' := [(4, .int (gF d_1 42 2)), (3, .int x3_4), (1, .long r_2), (0, .ref 42)]) (st' := []) rfl ?_
    refine st_locI (fun x4_5 hy_x4_5 => ?_)
    have h := h x4_5 hy_x4_5
    obtain ⟨m29, h⟩ := h
    refine vmWp.sub (lo' := [(0, .ref 42), (1, .long r_2), (3, .int x3_4), (4, .int x4_5)]) ⟨rfl, rfl, rfl, rfl, trivial⟩ ?_
    exact tMO_skipLine_29 hQ m29 r_2 x3_4 x4_5 d_1 h
set_option maxRecDepth 100000 in
def MO_worth (x1 : Int32) (d : vmD) (Q : Int32 → vmD → Prop) : Prop :=
  MO_capital x1 d fun r_2 d_1 =>
  MO_isDigit x1 d_1 fun r_4 d_3 =>
  if r_4 = 0 then
  (if r_2 < 65 then
  (Q 99 d_3)
  else
  (if (70 : Int32) < r_2 then
  (Q 99 d_3)
  else
  (Q (r_2 - 55) d_3)))
  else
  (Q (x1 - 48) d_3)
set_option maxRecDepth 100000 in
set_option maxHeartbeats 4000000 in
theorem tMO_worth {L : Nat} {e : vmD} {Qo : Option Value → vmW → Prop} {Q : Int32 → vmD → Prop} (hQ : ∀ r d, Q r d → Qo (some (.int r)) (wR L d e)) (x1 : Int32) (d : vmD) (h : MO_worth x1 d Q) : vmWp 254 0 [(0, .ref 42), (1, .int x1)] [] (wR L d e) Qo := by
  unfold MO_worth at h
  refine st_go 2 (pc' := 2) (lo' := [(0, .ref 42), (1, .int x1)]) (st' := [.int x1, .ref 42]) rfl ?_
  refine st_calli (k' := 248) (as := [.ref 42, .int x1]) (rest := []) (lo' := [(0, .ref 42), (1, .int x1)]) (wf := fun d => wR L d e) rfl rfl rfl ?_
  refine tMO_capital (fun r_2 d_1 h => ⟨r_2, d_1, rfl, rfl, ?_⟩) x1 d h
  refine st_go 3 (pc' := 8) (lo' := [(2, .int r_2), (0, .ref 42), (1, .int x1)]) (st' := [.int x1, .ref 42]) rfl ?_
  refine st_calli (k' := 249) (as := [.ref 42, .int x1]) (rest := []) (lo' := [(0, .ref 42), (1, .int x1)]) (wf := fun d => wR L d e) rfl rfl rfl ?_
  refine tMO_isDigit (fun r_4 d_3 h => ⟨r_4, d_3, rfl, rfl, ?_⟩) x1 d_1 h
  by_cases hc_5 : r_4 = 0
  · have h := Eq.mp (if_pos hc_5) h
    refine st_if (t := 21) (b := true) rfl (decide_eq_true hc_5) rfl ?_
    refine st_go 2 (pc' := 24) (lo' := [(2, .int r_2), (0, .ref 42), (1, .int x1)]) (st' := [.int 65, .int r_2]) rfl ?_
    by_cases hc_6 : r_2 < 65
    · have h := Eq.mp (if_pos hc_6) h
      refine st_icmp (t := 40) (b := true) rfl (decide_eq_true hc_6) rfl ?_
      refine st_go 1 (pc' := 42) (lo' := [(2, .int r_2), (0, .ref 42), (1, .int x1)]) (st' := [.int 99]) rfl ?_
      exact st_retI rfl rfl (hQ _ _ h)
    · have h := Eq.mp (if_neg hc_6) h
      refine st_icmp (t := 27) (b := false) rfl (decide_eq_false hc_6) rfl ?_
      refine st_go 2 (pc' := 30) (lo' := [(2, .int r_2), (0, .ref 42), (1, .int x1)]) (st' := [.int 70, .int r_2]) rfl ?_
      by_cases hc_7 : (70 : Int32) < r_2
      · have h := Eq.mp (if_pos hc_7) h
        refine st_icmp (t := 40) (b := true) rfl (decide_eq_true hc_7) rfl ?_
        refine st_go 1 (pc' := 42) (lo' := [(2, .int r_2), (0, .ref 42), (1, .int x1)]) (st' := [.int 99]) rfl ?_
        exact st_retI rfl rfl (hQ _ _ h)
      · have h := Eq.mp (if_neg hc_7) h
        refine st_icmp (t := 33) (b := false) rfl (decide_eq_false hc_7) rfl ?_
        refine st_go 4 (pc' := 42) (lo' := [(2, .int r_2), (0, .ref 42), (1, .int x1)]) (st' := [.int (r_2 - 55)]) rfl ?_
        exact st_retI rfl rfl (hQ _ _ h)
  · have h := Eq.mp (if_neg hc_5) h
    refine st_if (t := 14) (b := false) rfl (decide_eq_false hc_5) rfl ?_
    refine st_go 4 (pc' := 42) (lo' := [(2, .int r_2), (0, .ref 42), (1, .int x1)]) (st' := [.int (x1 - 48)]) rfl ?_
    exact st_retI rfl rfl (hQ _ _ h)
set_option maxRecDepth 100000 in
def MO_digits_44 (b5 : Int32 → Int32 → Int32 → Int32 → vmD → Prop) (x1 : Int32) (x2 : Int32) (x3 : Int32) (s0 : Int32) (d : vmD) (Q : vmD → Prop) : Prop :=
  bnd (x3 + 1) fun x3_7 =>
  b5 x1 x2 x3_7 s0 d
set_option maxRecDepth 100000 in
set_option maxHeartbeats 4000000 in
theorem tMO_digits_44 {L : Nat} {e : vmD} {Qo : Option Value → vmW → Prop} {b5 : Int32 → Int32 → Int32 → Int32 → vmD → Prop} {Q : vmD → Prop} (hb5 : ∀ x1 x2 x3 x4 d, b5 x1 x2 x3 x4 d → vmWp 255 5 [(0, .ref 42), (1, .int x1), (2, .int x2), (3, .int x3), (4, .int x4)] [] (wR L d e) Qo) (hQ : ∀ d, Q d → Qo none (wR L d e)) (x1 : Int32) (x2 : Int32) (x3 : Int32) (s0 : Int32) (d : vmD) (h : MO_digits_44 b5 x1 x2 x3 s0 d Q) : vmWp 255 44 [(0, .ref 42), (1, .int x1), (2, .int x2), (3, .int x3)] [.int s0] (wR L d e) Qo := by
  unfold MO_digits_44 at h
  refine st_go 2 (pc' := 49) (lo' := [(3, .int (x3 + 1)), (4, .int s0), (0, .ref 42), (1, .int x1), (2, .int x2)]) (st' := []) rfl ?_
  refine st_locI (fun x3_7 hy_x3_7 => ?_)
  have h := h x3_7 hy_x3_7
  refine st_go 1 (pc' := 5) (lo' := [(3, .int x3_7), (4, .int s0), (0, .ref 42), (1, .int x1), (2, .int x2)]) (st' := []) rfl ?_
  refine vmWp.sub (lo' := [(0, .ref 42), (1, .int x1), (2, .int x2), (3, .int x3_7), (4, .int s0)]) ⟨rfl, rfl, rfl, rfl, rfl, trivial⟩ ?_
  exact hb5 x1 x2 x3_7 s0 d h
set_option maxRecDepth 100000 in
def MO_digits_5 (Q : vmD → Prop) : Nat → Int32 → Int32 → Int32 → Int32 → vmD → Prop
  | 0, _, _, _, _, _ => False
  | n + 1, x1, x2, x3, x4, d => MO_byteAt x3 d fun r_2 d_1 =>
  MO_worth r_2 d_1 fun r_4 d_3 =>
  if r_4 < x1 then
  (if (65535 : Int32) < x4 then
  (MO_digits_44 (MO_digits_5 Q n) x1 x2 x3 x4 d_3 Q)
  else
  (MO_byteAt x3 d_3 fun r_9 d_8 =>
  MO_worth r_9 d_8 fun r_11 d_10 =>
  MO_digits_44 (MO_digits_5 Q n) x1 x2 x3 ((x4 * x1) + r_11) d_10 Q))
  else
  (if x3 = x2 then
  (Q d_3)
  else
  (if (65535 : Int32) < x4 then
  (Q d_3)
  else
  (bnd (sF d_3 42 3 3) fun d_14 =>
  bnd (sF d_14 42 6 x4) fun d_15 =>
  bnd (sF d_15 42 2 x3) fun d_16 =>
  Q d_16)))
set_option maxRecDepth 100000 in
set_option maxHeartbeats 4000000 in
theorem tMO_digits_5 {L : Nat} {e : vmD} {Qo : Option Value → vmW → Prop} {Q : vmD → Prop} (hQ : ∀ d, Q d → Qo none (wR L d e)) : ∀ (n : Nat) (x1 : Int32) (x2 : Int32) (x3 : Int32) (x4 : Int32) (d : vmD), MO_digits_5 Q n x1 x2 x3 x4 d → vmWp 255 5 [(0, .ref 42), (1, .int x1), (2, .int x2), (3, .int x3), (4, .int x4)] [] (wR L d e) Qo := by
  intro n
  induction n with
  | zero => intro x1 x2 x3 x4 d h; exact h.elim
  | succ n ih =>
    intro x1 x2 x3 x4 d h
    unfold MO_digits_5 at h
    refine st_go 3 (pc' := 8) (lo' := [(0, .ref 42), (1, .int x1), (2, .int x2), (3, .int x3), (4, .int x4)]) (st' := [.int x3, .ref 42, .ref 42]) rfl ?_
    refine st_calli (k' := 247) (as := [.ref 42, .int x3]) (rest := [.ref 42]) (lo' := [(0, .ref 42), (1, .int x3)]) (wf := fun d => wR L d e) rfl rfl rfl ?_
    refine tMO_byteAt (fun r_2 d_1 h => ⟨r_2, d_1, rfl, rfl, ?_⟩) x3 d h
    refine st_calli (k' := 254) (as := [.ref 42, .int r_2]) (rest := []) (lo' := [(0, .ref 42), (1, .int r_2)]) (wf := fun d => wR L d e) rfl rfl rfl ?_
    refine tMO_worth (fun r_4 d_3 h => ⟨r_4, d_3, rfl, rfl, ?_⟩) r_2 d_1 h
    refine st_go 1 (pc' := 15) (lo' := [(0, .ref 42), (1, .int x1), (2, .int x2), (3, .int x3), (4, .int x4)]) (st' := [.int x1, .int r_4]) rfl ?_
    by_cases hc_5 : r_4 < x1
    · have h := Eq.mp (if_pos hc_5) h
      refine st_icmp (t := 18) (b := false) rfl (decide_eq_false (Int32.not_le.mpr hc_5)) rfl ?_
      refine st_go 2 (pc' := 22) (lo' := [(0, .ref 42), (1, .int x1), (2, .int x2), (3, .int x3), (4, .int x4)]) (st' := [.int 65535, .int x4]) rfl ?_
      by_cases hc_6 : (65535 : Int32) < x4
      · have h := Eq.mp (if_pos hc_6) h
        refine st_icmp (t := 25) (b := false) rfl (decide_eq_false (Int32.not_le.mpr hc_6)) rfl ?_
        refine st_go 2 (pc' := 44) (lo' := [(0, .ref 42), (1, .int x1), (2, .int x2), (3, .int x3), (4, .int x4)]) (st' := [.int x4]) rfl ?_
        refine vmWp.sub (lo' := [(0, .ref 42), (1, .int x1), (2, .int x2), (3, .int x3)]) ⟨rfl, rfl, rfl, rfl, trivial⟩ ?_
        exact tMO_digits_44 ih hQ x1 x2 x3 x4 d_3 h
      · have h := Eq.mp (if_neg hc_6) h
        refine st_icmp (t := 30) (b := true) rfl (decide_eq_true (Int32.not_lt.mp hc_6)) rfl ?_
        refine st_go 6 (pc' := 37) (lo' := [(0, .ref 42), (1, .int x1), (2, .int x2), (3, .int x3), (4, .int x4)]) (st' := [.int x3, .ref 42, .ref 42, .int (x4 * x1)]) rfl ?_
        refine st_calli (k' := 247) (as := [.ref 42, .int x3]) (rest := [.ref 42, .int (x4 * x1)]) (lo' := [(0, .ref 42), (1, .int x3)]) (wf := fun d => wR L d e) rfl rfl rfl ?_
        refine tMO_byteAt (fun r_9 d_8 h => ⟨r_9, d_8, rfl, rfl, ?_⟩) x3 d_3 h
        refine st_calli (k' := 254) (as := [.ref 42, .int r_9]) (rest := [.int (x4 * x1)]) (lo' := [(0, .ref 42), (1, .int r_9)]) (wf := fun d => wR L d e) rfl rfl rfl ?_
        refine tMO_worth (fun r_11 d_10 h => ⟨r_11, d_10, rfl, rfl, ?_⟩) r_9 d_8 h
        refine st_go 1 (pc' := 44) (lo' := [(0, .ref 42), (1, .int x1), (2, .int x2), (3, .int x3), (4, .int x4)]) (st' := [.int ((x4 * x1) + r_11)]) rfl ?_
        refine vmWp.sub (lo' := [(0, .ref 42), (1, .int x1), (2, .int x2), (3, .int x3)]) ⟨rfl, rfl, rfl, rfl, trivial⟩ ?_
        exact tMO_digits_44 ih hQ x1 x2 x3 ((x4 * x1) + r_11) d_10 h
    · have h := Eq.mp (if_neg hc_5) h
      refine st_icmp (t := 52) (b := true) rfl (decide_eq_true (Int32.not_lt.mp hc_5)) rfl ?_
      refine st_go 2 (pc' := 54) (lo' := [(0, .ref 42), (1, .int x1), (2, .int x2), (3, .int x3), (4, .int x4)]) (st' := [.int x2, .int x3]) rfl ?_
      by_cases hc_12 : x3 = x2
      · have h := Eq.mp (if_pos hc_12) h
        refine st_icmp (t := 64) (b := true) rfl (decide_eq_true hc_12) rfl ?_
        exact st_retV rfl rfl (hQ _ h)
      · have h := Eq.mp (if_neg hc_12) h
        refine st_icmp (t := 57) (b := false) rfl (decide_eq_false hc_12) rfl ?_
        refine st_go 2 (pc' := 61) (lo' := [(0, .ref 42), (1, .int x1), (2, .int x2), (3, .int x3), (4, .int x4)]) (st' := [.int 65535, .int x4]) rfl ?_
        by_cases hc_13 : (65535 : Int32) < x4
        · have h := Eq.mp (if_pos hc_13) h
          refine st_icmp (t := 64) (b := false) rfl (decide_eq_false (Int32.not_le.mpr hc_13)) rfl ?_
          exact st_retV rfl rfl (hQ _ h)
        · have h := Eq.mp (if_neg hc_13) h
          refine st_icmp (t := 65) (b := true) rfl (decide_eq_true (Int32.not_lt.mp hc_13)) rfl ?_
          refine st_go 2 (pc' := 67) (lo' := [(0, .ref 42), (1, .int x1), (2, .int x2), (3, .int x3), (4, .int x4)]) (st' := [.int 3, .ref 42]) rfl ?_
          refine st_putIR (o := 42) (f := 3) rfl rfl rfl rfl rfl (fun d_14 hy_d_14 => ?_)
          have h := h d_14 hy_d_14
          refine st_go 2 (pc' := 73) (lo' := [(0, .ref 42), (1, .int x1), (2, .int x2), (3, .int x3), (4, .int x4)]) (st' := [.int x4, .ref 42]) rfl ?_
          refine st_putIR (o := 42) (f := 6) rfl rfl rfl rfl rfl (fun d_15 hy_d_15 => ?_)
          have h := h d_15 hy_d_15
          refine st_go 2 (pc' := 78) (lo' := [(0, .ref 42), (1, .int x1), (2, .int x2), (3, .int x3), (4, .int x4)]) (st' := [.int x3, .ref 42]) rfl ?_
          refine st_putIR (o := 42) (f := 2) rfl rfl rfl rfl rfl (fun d_16 hy_d_16 => ?_)
          have h := h d_16 hy_d_16
          exact st_retV rfl rfl (hQ _ h)
set_option maxRecDepth 100000 in
def MO_digits (x1 : Int32) (x2 : Int32) (d : vmD) (Q : vmD → Prop) : Prop :=
  ∃ m5, MO_digits_5 Q m5 x1 x2 x2 0 d
set_option maxRecDepth 100000 in
set_option maxHeartbeats 4000000 in
theorem tMO_digits {L : Nat} {e : vmD} {Qo : Option Value → vmW → Prop} {Q : vmD → Prop} (hQ : ∀ d, Q d → Qo none (wR L d e)) (x1 : Int32) (x2 : Int32) (d : vmD) (h : MO_digits x1 x2 d Q) : vmWp 255 0 [(0, .ref 42), (1, .int x1), (2, .int x2)] [] (wR L d e) Qo := by
  unfold MO_digits at h
  refine st_go 4 (pc' := 5) (lo' := [(4, .int 0), (3, .int x2), (0, .ref 42), (1, .int x1), (2, .int x2)]) (st' := []) rfl ?_
  obtain ⟨m5, h⟩ := h
  refine vmWp.sub (lo' := [(0, .ref 42), (1, .int x1), (2, .int x2), (3, .int x2), (4, .int 0)]) ⟨rfl, rfl, rfl, rfl, rfl, trivial⟩ ?_
  exact tMO_digits_5 hQ m5 x1 x2 x2 0 d h
set_option maxRecDepth 100000 in
def MO_readSign_49 (s0 : Int32) (d : vmD) (Q : vmD → Prop) : Prop :=
  bnd (sF d 42 6 s0) fun d_7 =>
  bnd (sF d_7 42 2 ((gF d_7 42 2) + 2)) fun d_8 =>
  Q d_8
set_option maxRecDepth 100000 in
set_option maxHeartbeats 4000000 in
theorem tMO_readSign_49 {L : Nat} {e : vmD} {Qo : Option Value → vmW → Prop} {Q : vmD → Prop} (hQ : ∀ d, Q d → Qo none (wR L d e)) (s0 : Int32) (d : vmD) (h : MO_readSign_49 s0 d Q) : vmWp 256 49 [(0, .ref 42)] [.int s0, .ref 42] (wR L d e) Qo := by
  unfold MO_readSign_49 at h
  refine st_putIR (o := 42) (f := 6) rfl rfl rfl rfl rfl (fun d_7 hy_d_7 => ?_)
  have h := h d_7 hy_d_7
  refine st_go 5 (pc' := 59) (lo' := [(0, .ref 42)]) (st' := [.int ((gF d_7 42 2) + 2), .ref 42]) rfl ?_
  refine st_putIR (o := 42) (f := 2) rfl rfl rfl rfl rfl (fun d_8 hy_d_8 => ?_)
  have h := h d_8 hy_d_8
  exact st_retV rfl rfl (hQ _ h)
set_option maxRecDepth 100000 in
def MO_readSign_146 (x1 : Int32) (s0 : Int32) (d : vmD) (Q : vmD → Prop) : Prop :=
  if s0 = 0 then
  (Q d)
  else
  (bnd (sF d 42 3 5) fun d_11 =>
  bnd (sF d_11 42 6 x1) fun d_12 =>
  bnd (sF d_12 42 2 ((gF d_12 42 2) + 1)) fun d_13 =>
  Q d_13)
set_option maxRecDepth 100000 in
set_option maxHeartbeats 4000000 in
theorem tMO_readSign_146 {L : Nat} {e : vmD} {Qo : Option Value → vmW → Prop} {Q : vmD → Prop} (hQ : ∀ d, Q d → Qo none (wR L d e)) (x1 : Int32) (s0 : Int32) (d : vmD) (h : MO_readSign_146 x1 s0 d Q) : vmWp 256 146 [(0, .ref 42), (1, .int x1)] [.int s0] (wR L d e) Qo := by
  unfold MO_readSign_146 at h
  refine st_go 2 (pc' := 148) (lo' := [(3, .int s0), (0, .ref 42), (1, .int x1)]) (st' := [.int s0]) rfl ?_
  by_cases hc_10 : s0 = 0
  · have h := Eq.mp (if_pos hc_10) h
    refine st_if (t := 151) (b := false) rfl (decide_eq_false (fun z => z hc_10)) rfl ?_
    exact st_retV rfl rfl (hQ _ h)
  · have h := Eq.mp (if_neg hc_10) h
    refine st_if (t := 152) (b := true) rfl (decide_eq_true hc_10) rfl ?_
    refine st_go 2 (pc' := 154) (lo' := [(3, .int s0), (0, .ref 42), (1, .int x1)]) (st' := [.int 5, .ref 42]) rfl ?_
    refine st_putIR (o := 42) (f := 3) rfl rfl rfl rfl rfl (fun d_11 hy_d_11 => ?_)
    have h := h d_11 hy_d_11
    refine st_go 2 (pc' := 159) (lo' := [(3, .int s0), (0, .ref 42), (1, .int x1)]) (st' := [.int x1, .ref 42]) rfl ?_
    refine st_putIR (o := 42) (f := 6) rfl rfl rfl rfl rfl (fun d_12 hy_d_12 => ?_)
    have h := h d_12 hy_d_12
    refine st_go 5 (pc' := 169) (lo' := [(3, .int s0), (0, .ref 42), (1, .int x1)]) (st' := [.int ((gF d_12 42 2) + 1), .ref 42]) rfl ?_
    refine st_putIR (o := 42) (f := 2) rfl rfl rfl rfl rfl (fun d_13 hy_d_13 => ?_)
    have h := h d_13 hy_d_13
    exact st_retV rfl rfl (hQ _ h)
set_option maxRecDepth 100000 in
def MO_readSign_141 (x1 : Int32) (d : vmD) (Q : vmD → Prop) : Prop :=
  MO_readSign_146 x1 1 d Q
set_option maxRecDepth 100000 in
set_option maxHeartbeats 4000000 in
theorem tMO_readSign_141 {L : Nat} {e : vmD} {Qo : Option Value → vmW → Prop} {Q : vmD → Prop} (hQ : ∀ d, Q d → Qo none (wR L d e)) (x1 : Int32) (d : vmD) (h : MO_readSign_141 x1 d Q) : vmWp 256 141 [(0, .ref 42), (1, .int x1)] [] (wR L d e) Qo := by
  unfold MO_readSign_141 at h
  refine st_go 2 (pc' := 146) (lo' := [(0, .ref 42), (1, .int x1)]) (st' := [.int 1]) rfl ?_
  refine vmWp.sub (lo' := [(0, .ref 42), (1, .int x1)]) ⟨rfl, rfl, trivial⟩ ?_
  exact tMO_readSign_146 hQ x1 1 d h
set_option maxRecDepth 100000 in
def MO_readSign_63 (x1 : Int32) (d : vmD) (Q : vmD → Prop) : Prop :=
  if x1 = 40 then
  (MO_readSign_141 x1 d Q)
  else
  (if x1 = 41 then
  (MO_readSign_141 x1 d Q)
  else
  (if x1 = 44 then
  (MO_readSign_141 x1 d Q)
  else
  (if x1 = 58 then
  (MO_readSign_141 x1 d Q)
  else
  (if x1 = 43 then
  (MO_readSign_141 x1 d Q)
  else
  (if x1 = 45 then
  (MO_readSign_141 x1 d Q)
  else
  (if x1 = 42 then
  (MO_readSign_141 x1 d Q)
  else
  (if x1 = 47 then
  (MO_readSign_141 x1 d Q)
  else
  (if x1 = 38 then
  (MO_readSign_141 x1 d Q)
  else
  (if x1 = 124 then
  (MO_readSign_141 x1 d Q)
  else
  (if x1 = 94 then
  (MO_readSign_141 x1 d Q)
  else
  (if x1 = 126 then
  (MO_readSign_141 x1 d Q)
  else
  (if x1 = 64 then
  (MO_readSign_141 x1 d Q)
  else
  (MO_readSign_146 x1 0 d Q)))))))))))))
set_option maxRecDepth 100000 in
set_option maxHeartbeats 4000000 in
theorem tMO_readSign_63 {L : Nat} {e : vmD} {Qo : Option Value → vmW → Prop} {Q : vmD → Prop} (hQ : ∀ d, Q d → Qo none (wR L d e)) (x1 : Int32) (d : vmD) (h : MO_readSign_63 x1 d Q) : vmWp 256 63 [(0, .ref 42), (1, .int x1)] [] (wR L d e) Qo := by
  unfold MO_readSign_63 at h
  refine st_go 2 (pc' := 66) (lo' := [(0, .ref 42), (1, .int x1)]) (st' := [.int 40, .int x1]) rfl ?_
  by_cases hc_9 : x1 = 40
  · have h := Eq.mp (if_pos hc_9) h
    refine st_icmp (t := 141) (b := true) rfl (decide_eq_true hc_9) rfl ?_
    refine vmWp.sub (lo' := [(0, .ref 42), (1, .int x1)]) ⟨rfl, rfl, trivial⟩ ?_
    exact tMO_readSign_141 hQ x1 d h
  · have h := Eq.mp (if_neg hc_9) h
    refine st_icmp (t := 69) (b := false) rfl (decide_eq_false hc_9) rfl ?_
    refine st_go 2 (pc' := 72) (lo' := [(0, .ref 42), (1, .int x1)]) (st' := [.int 41, .int x1]) rfl ?_
    by_cases hc_14 : x1 = 41
    · have h := Eq.mp (if_pos hc_14) h
      refine st_icmp (t := 141) (b := true) rfl (decide_eq_true hc_14) rfl ?_
      refine vmWp.sub (lo' := [(0, .ref 42), (1, .int x1)]) ⟨rfl, rfl, trivial⟩ ?_
      exact tMO_readSign_141 hQ x1 d h
    · have h := Eq.mp (if_neg hc_14) h
      refine st_icmp (t := 75) (b := false) rfl (decide_eq_false hc_14) rfl ?_
      refine st_go 2 (pc' := 78) (lo' := [(0, .ref 42), (1, .int x1)]) (st' := [.int 44, .int x1]) rfl ?_
      by_cases hc_15 : x1 = 44
      · have h := Eq.mp (if_pos hc_15) h
        refine st_icmp (t := 141) (b := true) rfl (decide_eq_true hc_15) rfl ?_
        refine vmWp.sub (lo' := [(0, .ref 42), (1, .int x1)]) ⟨rfl, rfl, trivial⟩ ?_
        exact tMO_readSign_141 hQ x1 d h
      · have h := Eq.mp (if_neg hc_15) h
        refine st_icmp (t := 81) (b := false) rfl (decide_eq_false hc_15) rfl ?_
        refine st_go 2 (pc' := 84) (lo' := [(0, .ref 42), (1, .int x1)]) (st' := [.int 58, .int x1]) rfl ?_
        by_cases hc_16 : x1 = 58
        · have h := Eq.mp (if_pos hc_16) h
          refine st_icmp (t := 141) (b := true) rfl (decide_eq_true hc_16) rfl ?_
          refine vmWp.sub (lo' := [(0, .ref 42), (1, .int x1)]) ⟨rfl, rfl, trivial⟩ ?_
          exact tMO_readSign_141 hQ x1 d h
        · have h := Eq.mp (if_neg hc_16) h
          refine st_icmp (t := 87) (b := false) rfl (decide_eq_false hc_16) rfl ?_
          refine st_go 2 (pc' := 90) (lo' := [(0, .ref 42), (1, .int x1)]) (st' := [.int 43, .int x1]) rfl ?_
          by_cases hc_17 : x1 = 43
          · have h := Eq.mp (if_pos hc_17) h
            refine st_icmp (t := 141) (b := true) rfl (decide_eq_true hc_17) rfl ?_
            refine vmWp.sub (lo' := [(0, .ref 42), (1, .int x1)]) ⟨rfl, rfl, trivial⟩ ?_
            exact tMO_readSign_141 hQ x1 d h
          · have h := Eq.mp (if_neg hc_17) h
            refine st_icmp (t := 93) (b := false) rfl (decide_eq_false hc_17) rfl ?_
            refine st_go 2 (pc' := 96) (lo' := [(0, .ref 42), (1, .int x1)]) (st' := [.int 45, .int x1]) rfl ?_
            by_cases hc_18 : x1 = 45
            · have h := Eq.mp (if_pos hc_18) h
              refine st_icmp (t := 141) (b := true) rfl (decide_eq_true hc_18) rfl ?_
              refine vmWp.sub (lo' := [(0, .ref 42), (1, .int x1)]) ⟨rfl, rfl, trivial⟩ ?_
              exact tMO_readSign_141 hQ x1 d h
            · have h := Eq.mp (if_neg hc_18) h
              refine st_icmp (t := 99) (b := false) rfl (decide_eq_false hc_18) rfl ?_
              refine st_go 2 (pc' := 102) (lo' := [(0, .ref 42), (1, .int x1)]) (st' := [.int 42, .int x1]) rfl ?_
              by_cases hc_19 : x1 = 42
              · have h := Eq.mp (if_pos hc_19) h
                refine st_icmp (t := 141) (b := true) rfl (decide_eq_true hc_19) rfl ?_
                refine vmWp.sub (lo' := [(0, .ref 42), (1, .int x1)]) ⟨rfl, rfl, trivial⟩ ?_
                exact tMO_readSign_141 hQ x1 d h
              · have h := Eq.mp (if_neg hc_19) h
                refine st_icmp (t := 105) (b := false) rfl (decide_eq_false hc_19) rfl ?_
                refine st_go 2 (pc' := 108) (lo' := [(0, .ref 42), (1, .int x1)]) (st' := [.int 47, .int x1]) rfl ?_
                by_cases hc_20 : x1 = 47
                · have h := Eq.mp (if_pos hc_20) h
                  refine st_icmp (t := 141) (b := true) rfl (decide_eq_true hc_20) rfl ?_
                  refine vmWp.sub (lo' := [(0, .ref 42), (1, .int x1)]) ⟨rfl, rfl, trivial⟩ ?_
                  exact tMO_readSign_141 hQ x1 d h
                · have h := Eq.mp (if_neg hc_20) h
                  refine st_icmp (t := 111) (b := false) rfl (decide_eq_false hc_20) rfl ?_
                  refine st_go 2 (pc' := 114) (lo' := [(0, .ref 42), (1, .int x1)]) (st' := [.int 38, .int x1]) rfl ?_
                  by_cases hc_21 : x1 = 38
                  · have h := Eq.mp (if_pos hc_21) h
                    refine st_icmp (t := 141) (b := true) rfl (decide_eq_true hc_21) rfl ?_
                    refine vmWp.sub (lo' := [(0, .ref 42), (1, .int x1)]) ⟨rfl, rfl, trivial⟩ ?_
                    exact tMO_readSign_141 hQ x1 d h
                  · have h := Eq.mp (if_neg hc_21) h
                    refine st_icmp (t := 117) (b := false) rfl (decide_eq_false hc_21) rfl ?_
                    refine st_go 2 (pc' := 120) (lo' := [(0, .ref 42), (1, .int x1)]) (st' := [.int 124, .int x1]) rfl ?_
                    by_cases hc_22 : x1 = 124
                    · have h := Eq.mp (if_pos hc_22) h
                      refine st_icmp (t := 141) (b := true) rfl (decide_eq_true hc_22) rfl ?_
                      refine vmWp.sub (lo' := [(0, .ref 42), (1, .int x1)]) ⟨rfl, rfl, trivial⟩ ?_
                      exact tMO_readSign_141 hQ x1 d h
                    · have h := Eq.mp (if_neg hc_22) h
                      refine st_icmp (t := 123) (b := false) rfl (decide_eq_false hc_22) rfl ?_
                      refine st_go 2 (pc' := 126) (lo' := [(0, .ref 42), (1, .int x1)]) (st' := [.int 94, .int x1]) rfl ?_
                      by_cases hc_23 : x1 = 94
                      · have h := Eq.mp (if_pos hc_23) h
                        refine st_icmp (t := 141) (b := true) rfl (decide_eq_true hc_23) rfl ?_
                        refine vmWp.sub (lo' := [(0, .ref 42), (1, .int x1)]) ⟨rfl, rfl, trivial⟩ ?_
                        exact tMO_readSign_141 hQ x1 d h
                      · have h := Eq.mp (if_neg hc_23) h
                        refine st_icmp (t := 129) (b := false) rfl (decide_eq_false hc_23) rfl ?_
                        refine st_go 2 (pc' := 132) (lo' := [(0, .ref 42), (1, .int x1)]) (st' := [.int 126, .int x1]) rfl ?_
                        by_cases hc_24 : x1 = 126
                        · have h := Eq.mp (if_pos hc_24) h
                          refine st_icmp (t := 141) (b := true) rfl (decide_eq_true hc_24) rfl ?_
                          refine vmWp.sub (lo' := [(0, .ref 42), (1, .int x1)]) ⟨rfl, rfl, trivial⟩ ?_
                          exact tMO_readSign_141 hQ x1 d h
                        · have h := Eq.mp (if_neg hc_24) h
                          refine st_icmp (t := 135) (b := false) rfl (decide_eq_false hc_24) rfl ?_
                          refine st_go 2 (pc' := 138) (lo' := [(0, .ref 42), (1, .int x1)]) (st' := [.int 64, .int x1]) rfl ?_
                          by_cases hc_25 : x1 = 64
                          · have h := Eq.mp (if_pos hc_25) h
                            refine st_icmp (t := 141) (b := false) rfl (decide_eq_false (fun z => z hc_25)) rfl ?_
                            refine vmWp.sub (lo' := [(0, .ref 42), (1, .int x1)]) ⟨rfl, rfl, trivial⟩ ?_
                            exact tMO_readSign_141 hQ x1 d h
                          · have h := Eq.mp (if_neg hc_25) h
                            refine st_icmp (t := 145) (b := true) rfl (decide_eq_true hc_25) rfl ?_
                            refine st_go 1 (pc' := 146) (lo' := [(0, .ref 42), (1, .int x1)]) (st' := [.int 0]) rfl ?_
                            refine vmWp.sub (lo' := [(0, .ref 42), (1, .int x1)]) ⟨rfl, rfl, trivial⟩ ?_
                            exact tMO_readSign_146 hQ x1 0 d h
set_option maxRecDepth 100000 in
def MO_readSign_23 (x1 : Int32) (x2 : Int32) (d : vmD) (Q : vmD → Prop) : Prop :=
  if x2 = x1 then
  (bnd (sF d 42 3 5) fun d_5 =>
  if x1 = 60 then
  (MO_readSign_49 300 d_5 Q)
  else
  (MO_readSign_49 301 d_5 Q))
  else
  (MO_readSign_63 x1 d Q)
set_option maxRecDepth 100000 in
set_option maxHeartbeats 4000000 in
theorem tMO_readSign_23 {L : Nat} {e : vmD} {Qo : Option Value → vmW → Prop} {Q : vmD → Prop} (hQ : ∀ d, Q d → Qo none (wR L d e)) (x1 : Int32) (x2 : Int32) (d : vmD) (h : MO_readSign_23 x1 x2 d Q) : vmWp 256 23 [(0, .ref 42), (1, .int x1), (2, .int x2)] [] (wR L d e) Qo := by
  unfold MO_readSign_23 at h
  refine st_go 2 (pc' := 25) (lo' := [(0, .ref 42), (1, .int x1), (2, .int x2)]) (st' := [.int x1, .int x2]) rfl ?_
  by_cases hc_4 : x2 = x1
  · have h := Eq.mp (if_pos hc_4) h
    refine st_icmp (t := 28) (b := false) rfl (decide_eq_false (fun z => z hc_4)) rfl ?_
    refine st_go 2 (pc' := 30) (lo' := [(0, .ref 42), (1, .int x1), (2, .int x2)]) (st' := [.int 5, .ref 42]) rfl ?_
    refine st_putIR (o := 42) (f := 3) rfl rfl rfl rfl rfl (fun d_5 hy_d_5 => ?_)
    have h := h d_5 hy_d_5
    refine st_go 3 (pc' := 37) (lo' := [(0, .ref 42), (1, .int x1), (2, .int x2)]) (st' := [.int 60, .int x1, .ref 42]) rfl ?_
    by_cases hc_6 : x1 = 60
    · have h := Eq.mp (if_pos hc_6) h
      refine st_icmp (t := 40) (b := false) rfl (decide_eq_false (fun z => z hc_6)) rfl ?_
      refine st_go 2 (pc' := 49) (lo' := [(0, .ref 42), (1, .int x1), (2, .int x2)]) (st' := [.int 300, .ref 42]) rfl ?_
      refine vmWp.sub (lo' := [(0, .ref 42)]) ⟨rfl, trivial⟩ ?_
      exact tMO_readSign_49 hQ 300 d_5 h
    · have h := Eq.mp (if_neg hc_6) h
      refine st_icmp (t := 46) (b := true) rfl (decide_eq_true hc_6) rfl ?_
      refine st_go 1 (pc' := 49) (lo' := [(0, .ref 42), (1, .int x1), (2, .int x2)]) (st' := [.int 301, .ref 42]) rfl ?_
      refine vmWp.sub (lo' := [(0, .ref 42)]) ⟨rfl, trivial⟩ ?_
      exact tMO_readSign_49 hQ 301 d_5 h
  · have h := Eq.mp (if_neg hc_4) h
    refine st_icmp (t := 63) (b := true) rfl (decide_eq_true hc_4) rfl ?_
    refine vmWp.sub (lo' := [(0, .ref 42), (1, .int x1)]) ⟨rfl, rfl, trivial⟩ ?_
    exact tMO_readSign_63 hQ x1 d h
set_option maxRecDepth 100000 in
def MO_readSign (x1 : Int32) (d : vmD) (Q : vmD → Prop) : Prop :=
  MO_byteAt ((gF d 42 2) + 1) d fun r_2 d_1 =>
  if x1 = 60 then
  (MO_readSign_23 x1 r_2 d_1 Q)
  else
  (if x1 = 62 then
  (MO_readSign_23 x1 r_2 d_1 Q)
  else
  (MO_readSign_63 x1 d_1 Q))
set_option maxRecDepth 100000 in
set_option maxHeartbeats 4000000 in
theorem tMO_readSign {L : Nat} {e : vmD} {Qo : Option Value → vmW → Prop} {Q : vmD → Prop} (hQ : ∀ d, Q d → Qo none (wR L d e)) (x1 : Int32) (d : vmD) (h : MO_readSign x1 d Q) : vmWp 256 0 [(0, .ref 42), (1, .int x1)] [] (wR L d e) Qo := by
  unfold MO_readSign at h
  refine st_go 5 (pc' := 7) (lo' := [(0, .ref 42), (1, .int x1)]) (st' := [.int ((gF d 42 2) + 1), .ref 42]) rfl ?_
  refine st_calli (k' := 247) (as := [.ref 42, .int ((gF d 42 2) + 1)]) (rest := []) (lo' := [(0, .ref 42), (1, .int ((gF d 42 2) + 1))]) (wf := fun d => wR L d e) rfl rfl rfl ?_
  refine tMO_byteAt (fun r_2 d_1 h => ⟨r_2, d_1, rfl, rfl, ?_⟩) ((gF d 42 2) + 1) d h
  refine st_go 3 (pc' := 14) (lo' := [(2, .int r_2), (0, .ref 42), (1, .int x1)]) (st' := [.int 60, .int x1]) rfl ?_
  by_cases hc_3 : x1 = 60
  · have h := Eq.mp (if_pos hc_3) h
    refine st_icmp (t := 23) (b := true) rfl (decide_eq_true hc_3) rfl ?_
    refine vmWp.sub (lo' := [(0, .ref 42), (1, .int x1), (2, .int r_2)]) ⟨rfl, rfl, rfl, trivial⟩ ?_
    exact tMO_readSign_23 hQ x1 r_2 d_1 h
  · have h := Eq.mp (if_neg hc_3) h
    refine st_icmp (t := 17) (b := false) rfl (decide_eq_false hc_3) rfl ?_
    refine st_go 2 (pc' := 20) (lo' := [(2, .int r_2), (0, .ref 42), (1, .int x1)]) (st' := [.int 62, .int x1]) rfl ?_
    by_cases hc_26 : x1 = 62
    · have h := Eq.mp (if_pos hc_26) h
      refine st_icmp (t := 23) (b := false) rfl (decide_eq_false (fun z => z hc_26)) rfl ?_
      refine vmWp.sub (lo' := [(0, .ref 42), (1, .int x1), (2, .int r_2)]) ⟨rfl, rfl, rfl, trivial⟩ ?_
      exact tMO_readSign_23 hQ x1 r_2 d_1 h
    · have h := Eq.mp (if_neg hc_26) h
      refine st_icmp (t := 63) (b := true) rfl (decide_eq_true hc_26) rfl ?_
      refine vmWp.sub (lo' := [(0, .ref 42), (1, .int x1)]) ⟨rfl, rfl, trivial⟩ ?_
      exact tMO_readSign_63 hQ x1 d_1 h
set_option maxRecDepth 100000 in
def MO_name_129 (x1 : Int32) (d : vmD) (Q : vmD → Prop) : Prop :=
  bnd (sF d 42 2 x1) fun d_24 =>
  Q d_24
set_option maxRecDepth 100000 in
set_option maxHeartbeats 4000000 in
theorem tMO_name_129 {L : Nat} {e : vmD} {Qo : Option Value → vmW → Prop} {Q : vmD → Prop} (hQ : ∀ d, Q d → Qo none (wR L d e)) (x1 : Int32) (d : vmD) (h : MO_name_129 x1 d Q) : vmWp 253 129 [(0, .ref 42), (1, .int x1)] [] (wR L d e) Qo := by
  unfold MO_name_129 at h
  refine st_go 2 (pc' := 131) (lo' := [(0, .ref 42), (1, .int x1)]) (st' := [.int x1, .ref 42]) rfl ?_
  refine st_putIR (o := 42) (f := 2) rfl rfl rfl rfl rfl (fun d_24 hy_d_24 => ?_)
  have h := h d_24 hy_d_24
  exact st_retV rfl rfl (hQ _ h)
set_option maxRecDepth 100000 in
def MO_name_98 (x1 : Int32) (d : vmD) (Q : vmD → Prop) : Prop :=
  if (lg_cmp (gG d 42 7) 16710) = 0 then
  (MO_byteAt x1 d fun r_20 d_19 =>
  if r_20 = 39 then
  (bnd (sG d_19 42 7 4277799) fun d_22 =>
  bnd (x1 + 1) fun x1_23 =>
  MO_name_129 x1_23 d_22 Q)
  else
  (MO_name_129 x1 d_19 Q))
  else
  (MO_name_129 x1 d Q)
set_option maxRecDepth 100000 in
set_option maxHeartbeats 4000000 in
theorem tMO_name_98 {L : Nat} {e : vmD} {Qo : Option Value → vmW → Prop} {Q : vmD → Prop} (hQ : ∀ d, Q d → Qo none (wR L d e)) (x1 : Int32) (d : vmD) (h : MO_name_98 x1 d Q) : vmWp 253 98 [(0, .ref 42), (1, .int x1)] [] (wR L d e) Qo := by
  unfold MO_name_98 at h
  refine st_go 4 (pc' := 106) (lo' := [(0, .ref 42), (1, .int x1)]) (st' := [.int (lg_cmp (gG d 42 7) 16710)]) rfl ?_
  by_cases hc_18 : (lg_cmp (gG d 42 7) 16710) = 0
  · have h := Eq.mp (if_pos hc_18) h
    refine st_if (t := 109) (b := false) rfl (decide_eq_false (fun z => z hc_18)) rfl ?_
    refine st_go 2 (pc' := 111) (lo' := [(0, .ref 42), (1, .int x1)]) (st' := [.int x1, .ref 42]) rfl ?_
    refine st_calli (k' := 247) (as := [.ref 42, .int x1]) (rest := []) (lo' := [(0, .ref 42), (1, .int x1)]) (wf := fun d => wR L d e) rfl rfl rfl ?_
    refine tMO_byteAt (fun r_20 d_19 h => ⟨r_20, d_19, rfl, rfl, ?_⟩) x1 d h
    refine st_go 1 (pc' := 116) (lo' := [(0, .ref 42), (1, .int x1)]) (st' := [.int 39, .int r_20]) rfl ?_
    by_cases hc_21 : r_20 = 39
    · have h := Eq.mp (if_pos hc_21) h
      refine st_icmp (t := 119) (b := false) rfl (decide_eq_false (fun z => z hc_21)) rfl ?_
      refine st_go 2 (pc' := 123) (lo' := [(0, .ref 42), (1, .int x1)]) (st' := [.long 4277799, .ref 42]) rfl ?_
      refine st_putJR (o := 42) (f := 7) rfl rfl rfl rfl rfl (fun d_22 hy_d_22 => ?_)
      have h := h d_22 hy_d_22
      refine st_go 1 (pc' := 129) (lo' := [(1, .int (x1 + 1)), (0, .ref 42)]) (st' := []) rfl ?_
      refine st_locI (fun x1_23 hy_x1_23 => ?_)
      have h := h x1_23 hy_x1_23
      refine vmWp.sub (lo' := [(0, .ref 42), (1, .int x1_23)]) ⟨rfl, rfl, trivial⟩ ?_
      exact tMO_name_129 hQ x1_23 d_22 h
    · have h := Eq.mp (if_neg hc_21) h
      refine st_icmp (t := 129) (b := true) rfl (decide_eq_true hc_21) rfl ?_
      refine vmWp.sub (lo' := [(0, .ref 42), (1, .int x1)]) ⟨rfl, rfl, trivial⟩ ?_
      exact tMO_name_129 hQ x1 d_19 h
  · have h := Eq.mp (if_neg hc_18) h
    refine st_if (t := 129) (b := true) rfl (decide_eq_true hc_18) rfl ?_
    refine vmWp.sub (lo' := [(0, .ref 42), (1, .int x1)]) ⟨rfl, rfl, trivial⟩ ?_
    exact tMO_name_129 hQ x1 d h
set_option maxRecDepth 100000 in
def MO_name_59 (Q : vmD → Prop) : Nat → Int32 → Int32 → Int32 → vmD → Prop
  | 0, _, _, _, _ => False
  | n + 1, x1, x2, x3, d => if x3 < x1 then
  (if (8 : Int32) < x2 then
  (MO_name_98 x1 d Q)
  else
  (MO_byteAt x3 d fun r_26 d_25 =>
  MO_capital r_26 d_25 fun r_28 d_27 =>
  bnd (sG d_27 42 7 (((gG d 42 7) <<< ((Int32.toInt64 (8 : Int32)) &&& 63)) ||| (Int32.toInt64 r_28))) fun d_29 =>
  bnd (x3 + 1) fun x3_30 =>
  (MO_name_59 Q n) x1 x2 x3_30 d_29))
  else
  (MO_name_98 x1 d Q)
set_option maxRecDepth 100000 in
set_option maxHeartbeats 4000000 in
theorem tMO_name_59 {L : Nat} {e : vmD} {Qo : Option Value → vmW → Prop} {Q : vmD → Prop} (hQ : ∀ d, Q d → Qo none (wR L d e)) : ∀ (n : Nat) (x1 : Int32) (x2 : Int32) (x3 : Int32) (d : vmD), MO_name_59 Q n x1 x2 x3 d → vmWp 253 59 [(0, .ref 42), (1, .int x1), (2, .int x2), (3, .int x3)] [] (wR L d e) Qo := by
  intro n
  induction n with
  | zero => intro x1 x2 x3 d h; exact h.elim
  | succ n ih =>
    intro x1 x2 x3 d h
    unfold MO_name_59 at h
    refine st_go 2 (pc' := 61) (lo' := [(0, .ref 42), (1, .int x1), (2, .int x2), (3, .int x3)]) (st' := [.int x1, .int x3]) rfl ?_
    by_cases hc_16 : x3 < x1
    · have h := Eq.mp (if_pos hc_16) h
      refine st_icmp (t := 64) (b := false) rfl (decide_eq_false (Int32.not_le.mpr hc_16)) rfl ?_
      refine st_go 2 (pc' := 67) (lo' := [(0, .ref 42), (1, .int x1), (2, .int x2), (3, .int x3)]) (st' := [.int 8, .int x2]) rfl ?_
      by_cases hc_17 : (8 : Int32) < x2
      · have h := Eq.mp (if_pos hc_17) h
        refine st_icmp (t := 98) (b := true) rfl (decide_eq_true hc_17) rfl ?_
        refine vmWp.sub (lo' := [(0, .ref 42), (1, .int x1)]) ⟨rfl, rfl, trivial⟩ ?_
        exact tMO_name_98 hQ x1 d h
      · have h := Eq.mp (if_neg hc_17) h
        refine st_icmp (t := 70) (b := false) rfl (decide_eq_false hc_17) rfl ?_
        refine st_go 8 (pc' := 81) (lo' := [(0, .ref 42), (1, .int x1), (2, .int x2), (3, .int x3)]) (st' := [.int x3, .ref 42, .ref 42, .long ((gG d 42 7) <<< ((Int32.toInt64 (8 : Int32)) &&& 63)), .ref 42]) rfl ?_
        refine st_calli (k' := 247) (as := [.ref 42, .int x3]) (rest := [.ref 42, .long ((gG d 42 7) <<< ((Int32.toInt64 (8 : Int32)) &&& 63)), .ref 42]) (lo' := [(0, .ref 42), (1, .int x3)]) (wf := fun d => wR L d e) rfl rfl rfl ?_
        refine tMO_byteAt (fun r_26 d_25 h => ⟨r_26, d_25, rfl, rfl, ?_⟩) x3 d h
        refine st_calli (k' := 248) (as := [.ref 42, .int r_26]) (rest := [.long ((gG d 42 7) <<< ((Int32.toInt64 (8 : Int32)) &&& 63)), .ref 42]) (lo' := [(0, .ref 42), (1, .int r_26)]) (wf := fun d => wR L d e) rfl rfl rfl ?_
        refine tMO_capital (fun r_28 d_27 h => ⟨r_28, d_27, rfl, rfl, ?_⟩) r_26 d_25 h
        refine st_go 2 (pc' := 89) (lo' := [(0, .ref 42), (1, .int x1), (2, .int x2), (3, .int x3)]) (st' := [.long (((gG d 42 7) <<< ((Int32.toInt64 (8 : Int32)) &&& 63)) ||| (Int32.toInt64 r_28)), .ref 42]) rfl ?_
        refine st_putJR (o := 42) (f := 7) rfl rfl rfl rfl rfl (fun d_29 hy_d_29 => ?_)
        have h := h d_29 hy_d_29
        refine st_go 1 (pc' := 95) (lo' := [(3, .int (x3 + 1)), (0, .ref 42), (1, .int x1), (2, .int x2)]) (st' := []) rfl ?_
        refine st_locI (fun x3_30 hy_x3_30 => ?_)
        have h := h x3_30 hy_x3_30
        refine st_go 1 (pc' := 59) (lo' := [(3, .int x3_30), (0, .ref 42), (1, .int x1), (2, .int x2)]) (st' := []) rfl ?_
        refine vmWp.sub (lo' := [(0, .ref 42), (1, .int x1), (2, .int x2), (3, .int x3_30)]) ⟨rfl, rfl, rfl, rfl, trivial⟩ ?_
        exact ih x1 x2 x3_30 d_29 h
    · have h := Eq.mp (if_neg hc_16) h
      refine st_icmp (t := 98) (b := true) rfl (decide_eq_true (Int32.not_lt.mp hc_16)) rfl ?_
      refine vmWp.sub (lo' := [(0, .ref 42), (1, .int x1)]) ⟨rfl, rfl, trivial⟩ ?_
      exact tMO_name_98 hQ x1 d h
set_option maxRecDepth 100000 in
def MO_name_29 (b5 : Int32 → vmD → Prop) (x1 : Int32) (d : vmD) (Q : vmD → Prop) : Prop :=
  bnd (x1 + 1) fun x1_31 =>
  b5 x1_31 d
set_option maxRecDepth 100000 in
set_option maxHeartbeats 4000000 in
theorem tMO_name_29 {L : Nat} {e : vmD} {Qo : Option Value → vmW → Prop} {b5 : Int32 → vmD → Prop} {Q : vmD → Prop} (hb5 : ∀ x1 d, b5 x1 d → vmWp 253 5 [(0, .ref 42), (1, .int x1)] [] (wR L d e) Qo) (hQ : ∀ d, Q d → Qo none (wR L d e)) (x1 : Int32) (d : vmD) (h : MO_name_29 b5 x1 d Q) : vmWp 253 29 [(0, .ref 42), (1, .int x1)] [] (wR L d e) Qo := by
  unfold MO_name_29 at h
  refine st_go 1 (pc' := 32) (lo' := [(1, .int (x1 + 1)), (0, .ref 42)]) (st' := []) rfl ?_
  refine st_locI (fun x1_31 hy_x1_31 => ?_)
  have h := h x1_31 hy_x1_31
  refine st_go 1 (pc' := 5) (lo' := [(1, .int x1_31), (0, .ref 42)]) (st' := []) rfl ?_
  refine vmWp.sub (lo' := [(0, .ref 42), (1, .int x1_31)]) ⟨rfl, rfl, trivial⟩ ?_
  exact hb5 x1_31 d h
set_option maxRecDepth 100000 in
def MO_name_5 (Q : vmD → Prop) : Nat → Int32 → vmD → Prop
  | 0, _, _ => False
  | n + 1, x1, d => MO_byteAt x1 d fun r_3 d_2 =>
  MO_isStart r_3 d_2 fun r_5 d_4 =>
  if r_5 = 0 then
  (MO_byteAt x1 d_4 fun r_8 d_7 =>
  MO_isDigit r_8 d_7 fun r_10 d_9 =>
  if r_10 = 0 then
  (bnd (x1 - (gF d_9 42 2)) fun x2_12 =>
  if (12 : Int32) < x2_12 then
  (Q d_9)
  else
  (bnd (sF d_9 42 3 2) fun d_14 =>
  bnd (gF d_14 42 2) fun x3_15 =>
  ∃ m59, MO_name_59 Q m59 x1 x2_12 x3_15 d_14))
  else
  (MO_name_29 (MO_name_5 Q n) x1 d_9 Q))
  else
  (MO_name_29 (MO_name_5 Q n) x1 d_4 Q)
set_option maxRecDepth 100000 in
set_option maxHeartbeats 4000000 in
theorem tMO_name_5 {L : Nat} {e : vmD} {Qo : Option Value → vmW → Prop} {Q : vmD → Prop} (hQ : ∀ d, Q d → Qo none (wR L d e)) : ∀ (n : Nat) (x1 : Int32) (d : vmD), MO_name_5 Q n x1 d → vmWp 253 5 [(0, .ref 42), (1, .int x1)] [] (wR L d e) Qo := by
  intro n
  induction n with
  | zero => intro x1 d h; exact h.elim
  | succ n ih =>
    intro x1 d h
    unfold MO_name_5 at h
    refine st_go 3 (pc' := 8) (lo' := [(0, .ref 42), (1, .int x1)]) (st' := [.int x1, .ref 42, .ref 42]) rfl ?_
    refine st_calli (k' := 247) (as := [.ref 42, .int x1]) (rest := [.ref 42]) (lo' := [(0, .ref 42), (1, .int x1)]) (wf := fun d => wR L d e) rfl rfl rfl ?_
    refine tMO_byteAt (fun r_3 d_2 h => ⟨r_3, d_2, rfl, rfl, ?_⟩) x1 d h
    refine st_calli (k' := 250) (as := [.ref 42, .int r_3]) (rest := []) (lo' := [(0, .ref 42), (1, .int r_3)]) (wf := fun d => wR L d e) rfl rfl rfl ?_
    refine tMO_isStart (fun r_5 d_4 h => ⟨r_5, d_4, rfl, rfl, ?_⟩) r_3 d_2 h
    by_cases hc_6 : r_5 = 0
    · have h := Eq.mp (if_pos hc_6) h
      refine st_if (t := 17) (b := false) rfl (decide_eq_false (fun z => z hc_6)) rfl ?_
      refine st_go 3 (pc' := 20) (lo' := [(0, .ref 42), (1, .int x1)]) (st' := [.int x1, .ref 42, .ref 42]) rfl ?_
      refine st_calli (k' := 247) (as := [.ref 42, .int x1]) (rest := [.ref 42]) (lo' := [(0, .ref 42), (1, .int x1)]) (wf := fun d => wR L d e) rfl rfl rfl ?_
      refine tMO_byteAt (fun r_8 d_7 h => ⟨r_8, d_7, rfl, rfl, ?_⟩) x1 d_4 h
      refine st_calli (k' := 249) (as := [.ref 42, .int r_8]) (rest := []) (lo' := [(0, .ref 42), (1, .int r_8)]) (wf := fun d => wR L d e) rfl rfl rfl ?_
      refine tMO_isDigit (fun r_10 d_9 h => ⟨r_10, d_9, rfl, rfl, ?_⟩) r_8 d_7 h
      by_cases hc_11 : r_10 = 0
      · have h := Eq.mp (if_pos hc_11) h
        refine st_if (t := 35) (b := true) rfl (decide_eq_true hc_11) rfl ?_
        refine st_go 5 (pc' := 42) (lo' := [(2, .int (x1 - (gF d_9 42 2))), (0, .ref 42), (1, .int x1)]) (st' := []) rfl ?_
        refine st_locI (fun x2_12 hy_x2_12 => ?_)
        have h := h x2_12 hy_x2_12
        refine st_go 2 (pc' := 45) (lo' := [(2, .int x2_12), (0, .ref 42), (1, .int x1)]) (st' := [.int 12, .int x2_12]) rfl ?_
        by_cases hc_13 : (12 : Int32) < x2_12
        · have h := Eq.mp (if_pos hc_13) h
          refine st_icmp (t := 48) (b := false) rfl (decide_eq_false (Int32.not_le.mpr hc_13)) rfl ?_
          exact st_retV rfl rfl (hQ _ h)
        · have h := Eq.mp (if_neg hc_13) h
          refine st_icmp (t := 49) (b := true) rfl (decide_eq_true (Int32.not_lt.mp hc_13)) rfl ?_
          refine st_go 2 (pc' := 51) (lo' := [(2, .int x2_12), (0, .ref 42), (1, .int x1)]) (st' := [.int 2, .ref 42]) rfl ?_
          refine st_putIR (o := 42) (f := 3) rfl rfl rfl rfl rfl (fun d_14 hy_d_14 => ?_)
          have h := h d_14 hy_d_14
          refine st_go 3 (pc' := 59) (lo' := [(3, .int (gF d_14 42 2)), (2, .int x2_12), (0, .ref 42), (1, .int x1)]) (st' := []) rfl ?_
          refine st_locI (fun x3_15 hy_x3_15 => ?_)
          have h := h x3_15 hy_x3_15
          obtain ⟨m59, h⟩ := h
          refine vmWp.sub (lo' := [(0, .ref 42), (1, .int x1), (2, .int x2_12), (3, .int x3_15)]) ⟨rfl, rfl, rfl, rfl, trivial⟩ ?_
          exact tMO_name_59 hQ m59 x1 x2_12 x3_15 d_14 h
      · have h := Eq.mp (if_neg hc_11) h
        refine st_if (t := 29) (b := false) rfl (decide_eq_false hc_11) rfl ?_
        refine vmWp.sub (lo' := [(0, .ref 42), (1, .int x1)]) ⟨rfl, rfl, trivial⟩ ?_
        exact tMO_name_29 ih hQ x1 d_9 h
    · have h := Eq.mp (if_neg hc_6) h
      refine st_if (t := 29) (b := true) rfl (decide_eq_true hc_6) rfl ?_
      refine vmWp.sub (lo' := [(0, .ref 42), (1, .int x1)]) ⟨rfl, rfl, trivial⟩ ?_
      exact tMO_name_29 ih hQ x1 d_4 h
set_option maxRecDepth 100000 in
def MO_name (d : vmD) (Q : vmD → Prop) : Prop :=
  bnd (gF d 42 2) fun x1_1 =>
  ∃ m5, MO_name_5 Q m5 x1_1 d
set_option maxRecDepth 100000 in
set_option maxHeartbeats 4000000 in
theorem tMO_name {L : Nat} {e : vmD} {Qo : Option Value → vmW → Prop} {Q : vmD → Prop} (hQ : ∀ d, Q d → Qo none (wR L d e)) (d : vmD) (h : MO_name d Q) : vmWp 253 0 [(0, .ref 42)] [] (wR L d e) Qo := by
  unfold MO_name at h
  refine st_go 3 (pc' := 5) (lo' := [(1, .int (gF d 42 2)), (0, .ref 42)]) (st' := []) rfl ?_
  refine st_locI (fun x1_1 hy_x1_1 => ?_)
  have h := h x1_1 hy_x1_1
  obtain ⟨m5, h⟩ := h
  refine vmWp.sub (lo' := [(0, .ref 42), (1, .int x1_1)]) ⟨rfl, rfl, trivial⟩ ?_
  exact tMO_name_5 hQ m5 x1_1 d h
