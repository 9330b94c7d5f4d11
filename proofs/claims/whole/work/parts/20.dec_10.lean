/-! The decompiled program, 4.10 -/
set_option maxRecDepth 100000 in
def MO_do237_305 (s0 : Int32) (d : vmD) (Q : vmD → Prop) : Prop :=
  bnd (sF d 42 79 s0) fun d_50 =>
  Q d_50
set_option maxRecDepth 100000 in
set_option maxHeartbeats 4000000 in
theorem tMO_do237_305 {L : Nat} {e : vmD} {Qo : Option Value → vmW → Prop} {Q : vmD → Prop} (hQ : ∀ d, Q d → Qo none (wR L d e)) (s0 : Int32) (d : vmD) (h : MO_do237_305 s0 d Q) : vmWp 397 305 [] [.int s0, .ref 42] (wR L d e) Qo := by
  unfold MO_do237_305 at h
  refine st_putIR (o := 42) (f := 79) rfl rfl rfl rfl rfl (fun d_50 hy_d_50 => ?_)
  have h := h d_50 hy_d_50
  refine st_go 1 (pc' := 316) (lo' := []) (st' := []) rfl ?_
  exact st_retV rfl rfl (hQ _ h)
set_option maxRecDepth 100000 in
def MO_do237_26 (x1 : Int32) (x2 : Int32) (x3 : Int32) (s0 : Int32) (d : vmD) (Q : vmD → Prop) : Prop :=
  if ((gF d 42 61) >>> ((6 : Int32) &&& 31)) = 2 then
  (MO_doBlock x2 ((gF d 42 61) &&& 7) x1 d fun d_5 =>
  Q d_5)
  else
  (if ((gF d 42 61) &&& 7) = 0 then
  (bnd (gA d 65 1) fun y_7 =>
  ixOk y_7 256 ∧
  bnd (gA d 68 y_7.toNatClampNeg) fun y_9 =>
  ixOk x2 8 ∧
  bnd (sA d 65 x2.toNatClampNeg y_9) fun d_11 =>
  bnd (gA d_11 65 6) fun y_12 =>
  MO_signs y_9 d_11 fun r_14 d_13 =>
  MO_parity y_9 d_13 fun r_16 d_15 =>
  bnd (sA d_15 65 6 (((y_12 &&& 1) ||| r_14) ||| r_16)) fun d_17 =>
  Q d_17)
  else
  if ((gF d 42 61) &&& 7) = 1 then
  (bnd (gA d 65 1) fun y_19 =>
  ixOk x2 8 ∧
  bnd (gA d 65 x2.toNatClampNeg) fun y_21 =>
  MO_outPort y_19 y_21 d fun d_22 =>
  Q d_22)
  else
  if ((gF d 42 61) &&& 7) = 2 then
  (MO_pairAt x3 d fun r_25 d_24 =>
  MO_wideSum r_25 s0 d_24 fun d_26 =>
  Q d_26)
  else
  if ((gF d 42 61) &&& 7) = 3 then
  (MO_wide (gF d 42 64) d fun r_29 d_28 =>
  if s0 = 0 then
  (MO_pairAt x3 d_28 fun r_32 d_31 =>
  MO_store r_29 r_32 d_31 fun d_33 =>
  MO_store (r_29 + 1) (r_32 >>> ((8 : Int32) &&& 31)) d_33 fun d_34 =>
  Q d_34)
  else
  (MO_wide r_29 d_28 fun r_36 d_35 =>
  MO_setPair x3 r_36 d_35 fun d_37 =>
  Q d_37))
  else
  if ((gF d 42 61) &&& 7) = 4 then
  (bnd (gA d 65 7) fun y_39 =>
  MO_difference 0 y_39 0 d fun r_41 d_40 =>
  bnd (sA d_40 65 7 r_41) fun d_42 =>
  Q d_42)
  else
  if ((gF d 42 61) &&& 7) = 5 then
  (MO_popTwo d fun r_45 d_44 =>
  bnd (sF d_44 42 76 r_45) fun d_46 =>
  bnd (sF d_46 42 77 (gF d_46 42 78)) fun d_47 =>
  Q d_47)
  else
  if ((gF d 42 61) &&& 7) = 6 then
  (if x2 = 0 then
  (MO_do237_305 0 d Q)
  else
  (MO_do237_305 (x2 - 1) d Q))
  else
  (MO_doHalves x2 d fun d_51 =>
  Q d_51))
set_option maxRecDepth 100000 in
set_option maxHeartbeats 4000000 in
theorem tMO_do237_26 {L : Nat} {e : vmD} {Qo : Option Value → vmW → Prop} {Q : vmD → Prop} (hQ : ∀ d, Q d → Qo none (wR L d e)) (x1 : Int32) (x2 : Int32) (x3 : Int32) (s0 : Int32) (d : vmD) (h : MO_do237_26 x1 x2 x3 s0 d Q) : vmWp 397 26 [(0, .ref 42), (1, .int x1), (2, .int x2), (3, .int x3)] [.int s0] (wR L d e) Qo := by
  unfold MO_do237_26 at h
  refine st_go 6 (pc' := 36) (lo' := [(4, .int s0), (0, .ref 42), (1, .int x1), (2, .int x2), (3, .int x3)]) (st' := [.int 2, .int ((gF d 42 61) >>> ((6 : Int32) &&& 31))]) rfl ?_
  by_cases hc_4 : ((gF d 42 61) >>> ((6 : Int32) &&& 31)) = 2
  · have h := Eq.mp (if_pos hc_4) h
    refine st_icmp (t := 39) (b := false) rfl (decide_eq_false (fun z => z hc_4)) rfl ?_
    refine st_go 7 (pc' := 49) (lo' := [(4, .int s0), (0, .ref 42), (1, .int x1), (2, .int x2), (3, .int x3)]) (st' := [.int x1, .int ((gF d 42 61) &&& 7), .int x2, .ref 42]) rfl ?_
    refine st_callv (k' := 400) (as := [.ref 42, .int x2, .int ((gF d 42 61) &&& 7), .int x1]) (rest := []) (lo' := [(0, .ref 42), (1, .int x2), (2, .int ((gF d 42 61) &&& 7)), (3, .int x1)]) (wf := fun d => wR L d e) rfl rfl rfl ?_
    refine tMO_doBlock (fun d_5 h => ⟨d_5, rfl, rfl, ?_⟩) x2 ((gF d 42 61) &&& 7) x1 d h
    exact st_retV rfl rfl (hQ _ h)
  · have h := Eq.mp (if_neg hc_4) h
    refine st_icmp (t := 53) (b := true) rfl (decide_eq_true hc_4) rfl ?_
    refine st_go 4 (pc' := 60) (lo' := [(4, .int s0), (0, .ref 42), (1, .int x1), (2, .int x2), (3, .int x3)]) (st' := [.int ((gF d 42 61) &&& 7)]) rfl ?_
    by_cases hc_6 : ((gF d 42 61) &&& 7) = 0
    · have h := Eq.mp (if_pos hc_6) h
      refine st_tab (t := 104) rfl (by rw [hc_6]; rfl) ?_
      refine st_go 5 (pc' := 113) (lo' := [(4, .int s0), (0, .ref 42), (1, .int x1), (2, .int x2), (3, .int x3)]) (st' := [.int 1, .ref 65, .ref 68]) rfl ?_
      refine st_ialdR (o := 65) rfl rfl (show ixOk 1 8 by decide) rfl (fun y_7 hy_y_7 => ?_)
      have h := h y_7 hy_y_7
      obtain ⟨hj_8, h⟩ := h
      refine st_ialdR (o := 68) rfl rfl hj_8 rfl (fun y_9 hy_y_9 => ?_)
      have h := h y_9 hy_y_9
      refine st_go 5 (pc' := 124) (lo' := [(5, .int y_9), (4, .int s0), (0, .ref 42), (1, .int x1), (2, .int x2), (3, .int x3)]) (st' := [.int y_9, .int x2, .ref 65]) rfl ?_
      obtain ⟨hj_10, h⟩ := h
      refine st_iastR (o := 65) rfl rfl hj_10 rfl (fun d_11 hy_d_11 => ?_)
      have h := h d_11 hy_d_11
      refine st_go 6 (pc' := 137) (lo' := [(5, .int y_9), (4, .int s0), (0, .ref 42), (1, .int x1), (2, .int x2), (3, .int x3)]) (st' := [.int 6, .ref 65, .int 6, .ref 65]) rfl ?_
      refine st_ialdR (o := 65) rfl rfl (show ixOk 6 8 by decide) rfl (fun y_12 hy_y_12 => ?_)
      have h := h y_12 hy_y_12
      refine st_go 4 (pc' := 143) (lo' := [(5, .int y_9), (4, .int s0), (0, .ref 42), (1, .int x1), (2, .int x2), (3, .int x3)]) (st' := [.int y_9, .ref 42, .int (y_12 &&& 1), .int 6, .ref 65]) rfl ?_
      refine st_calli (k' := 369) (as := [.ref 42, .int y_9]) (rest := [.int (y_12 &&& 1), .int 6, .ref 65]) (lo' := [(0, .ref 42), (1, .int y_9)]) (wf := fun d => wR L d e) rfl rfl rfl ?_
      refine tMO_signs (fun r_14 d_13 h => ⟨r_14, d_13, rfl, rfl, ?_⟩) y_9 d_11 h
      refine st_go 3 (pc' := 150) (lo' := [(5, .int y_9), (4, .int s0), (0, .ref 42), (1, .int x1), (2, .int x2), (3, .int x3)]) (st' := [.int y_9, .ref 42, .int ((y_12 &&& 1) ||| r_14), .int 6, .ref 65]) rfl ?_
      refine st_calli (k' := 368) (as := [.ref 42, .int y_9]) (rest := [.int ((y_12 &&& 1) ||| r_14), .int 6, .ref 65]) (lo' := [(0, .ref 42), (1, .int y_9)]) (wf := fun d => wR L d e) rfl rfl rfl ?_
      refine tMO_parity (fun r_16 d_15 h => ⟨r_16, d_15, rfl, rfl, ?_⟩) y_9 d_13 h
      refine st_go 1 (pc' := 154) (lo' := [(5, .int y_9), (4, .int s0), (0, .ref 42), (1, .int x1), (2, .int x2), (3, .int x3)]) (st' := [.int (((y_12 &&& 1) ||| r_14) ||| r_16), .int 6, .ref 65]) rfl ?_
      refine st_iastR (o := 65) rfl rfl (show ixOk 6 8 by decide) rfl (fun d_17 hy_d_17 => ?_)
      have h := h d_17 hy_d_17
      refine st_go 1 (pc' := 316) (lo' := [(5, .int y_9), (4, .int s0), (0, .ref 42), (1, .int x1), (2, .int x2), (3, .int x3)]) (st' := []) rfl ?_
      exact st_retV rfl rfl (hQ _ h)
    · have h := Eq.mp (if_neg hc_6) h
      by_cases hc_18 : ((gF d 42 61) &&& 7) = 1
      · have h := Eq.mp (if_pos hc_18) h
        refine st_tab (t := 158) rfl (by rw [hc_18]; rfl) ?_
        refine st_go 4 (pc' := 164) (lo' := [(4, .int s0), (0, .ref 42), (1, .int x1), (2, .int x2), (3, .int x3)]) (st' := [.int 1, .ref 65, .ref 42]) rfl ?_
        refine st_ialdR (o := 65) rfl rfl (show ixOk 1 8 by decide) rfl (fun y_19 hy_y_19 => ?_)
        have h := h y_19 hy_y_19
        refine st_go 3 (pc' := 170) (lo' := [(4, .int s0), (0, .ref 42), (1, .int x1), (2, .int x2), (3, .int x3)]) (st' := [.int x2, .ref 65, .int y_19, .ref 42]) rfl ?_
        obtain ⟨hj_20, h⟩ := h
        refine st_ialdR (o := 65) rfl rfl hj_20 rfl (fun y_21 hy_y_21 => ?_)
        have h := h y_21 hy_y_21
        refine st_callv (k' := 366) (as := [.ref 42, .int y_19, .int y_21]) (rest := []) (lo' := [(0, .ref 42), (1, .int y_19), (2, .int y_21)]) (wf := fun d => wR L d e) rfl rfl rfl ?_
        refine tMO_outPort (fun d_22 h => ⟨d_22, rfl, rfl, ?_⟩) y_19 y_21 d h
        refine st_go 1 (pc' := 316) (lo' := [(4, .int s0), (0, .ref 42), (1, .int x1), (2, .int x2), (3, .int x3)]) (st' := []) rfl ?_
        exact st_retV rfl rfl (hQ _ h)
      · have h := Eq.mp (if_neg hc_18) h
        by_cases hc_23 : ((gF d 42 61) &&& 7) = 2
        · have h := Eq.mp (if_pos hc_23) h
          refine st_tab (t := 177) rfl (by rw [hc_23]; rfl) ?_
          refine st_go 3 (pc' := 180) (lo' := [(4, .int s0), (0, .ref 42), (1, .int x1), (2, .int x2), (3, .int x3)]) (st' := [.int x3, .ref 42, .ref 42]) rfl ?_
          refine st_calli (k' := 380) (as := [.ref 42, .int x3]) (rest := [.ref 42]) (lo' := [(0, .ref 42), (1, .int x3)]) (wf := fun d => wR L d e) rfl rfl rfl ?_
          refine tMO_pairAt (fun r_25 d_24 h => ⟨r_25, d_24, rfl, rfl, ?_⟩) x3 d h
          refine st_go 1 (pc' := 185) (lo' := [(4, .int s0), (0, .ref 42), (1, .int x1), (2, .int x2), (3, .int x3)]) (st' := [.int s0, .int r_25, .ref 42]) rfl ?_
          refine st_callv (k' := 398) (as := [.ref 42, .int r_25, .int s0]) (rest := []) (lo' := [(0, .ref 42), (1, .int r_25), (2, .int s0)]) (wf := fun d => wR L d e) rfl rfl rfl ?_
          refine tMO_wideSum (fun d_26 h => ⟨d_26, rfl, rfl, ?_⟩) r_25 s0 d_24 h
          refine st_go 1 (pc' := 316) (lo' := [(4, .int s0), (0, .ref 42), (1, .int x1), (2, .int x2), (3, .int x3)]) (st' := []) rfl ?_
          exact st_retV rfl rfl (hQ _ h)
        · have h := Eq.mp (if_neg hc_23) h
          by_cases hc_27 : ((gF d 42 61) &&& 7) = 3
          · have h := Eq.mp (if_pos hc_27) h
            refine st_tab (t := 191) rfl (by rw [hc_27]; rfl) ?_
            refine st_go 3 (pc' := 196) (lo' := [(4, .int s0), (0, .ref 42), (1, .int x1), (2, .int x2), (3, .int x3)]) (st' := [.int (gF d 42 64), .ref 42]) rfl ?_
            refine st_calli (k' := 321) (as := [.ref 42, .int (gF d 42 64)]) (rest := []) (lo' := [(0, .ref 42), (1, .int (gF d 42 64))]) (wf := fun d => wR L d e) rfl rfl rfl ?_
            refine tMO_wide (fun r_29 d_28 h => ⟨r_29, d_28, rfl, rfl, ?_⟩) (gF d 42 64) d h
            refine st_go 2 (pc' := 203) (lo' := [(6, .int r_29), (4, .int s0), (0, .ref 42), (1, .int x1), (2, .int x2), (3, .int x3)]) (st' := [.int s0]) rfl ?_
            by_cases hc_30 : s0 = 0
            · have h := Eq.mp (if_pos hc_30) h
              refine st_if (t := 220) (b := true) rfl (decide_eq_true hc_30) rfl ?_
              refine st_go 2 (pc' := 222) (lo' := [(6, .int r_29), (4, .int s0), (0, .ref 42), (1, .int x1), (2, .int x2), (3, .int x3)]) (st' := [.int x3, .ref 42]) rfl ?_
              refine st_calli (k' := 380) (as := [.ref 42, .int x3]) (rest := []) (lo' := [(0, .ref 42), (1, .int x3)]) (wf := fun d => wR L d e) rfl rfl rfl ?_
              refine tMO_pairAt (fun r_32 d_31 h => ⟨r_32, d_31, rfl, rfl, ?_⟩) x3 d_28 h
              refine st_go 4 (pc' := 232) (lo' := [(7, .int r_32), (6, .int r_29), (4, .int s0), (0, .ref 42), (1, .int x1), (2, .int x2), (3, .int x3)]) (st' := [.int r_32, .int r_29, .ref 42]) rfl ?_
              refine st_callv (k' := 363) (as := [.ref 42, .int r_29, .int r_32]) (rest := []) (lo' := [(0, .ref 42), (1, .int r_29), (2, .int r_32)]) (wf := fun d => wR L d e) rfl rfl rfl ?_
              refine tMO_store (fun d_33 h => ⟨d_33, rfl, rfl, ?_⟩) r_29 r_32 d_31 h
              refine st_go 7 (pc' := 245) (lo' := [(7, .int r_32), (6, .int r_29), (4, .int s0), (0, .ref 42), (1, .int x1), (2, .int x2), (3, .int x3)]) (st' := [.int (r_32 >>> ((8 : Int32) &&& 31)), .int (r_29 + 1), .ref 42]) rfl ?_
              refine st_callv (k' := 363) (as := [.ref 42, .int (r_29 + 1), .int (r_32 >>> ((8 : Int32) &&& 31))]) (rest := []) (lo' := [(0, .ref 42), (1, .int (r_29 + 1)), (2, .int (r_32 >>> ((8 : Int32) &&& 31)))]) (wf := fun d => wR L d e) rfl rfl rfl ?_
              refine tMO_store (fun d_34 h => ⟨d_34, rfl, rfl, ?_⟩) (r_29 + 1) (r_32 >>> ((8 : Int32) &&& 31)) d_33 h
              refine st_go 1 (pc' := 316) (lo' := [(7, .int r_32), (6, .int r_29), (4, .int s0), (0, .ref 42), (1, .int x1), (2, .int x2), (3, .int x3)]) (st' := []) rfl ?_
              exact st_retV rfl rfl (hQ _ h)
            · have h := Eq.mp (if_neg hc_30) h
              refine st_if (t := 206) (b := false) rfl (decide_eq_false hc_30) rfl ?_
              refine st_go 4 (pc' := 211) (lo' := [(6, .int r_29), (4, .int s0), (0, .ref 42), (1, .int x1), (2, .int x2), (3, .int x3)]) (st' := [.int r_29, .ref 42, .int x3, .ref 42]) rfl ?_
              refine st_calli (k' := 321) (as := [.ref 42, .int r_29]) (rest := [.int x3, .ref 42]) (lo' := [(0, .ref 42), (1, .int r_29)]) (wf := fun d => wR L d e) rfl rfl rfl ?_
              refine tMO_wide (fun r_36 d_35 h => ⟨r_36, d_35, rfl, rfl, ?_⟩) r_29 d_28 h
              refine st_callv (k' := 381) (as := [.ref 42, .int x3, .int r_36]) (rest := []) (lo' := [(0, .ref 42), (1, .int x3), (2, .int r_36)]) (wf := fun d => wR L d e) rfl rfl rfl ?_
              refine tMO_setPair (fun d_37 h => ⟨d_37, rfl, rfl, ?_⟩) x3 r_36 d_35 h
              refine st_go 1 (pc' := 316) (lo' := [(6, .int r_29), (4, .int s0), (0, .ref 42), (1, .int x1), (2, .int x2), (3, .int x3)]) (st' := []) rfl ?_
              exact st_retV rfl rfl (hQ _ h)
          · have h := Eq.mp (if_neg hc_27) h
            by_cases hc_38 : ((gF d 42 61) &&& 7) = 4
            · have h := Eq.mp (if_pos hc_38) h
              refine st_tab (t := 251) rfl (by rw [hc_38]; rfl) ?_
              refine st_go 8 (pc' := 265) (lo' := [(4, .int s0), (0, .ref 42), (1, .int x1), (2, .int x2), (3, .int x3)]) (st' := [.int 7, .ref 65, .int 0, .ref 42, .int 7, .ref 65]) rfl ?_
              refine st_ialdR (o := 65) rfl rfl (show ixOk 7 8 by decide) rfl (fun y_39 hy_y_39 => ?_)
              have h := h y_39 hy_y_39
              refine st_go 1 (pc' := 267) (lo' := [(4, .int s0), (0, .ref 42), (1, .int x1), (2, .int x2), (3, .int x3)]) (st' := [.int 0, .int y_39, .int 0, .ref 42, .int 7, .ref 65]) rfl ?_
              refine st_calli (k' := 371) (as := [.ref 42, .int 0, .int y_39, .int 0]) (rest := [.int 7, .ref 65]) (lo' := [(0, .ref 42), (1, .int 0), (2, .int y_39), (3, .int 0)]) (wf := fun d => wR L d e) rfl rfl rfl ?_
              refine tMO_difference (fun r_41 d_40 h => ⟨r_41, d_40, rfl, rfl, ?_⟩) 0 y_39 0 d h
              refine st_iastR (o := 65) rfl rfl (show ixOk 7 8 by decide) rfl (fun d_42 hy_d_42 => ?_)
              have h := h d_42 hy_d_42
              refine st_go 1 (pc' := 316) (lo' := [(4, .int s0), (0, .ref 42), (1, .int x1), (2, .int x2), (3, .int x3)]) (st' := []) rfl ?_
              exact st_retV rfl rfl (hQ _ h)
            · have h := Eq.mp (if_neg hc_38) h
              by_cases hc_43 : ((gF d 42 61) &&& 7) = 5
              · have h := Eq.mp (if_pos hc_43) h
                refine st_tab (t := 274) rfl (by rw [hc_43]; rfl) ?_
                refine st_go 2 (pc' := 276) (lo' := [(4, .int s0), (0, .ref 42), (1, .int x1), (2, .int x2), (3, .int x3)]) (st' := [.ref 42, .ref 42]) rfl ?_
                refine st_calli (k' := 365) (as := [.ref 42]) (rest := [.ref 42]) (lo' := [(0, .ref 42)]) (wf := fun d => wR L d e) rfl rfl rfl ?_
                refine tMO_popTwo (fun r_45 d_44 h => ⟨r_45, d_44, rfl, rfl, ?_⟩) d h
                refine st_putIR (o := 42) (f := 76) rfl rfl rfl rfl rfl (fun d_46 hy_d_46 => ?_)
                have h := h d_46 hy_d_46
                refine st_go 3 (pc' := 287) (lo' := [(4, .int s0), (0, .ref 42), (1, .int x1), (2, .int x2), (3, .int x3)]) (st' := [.int (gF d_46 42 78), .ref 42]) rfl ?_
                refine st_putIR (o := 42) (f := 77) rfl rfl rfl rfl rfl (fun d_47 hy_d_47 => ?_)
                have h := h d_47 hy_d_47
                refine st_go 1 (pc' := 316) (lo' := [(4, .int s0), (0, .ref 42), (1, .int x1), (2, .int x2), (3, .int x3)]) (st' := []) rfl ?_
                exact st_retV rfl rfl (hQ _ h)
              · have h := Eq.mp (if_neg hc_43) h
                by_cases hc_48 : ((gF d 42 61) &&& 7) = 6
                · have h := Eq.mp (if_pos hc_48) h
                  refine st_tab (t := 293) rfl (by rw [hc_48]; rfl) ?_
                  refine st_go 2 (pc' := 295) (lo' := [(4, .int s0), (0, .ref 42), (1, .int x1), (2, .int x2), (3, .int x3)]) (st' := [.int x2, .ref 42]) rfl ?_
                  by_cases hc_49 : x2 = 0
                  · have h := Eq.mp (if_pos hc_49) h
                    refine st_if (t := 298) (b := false) rfl (decide_eq_false (fun z => z hc_49)) rfl ?_
                    refine st_go 2 (pc' := 305) (lo' := [(4, .int s0), (0, .ref 42), (1, .int x1), (2, .int x2), (3, .int x3)]) (st' := [.int 0, .ref 42]) rfl ?_
                    refine vmWp.sub (lo' := []) trivial ?_
                    exact tMO_do237_305 hQ 0 d h
                  · have h := Eq.mp (if_neg hc_49) h
                    refine st_if (t := 302) (b := true) rfl (decide_eq_true hc_49) rfl ?_
                    refine st_go 3 (pc' := 305) (lo' := [(4, .int s0), (0, .ref 42), (1, .int x1), (2, .int x2), (3, .int x3)]) (st' := [.int (x2 - 1), .ref 42]) rfl ?_
                    refine vmWp.sub (lo' := []) trivial ?_
                    exact tMO_do237_305 hQ (x2 - 1) d h
                · have h := Eq.mp (if_neg hc_48) h
                  refine st_tab (t := 311) rfl (tab_def rfl (by decide) rfl (by
                    intro j hj hx
                    have hj : j < 7 := hj
                    rcases (j = 0 ∨ j = 1 ∨ j = 2 ∨ j = 3 ∨ j = 4 ∨ j = 5 ∨ j = 6 : Prop) |> fun _ => (show j = 0 ∨ j = 1 ∨ j = 2 ∨ j = 3 ∨ j = 4 ∨ j = 5 ∨ j = 6 by omega) with rfl | rfl | rfl | rfl | rfl | rfl | rfl <;> first | rfl | exact absurd hx hc_6 | exact absurd hx hc_18 | exact absurd hx hc_23 | exact absurd hx hc_27 | exact absurd hx hc_38 | exact absurd hx hc_43 | exact absurd hx hc_48)) ?_
                  refine st_go 2 (pc' := 313) (lo' := [(4, .int s0), (0, .ref 42), (1, .int x1), (2, .int x2), (3, .int x3)]) (st' := [.int x2, .ref 42]) rfl ?_
                  refine st_callv (k' := 399) (as := [.ref 42, .int x2]) (rest := []) (lo' := [(0, .ref 42), (1, .int x2)]) (wf := fun d => wR L d e) rfl rfl rfl ?_
                  refine tMO_doHalves (fun d_51 h => ⟨d_51, rfl, rfl, ?_⟩) x2 d h
                  exact st_retV rfl rfl (hQ _ h)
set_option maxRecDepth 100000 in
def MO_do237 (x1 : Int32) (d : vmD) (Q : vmD → Prop) : Prop :=
  bnd (((gF d 42 61) >>> ((3 : Int32) &&& 31)) &&& 7) fun x2_1 =>
  bnd (x2_1 >>> ((1 : Int32) &&& 31)) fun x3_2 =>
  if (x2_1 &&& 1) = 1 then
  (MO_do237_26 x1 x2_1 x3_2 1 d Q)
  else
  (MO_do237_26 x1 x2_1 x3_2 0 d Q)
set_option maxRecDepth 100000 in
set_option maxHeartbeats 4000000 in
theorem tMO_do237 {L : Nat} {e : vmD} {Qo : Option Value → vmW → Prop} {Q : vmD → Prop} (hQ : ∀ d, Q d → Qo none (wR L d e)) (x1 : Int32) (d : vmD) (h : MO_do237 x1 d Q) : vmWp 397 0 [(0, .ref 42), (1, .int x1)] [] (wR L d e) Qo := by
  unfold MO_do237 at h
  refine st_go 7 (pc' := 10) (lo' := [(2, .int (((gF d 42 61) >>> ((3 : Int32) &&& 31)) &&& 7)), (0, .ref 42), (1, .int x1)]) (st' := []) rfl ?_
  refine st_locI (fun x2_1 hy_x2_1 => ?_)
  have h := h x2_1 hy_x2_1
  refine st_go 4 (pc' := 14) (lo' := [(3, .int (x2_1 >>> ((1 : Int32) &&& 31))), (2, .int x2_1), (0, .ref 42), (1, .int x1)]) (st' := []) rfl ?_
  refine st_locI (fun x3_2 hy_x3_2 => ?_)
  have h := h x3_2 hy_x3_2
  refine st_go 4 (pc' := 18) (lo' := [(3, .int x3_2), (2, .int x2_1), (0, .ref 42), (1, .int x1)]) (st' := [.int 1, .int (x2_1 &&& 1)]) rfl ?_
  by_cases hc_3 : (x2_1 &&& 1) = 1
  · have h := Eq.mp (if_pos hc_3) h
    refine st_icmp (t := 21) (b := false) rfl (decide_eq_false (fun z => z hc_3)) rfl ?_
    refine st_go 2 (pc' := 26) (lo' := [(3, .int x3_2), (2, .int x2_1), (0, .ref 42), (1, .int x1)]) (st' := [.int 1]) rfl ?_
    refine vmWp.sub (lo' := [(0, .ref 42), (1, .int x1), (2, .int x2_1), (3, .int x3_2)]) ⟨rfl, rfl, rfl, rfl, trivial⟩ ?_
    exact tMO_do237_26 hQ x1 x2_1 x3_2 1 d h
  · have h := Eq.mp (if_neg hc_3) h
    refine st_icmp (t := 25) (b := true) rfl (decide_eq_true hc_3) rfl ?_
    refine st_go 1 (pc' := 26) (lo' := [(3, .int x3_2), (2, .int x2_1), (0, .ref 42), (1, .int x1)]) (st' := [.int 0]) rfl ?_
    refine vmWp.sub (lo' := [(0, .ref 42), (1, .int x1), (2, .int x2_1), (3, .int x3_2)]) ⟨rfl, rfl, rfl, rfl, trivial⟩ ?_
    exact tMO_do237_26 hQ x1 x2_1 x3_2 0 d h
set_option maxRecDepth 100000 in
def MO_exchange (x1 : Int32) (d : vmD) (Q : vmD → Prop) : Prop :=
  ixOk x1 8 ∧
  bnd (gA d 65 x1.toNatClampNeg) fun y_2 =>
  ixOk x1 8 ∧
  bnd (gA d 66 x1.toNatClampNeg) fun y_4 =>
  ixOk x1 8 ∧
  bnd (sA d 65 x1.toNatClampNeg y_4) fun d_6 =>
  ixOk x1 8 ∧
  bnd (sA d_6 66 x1.toNatClampNeg y_2) fun d_8 =>
  Q d_8
set_option maxRecDepth 100000 in
set_option maxHeartbeats 4000000 in
theorem tMO_exchange {L : Nat} {e : vmD} {Qo : Option Value → vmW → Prop} {Q : vmD → Prop} (hQ : ∀ d, Q d → Qo none (wR L d e)) (x1 : Int32) (d : vmD) (h : MO_exchange x1 d Q) : vmWp 388 0 [(0, .ref 42), (1, .int x1)] [] (wR L d e) Qo := by
  unfold MO_exchange at h
  refine st_go 3 (pc' := 5) (lo' := [(0, .ref 42), (1, .int x1)]) (st' := [.int x1, .ref 65]) rfl ?_
  obtain ⟨hj_1, h⟩ := h
  refine st_ialdR (o := 65) rfl rfl hj_1 rfl (fun y_2 hy_y_2 => ?_)
  have h := h y_2 hy_y_2
  refine st_go 7 (pc' := 17) (lo' := [(2, .int y_2), (0, .ref 42), (1, .int x1)]) (st' := [.int x1, .ref 66, .int x1, .ref 65]) rfl ?_
  obtain ⟨hj_3, h⟩ := h
  refine st_ialdR (o := 66) rfl rfl hj_3 rfl (fun y_4 hy_y_4 => ?_)
  have h := h y_4 hy_y_4
  obtain ⟨hj_5, h⟩ := h
  refine st_iastR (o := 65) rfl rfl hj_5 rfl (fun d_6 hy_d_6 => ?_)
  have h := h d_6 hy_d_6
  refine st_go 4 (pc' := 25) (lo' := [(2, .int y_2), (0, .ref 42), (1, .int x1)]) (st' := [.int y_2, .int x1, .ref 66]) rfl ?_
  obtain ⟨hj_7, h⟩ := h
  refine st_iastR (o := 66) rfl rfl hj_7 rfl (fun d_8 hy_d_8 => ?_)
  have h := h d_8 hy_d_8
  exact st_retV rfl rfl (hQ _ h)
set_option maxRecDepth 100000 in
def MO_holds_62 (s0 : Int32) (s1 : Int32) (d : vmD) (Q : Int32 → vmD → Prop) : Prop :=
  if s1 = s0 then
  (Q 1 d)
  else
  (Q 0 d)
set_option maxRecDepth 100000 in
set_option maxHeartbeats 4000000 in
theorem tMO_holds_62 {L : Nat} {e : vmD} {Qo : Option Value → vmW → Prop} {Q : Int32 → vmD → Prop} (hQ : ∀ r d, Q r d → Qo (some (.int r)) (wR L d e)) (s0 : Int32) (s1 : Int32) (d : vmD) (h : MO_holds_62 s0 s1 d Q) : vmWp 382 62 [] [.int s0, .int s1] (wR L d e) Qo := by
  unfold MO_holds_62 at h
  by_cases hc_5 : s1 = s0
  · have h := Eq.mp (if_pos hc_5) h
    refine st_icmp (t := 65) (b := false) rfl (decide_eq_false (fun z => z hc_5)) rfl ?_
    refine st_go 2 (pc' := 70) (lo' := []) (st' := [.int 1]) rfl ?_
    exact st_retZ rfl rfl (Or.inr rfl) (hQ _ _ h)
  · have h := Eq.mp (if_neg hc_5) h
    refine st_icmp (t := 69) (b := true) rfl (decide_eq_true hc_5) rfl ?_
    refine st_go 1 (pc' := 70) (lo' := []) (st' := [.int 0]) rfl ?_
    exact st_retZ rfl rfl (Or.inl rfl) (hQ _ _ h)
set_option maxRecDepth 100000 in
def MO_holds_50 (x1 : Int32) (s0 : Int32) (d : vmD) (Q : Int32 → vmD → Prop) : Prop :=
  if (x1 &&& 1) = 1 then
  (MO_holds_62 1 s0 d Q)
  else
  (MO_holds_62 0 s0 d Q)
set_option maxRecDepth 100000 in
set_option maxHeartbeats 4000000 in
theorem tMO_holds_50 {L : Nat} {e : vmD} {Qo : Option Value → vmW → Prop} {Q : Int32 → vmD → Prop} (hQ : ∀ r d, Q r d → Qo (some (.int r)) (wR L d e)) (x1 : Int32) (s0 : Int32) (d : vmD) (h : MO_holds_50 x1 s0 d Q) : vmWp 382 50 [(1, .int x1)] [.int s0] (wR L d e) Qo := by
  unfold MO_holds_50 at h
  refine st_go 4 (pc' := 54) (lo' := [(1, .int x1)]) (st' := [.int 1, .int (x1 &&& 1), .int s0]) rfl ?_
  by_cases hc_4 : (x1 &&& 1) = 1
  · have h := Eq.mp (if_pos hc_4) h
    refine st_icmp (t := 57) (b := false) rfl (decide_eq_false (fun z => z hc_4)) rfl ?_
    refine st_go 2 (pc' := 62) (lo' := [(1, .int x1)]) (st' := [.int 1, .int s0]) rfl ?_
    refine vmWp.sub (lo' := []) trivial ?_
    exact tMO_holds_62 hQ 1 s0 d h
  · have h := Eq.mp (if_neg hc_4) h
    refine st_icmp (t := 61) (b := true) rfl (decide_eq_true hc_4) rfl ?_
    refine st_go 1 (pc' := 62) (lo' := [(1, .int x1)]) (st' := [.int 0, .int s0]) rfl ?_
    refine vmWp.sub (lo' := []) trivial ?_
    exact tMO_holds_62 hQ 0 s0 d h
set_option maxRecDepth 100000 in
def MO_holds_32 (x1 : Int32) (s0 : Int32) (d : vmD) (Q : Int32 → vmD → Prop) : Prop :=
  bnd (gA d 65 6) fun y_2 =>
  if (y_2 &&& s0) = 0 then
  (MO_holds_50 x1 0 d Q)
  else
  (MO_holds_50 x1 1 d Q)
set_option maxRecDepth 100000 in
set_option maxHeartbeats 4000000 in
theorem tMO_holds_32 {L : Nat} {e : vmD} {Qo : Option Value → vmW → Prop} {Q : Int32 → vmD → Prop} (hQ : ∀ r d, Q r d → Qo (some (.int r)) (wR L d e)) (x1 : Int32) (s0 : Int32) (d : vmD) (h : MO_holds_32 x1 s0 d Q) : vmWp 382 32 [(0, .ref 42), (1, .int x1)] [.int s0] (wR L d e) Qo := by
  unfold MO_holds_32 at h
  refine st_go 4 (pc' := 39) (lo' := [(2, .int s0), (0, .ref 42), (1, .int x1)]) (st' := [.int 6, .ref 65]) rfl ?_
  refine st_ialdR (o := 65) rfl rfl (show ixOk 6 8 by decide) rfl (fun y_2 hy_y_2 => ?_)
  have h := h y_2 hy_y_2
  refine st_go 2 (pc' := 42) (lo' := [(2, .int s0), (0, .ref 42), (1, .int x1)]) (st' := [.int (y_2 &&& s0)]) rfl ?_
  by_cases hc_3 : (y_2 &&& s0) = 0
  · have h := Eq.mp (if_pos hc_3) h
    refine st_if (t := 49) (b := true) rfl (decide_eq_true hc_3) rfl ?_
    refine st_go 1 (pc' := 50) (lo' := [(2, .int s0), (0, .ref 42), (1, .int x1)]) (st' := [.int 0]) rfl ?_
    refine vmWp.sub (lo' := [(1, .int x1)]) ⟨rfl, trivial⟩ ?_
    exact tMO_holds_50 hQ x1 0 d h
  · have h := Eq.mp (if_neg hc_3) h
    refine st_if (t := 45) (b := false) rfl (decide_eq_false hc_3) rfl ?_
    refine st_go 2 (pc' := 50) (lo' := [(2, .int s0), (0, .ref 42), (1, .int x1)]) (st' := [.int 1]) rfl ?_
    refine vmWp.sub (lo' := [(1, .int x1)]) ⟨rfl, trivial⟩ ?_
    exact tMO_holds_50 hQ x1 1 d h
set_option maxRecDepth 100000 in
def MO_holds (x1 : Int32) (d : vmD) (Q : Int32 → vmD → Prop) : Prop :=
  if x1 < 2 then
  (MO_holds_32 x1 64 d Q)
  else
  (if x1 < 4 then
  (MO_holds_32 x1 1 d Q)
  else
  (if x1 < 6 then
  (MO_holds_32 x1 4 d Q)
  else
  (MO_holds_32 x1 128 d Q)))
set_option maxRecDepth 100000 in
set_option maxHeartbeats 4000000 in
theorem tMO_holds {L : Nat} {e : vmD} {Qo : Option Value → vmW → Prop} {Q : Int32 → vmD → Prop} (hQ : ∀ r d, Q r d → Qo (some (.int r)) (wR L d e)) (x1 : Int32) (d : vmD) (h : MO_holds x1 d Q) : vmWp 382 0 [(0, .ref 42), (1, .int x1)] [] (wR L d e) Qo := by
  unfold MO_holds at h
  refine st_go 2 (pc' := 2) (lo' := [(0, .ref 42), (1, .int x1)]) (st' := [.int 2, .int x1]) rfl ?_
  by_cases hc_1 : x1 < 2
  · have h := Eq.mp (if_pos hc_1) h
    refine st_icmp (t := 5) (b := false) rfl (decide_eq_false (Int32.not_le.mpr hc_1)) rfl ?_
    refine st_go 2 (pc' := 32) (lo' := [(0, .ref 42), (1, .int x1)]) (st' := [.int 64]) rfl ?_
    refine vmWp.sub (lo' := [(0, .ref 42), (1, .int x1)]) ⟨rfl, rfl, trivial⟩ ?_
    exact tMO_holds_32 hQ x1 64 d h
  · have h := Eq.mp (if_neg hc_1) h
    refine st_icmp (t := 10) (b := true) rfl (decide_eq_true (Int32.not_lt.mp hc_1)) rfl ?_
    refine st_go 2 (pc' := 12) (lo' := [(0, .ref 42), (1, .int x1)]) (st' := [.int 4, .int x1]) rfl ?_
    by_cases hc_6 : x1 < 4
    · have h := Eq.mp (if_pos hc_6) h
      refine st_icmp (t := 15) (b := false) rfl (decide_eq_false (Int32.not_le.mpr hc_6)) rfl ?_
      refine st_go 2 (pc' := 32) (lo' := [(0, .ref 42), (1, .int x1)]) (st' := [.int 1]) rfl ?_
      refine vmWp.sub (lo' := [(0, .ref 42), (1, .int x1)]) ⟨rfl, rfl, trivial⟩ ?_
      exact tMO_holds_32 hQ x1 1 d h
    · have h := Eq.mp (if_neg hc_6) h
      refine st_icmp (t := 19) (b := true) rfl (decide_eq_true (Int32.not_lt.mp hc_6)) rfl ?_
      refine st_go 2 (pc' := 22) (lo' := [(0, .ref 42), (1, .int x1)]) (st' := [.int 6, .int x1]) rfl ?_
      by_cases hc_7 : x1 < 6
      · have h := Eq.mp (if_pos hc_7) h
        refine st_icmp (t := 25) (b := false) rfl (decide_eq_false (Int32.not_le.mpr hc_7)) rfl ?_
        refine st_go 2 (pc' := 32) (lo' := [(0, .ref 42), (1, .int x1)]) (st' := [.int 4]) rfl ?_
        refine vmWp.sub (lo' := [(0, .ref 42), (1, .int x1)]) ⟨rfl, rfl, trivial⟩ ?_
        exact tMO_holds_32 hQ x1 4 d h
      · have h := Eq.mp (if_neg hc_7) h
        refine st_icmp (t := 29) (b := true) rfl (decide_eq_true (Int32.not_lt.mp hc_7)) rfl ?_
        refine st_go 1 (pc' := 32) (lo' := [(0, .ref 42), (1, .int x1)]) (st' := [.int 128]) rfl ?_
        refine vmWp.sub (lo' := [(0, .ref 42), (1, .int x1)]) ⟨rfl, rfl, trivial⟩ ?_
        exact tMO_holds_32 hQ x1 128 d h
set_option maxRecDepth 100000 in
def MO_doNear_79 (x2 : Int32) (d : vmD) (Q : vmD → Prop) : Prop :=
  if x2 = 0 then
  (Q d)
  else
  (MO_peek (gF d 42 64) d fun r_12 d_11 =>
  MO_signed r_12 d_11 fun r_14 d_13 =>
  bnd (sF d_13 42 76 (((gF d 42 76) + r_14) &&& 65535)) fun d_15 =>
  Q d_15)
set_option maxRecDepth 100000 in
set_option maxHeartbeats 4000000 in
theorem tMO_doNear_79 {L : Nat} {e : vmD} {Qo : Option Value → vmW → Prop} {Q : vmD → Prop} (hQ : ∀ d, Q d → Qo none (wR L d e)) (x2 : Int32) (d : vmD) (h : MO_doNear_79 x2 d Q) : vmWp 389 79 [(0, .ref 42), (2, .int x2)] [] (wR L d e) Qo := by
  unfold MO_doNear_79 at h
  refine st_go 1 (pc' := 80) (lo' := [(0, .ref 42), (2, .int x2)]) (st' := [.int x2]) rfl ?_
  by_cases hc_10 : x2 = 0
  · have h := Eq.mp (if_pos hc_10) h
    refine st_if (t := 107) (b := true) rfl (decide_eq_true hc_10) rfl ?_
    exact st_retV rfl rfl (hQ _ h)
  · have h := Eq.mp (if_neg hc_10) h
    refine st_if (t := 83) (b := false) rfl (decide_eq_false hc_10) rfl ?_
    refine st_go 7 (pc' := 94) (lo' := [(0, .ref 42), (2, .int x2)]) (st' := [.int (gF d 42 64), .ref 42, .ref 42, .int (gF d 42 76), .ref 42]) rfl ?_
    refine st_calli (k' := 320) (as := [.ref 42, .int (gF d 42 64)]) (rest := [.ref 42, .int (gF d 42 76), .ref 42]) (lo' := [(0, .ref 42), (1, .int (gF d 42 64))]) (wf := fun d => wR L d e) rfl rfl rfl ?_
    refine tMO_peek (fun r_12 d_11 h => ⟨r_12, d_11, rfl, rfl, ?_⟩) (gF d 42 64) d h
    refine st_calli (k' := 322) (as := [.ref 42, .int r_12]) (rest := [.int (gF d 42 76), .ref 42]) (lo' := [(0, .ref 42), (1, .int r_12)]) (wf := fun d => wR L d e) rfl rfl rfl ?_
    refine tMO_signed (fun r_14 d_13 h => ⟨r_14, d_13, rfl, rfl, ?_⟩) r_12 d_11 h
    refine st_go 3 (pc' := 104) (lo' := [(0, .ref 42), (2, .int x2)]) (st' := [.int (((gF d 42 76) + r_14) &&& 65535), .ref 42]) rfl ?_
    refine st_putIR (o := 42) (f := 76) rfl rfl rfl rfl rfl (fun d_15 hy_d_15 => ?_)
    have h := h d_15 hy_d_15
    exact st_retV rfl rfl (hQ _ h)
set_option maxRecDepth 100000 in
def MO_doNear_62 (s0 : Int32) (d : vmD) (Q : vmD → Prop) : Prop :=
  MO_doNear_79 s0 d Q
set_option maxRecDepth 100000 in
set_option maxHeartbeats 4000000 in
theorem tMO_doNear_62 {L : Nat} {e : vmD} {Qo : Option Value → vmW → Prop} {Q : vmD → Prop} (hQ : ∀ d, Q d → Qo none (wR L d e)) (s0 : Int32) (d : vmD) (h : MO_doNear_62 s0 d Q) : vmWp 389 62 [(0, .ref 42)] [.int s0] (wR L d e) Qo := by
  unfold MO_doNear_62 at h
  refine st_go 2 (pc' := 79) (lo' := [(2, .int s0), (0, .ref 42)]) (st' := []) rfl ?_
  refine vmWp.sub (lo' := [(0, .ref 42), (2, .int s0)]) ⟨rfl, rfl, trivial⟩ ?_
  exact tMO_doNear_79 hQ s0 d h
set_option maxRecDepth 100000 in
def MO_doNear (x1 : Int32) (d : vmD) (Q : vmD → Prop) : Prop :=
  if x1 = 0 then
  (Q d)
  else
  (if x1 = 1 then
  (MO_exchange 7 d fun d_3 =>
  MO_exchange 6 d_3 fun d_4 =>
  Q d_4)
  else
  (if x1 = 2 then
  (bnd (gA d 65 0) fun y_6 =>
  bnd (sA d 65 0 ((y_6 - 1) &&& 255)) fun d_7 =>
  bnd (gA d_7 65 0) fun y_8 =>
  if y_8 = 0 then
  (MO_doNear_62 0 d_7 Q)
  else
  (MO_doNear_62 1 d_7 Q))
  else
  (if (3 : Int32) < x1 then
  (MO_holds (x1 - 4) d fun r_18 d_17 =>
  MO_doNear_79 r_18 d_17 Q)
  else
  (MO_doNear_79 1 d Q))))
set_option maxRecDepth 100000 in
set_option maxHeartbeats 4000000 in
theorem tMO_doNear {L : Nat} {e : vmD} {Qo : Option Value → vmW → Prop} {Q : vmD → Prop} (hQ : ∀ d, Q d → Qo none (wR L d e)) (x1 : Int32) (d : vmD) (h : MO_doNear x1 d Q) : vmWp 389 0 [(0, .ref 42), (1, .int x1)] [] (wR L d e) Qo := by
  unfold MO_doNear at h
  refine st_go 1 (pc' := 1) (lo' := [(0, .ref 42), (1, .int x1)]) (st' := [.int x1]) rfl ?_
  by_cases hc_1 : x1 = 0
  · have h := Eq.mp (if_pos hc_1) h
    refine st_if (t := 4) (b := false) rfl (decide_eq_false (fun z => z hc_1)) rfl ?_
    exact st_retV rfl rfl (hQ _ h)
  · have h := Eq.mp (if_neg hc_1) h
    refine st_if (t := 5) (b := true) rfl (decide_eq_true hc_1) rfl ?_
    refine st_go 2 (pc' := 7) (lo' := [(0, .ref 42), (1, .int x1)]) (st' := [.int 1, .int x1]) rfl ?_
    by_cases hc_2 : x1 = 1
    · have h := Eq.mp (if_pos hc_2) h
      refine st_icmp (t := 10) (b := false) rfl (decide_eq_false (fun z => z hc_2)) rfl ?_
      refine st_go 2 (pc' := 13) (lo' := [(0, .ref 42), (1, .int x1)]) (st' := [.int 7, .ref 42]) rfl ?_
      refine st_callv (k' := 388) (as := [.ref 42, .int 7]) (rest := []) (lo' := [(0, .ref 42), (1, .int 7)]) (wf := fun d => wR L d e) rfl rfl rfl ?_
      refine tMO_exchange (fun d_3 h => ⟨d_3, rfl, rfl, ?_⟩) 7 d h
      refine st_go 2 (pc' := 19) (lo' := [(0, .ref 42), (1, .int x1)]) (st' := [.int 6, .ref 42]) rfl ?_
      refine st_callv (k' := 388) (as := [.ref 42, .int 6]) (rest := []) (lo' := [(0, .ref 42), (1, .int 6)]) (wf := fun d => wR L d e) rfl rfl rfl ?_
      refine tMO_exchange (fun d_4 h => ⟨d_4, rfl, rfl, ?_⟩) 6 d_3 h
      exact st_retV rfl rfl (hQ _ h)
    · have h := Eq.mp (if_neg hc_2) h
      refine st_icmp (t := 23) (b := true) rfl (decide_eq_true hc_2) rfl ?_
      refine st_go 4 (pc' := 27) (lo' := [(2, .int 1), (0, .ref 42), (1, .int x1)]) (st' := [.int 2, .int x1]) rfl ?_
      by_cases hc_5 : x1 = 2
      · have h := Eq.mp (if_pos hc_5) h
        refine st_icmp (t := 30) (b := false) rfl (decide_eq_false (fun z => z hc_5)) rfl ?_
        refine st_go 6 (pc' := 40) (lo' := [(2, .int 1), (0, .ref 42), (1, .int x1)]) (st' := [.int 0, .ref 65, .int 0, .ref 65]) rfl ?_
        refine st_ialdR (o := 65) rfl rfl (show ixOk 0 8 by decide) rfl (fun y_6 hy_y_6 => ?_)
        have h := h y_6 hy_y_6
        refine st_go 4 (pc' := 47) (lo' := [(2, .int 1), (0, .ref 42), (1, .int x1)]) (st' := [.int ((y_6 - 1) &&& 255), .int 0, .ref 65]) rfl ?_
        refine st_iastR (o := 65) rfl rfl (show ixOk 0 8 by decide) rfl (fun d_7 hy_d_7 => ?_)
        have h := h d_7 hy_d_7
        refine st_go 3 (pc' := 53) (lo' := [(2, .int 1), (0, .ref 42), (1, .int x1)]) (st' := [.int 0, .ref 65]) rfl ?_
        refine st_ialdR (o := 65) rfl rfl (show ixOk 0 8 by decide) rfl (fun y_8 hy_y_8 => ?_)
        have h := h y_8 hy_y_8
        by_cases hc_9 : y_8 = 0
        · have h := Eq.mp (if_pos hc_9) h
          refine st_if (t := 61) (b := true) rfl (decide_eq_true hc_9) rfl ?_
          refine st_go 1 (pc' := 62) (lo' := [(2, .int 1), (0, .ref 42), (1, .int x1)]) (st' := [.int 0]) rfl ?_
          refine vmWp.sub (lo' := [(0, .ref 42)]) ⟨rfl, trivial⟩ ?_
          exact tMO_doNear_62 hQ 0 d_7 h
        · have h := Eq.mp (if_neg hc_9) h
          refine st_if (t := 57) (b := false) rfl (decide_eq_false hc_9) rfl ?_
          refine st_go 2 (pc' := 62) (lo' := [(2, .int 1), (0, .ref 42), (1, .int x1)]) (st' := [.int 1]) rfl ?_
          refine vmWp.sub (lo' := [(0, .ref 42)]) ⟨rfl, trivial⟩ ?_
          exact tMO_doNear_62 hQ 1 d_7 h
      · have h := Eq.mp (if_neg hc_5) h
        refine st_icmp (t := 66) (b := true) rfl (decide_eq_true hc_5) rfl ?_
        refine st_go 2 (pc' := 68) (lo' := [(2, .int 1), (0, .ref 42), (1, .int x1)]) (st' := [.int 3, .int x1]) rfl ?_
        by_cases hc_16 : (3 : Int32) < x1
        · have h := Eq.mp (if_pos hc_16) h
          refine st_icmp (t := 71) (b := false) rfl (decide_eq_false (Int32.not_le.mpr hc_16)) rfl ?_
          refine st_go 4 (pc' := 75) (lo' := [(2, .int 1), (0, .ref 42), (1, .int x1)]) (st' := [.int (x1 - 4), .ref 42]) rfl ?_
          refine st_calli (k' := 382) (as := [.ref 42, .int (x1 - 4)]) (rest := []) (lo' := [(0, .ref 42), (1, .int (x1 - 4))]) (wf := fun d => wR L d e) rfl rfl rfl ?_
          refine tMO_holds (fun r_18 d_17 h => ⟨r_18, d_17, rfl, rfl, ?_⟩) (x1 - 4) d h
          refine st_go 1 (pc' := 79) (lo' := [(2, .int r_18), (0, .ref 42), (1, .int x1)]) (st' := []) rfl ?_
          refine vmWp.sub (lo' := [(0, .ref 42), (2, .int r_18)]) ⟨rfl, rfl, trivial⟩ ?_
          exact tMO_doNear_79 hQ r_18 d_17 h
        · have h := Eq.mp (if_neg hc_16) h
          refine st_icmp (t := 79) (b := true) rfl (decide_eq_true (Int32.not_lt.mp hc_16)) rfl ?_
          refine vmWp.sub (lo' := [(0, .ref 42), (2, .int 1)]) ⟨rfl, rfl, trivial⟩ ?_
          exact tMO_doNear_79 hQ 1 d h
set_option maxRecDepth 100000 in
def MO_addPair (x1 : Int32) (d : vmD) (Q : vmD → Prop) : Prop :=
  MO_base d fun r_2 d_1 =>
  bnd (r_2 + x1) fun x3_3 =>
  bnd (gA d_1 65 6) fun y_4 =>
  bnd (sA d_1 65 6 ((((y_4 &&& 196) ||| ((((r_2 ^^^ x1) ^^^ x3_3) >>> ((8 : Int32) &&& 31)) &&& 16)) ||| (x3_3 >>> ((16 : Int32) &&& 31))) ||| ((x3_3 >>> ((8 : Int32) &&& 31)) &&& 40))) fun d_5 =>
  MO_setBase (x3_3 &&& 65535) d_5 fun d_6 =>
  Q d_6
set_option maxRecDepth 100000 in
set_option maxHeartbeats 4000000 in
theorem tMO_addPair {L : Nat} {e : vmD} {Qo : Option Value → vmW → Prop} {Q : vmD → Prop} (hQ : ∀ d, Q d → Qo none (wR L d e)) (x1 : Int32) (d : vmD) (h : MO_addPair x1 d Q) : vmWp 390 0 [(0, .ref 42), (1, .int x1)] [] (wR L d e) Qo := by
  unfold MO_addPair at h
  refine st_go 1 (pc' := 1) (lo' := [(0, .ref 42), (1, .int x1)]) (st' := [.ref 42]) rfl ?_
  refine st_calli (k' := 375) (as := [.ref 42]) (rest := []) (lo' := [(0, .ref 42)]) (wf := fun d => wR L d e) rfl rfl rfl ?_
  refine tMO_base (fun r_2 d_1 h => ⟨r_2, d_1, rfl, rfl, ?_⟩) d h
  refine st_go 5 (pc' := 9) (lo' := [(3, .int (r_2 + x1)), (2, .int r_2), (0, .ref 42), (1, .int x1)]) (st' := []) rfl ?_
  refine st_locI (fun x3_3 hy_x3_3 => ?_)
  have h := h x3_3 hy_x3_3
  refine st_go 6 (pc' := 21) (lo' := [(3, .int x3_3), (2, .int r_2), (0, .ref 42), (1, .int x1)]) (st' := [.int 6, .ref 65, .int 6, .ref 65]) rfl ?_
  refine st_ialdR (o := 65) rfl rfl (show ixOk 6 8 by decide) rfl (fun y_4 hy_y_4 => ?_)
  have h := h y_4 hy_y_4
  refine st_go 22 (pc' := 51) (lo' := [(3, .int x3_3), (2, .int r_2), (0, .ref 42), (1, .int x1)]) (st' := [.int ((((y_4 &&& 196) ||| ((((r_2 ^^^ x1) ^^^ x3_3) >>> ((8 : Int32) &&& 31)) &&& 16)) ||| (x3_3 >>> ((16 : Int32) &&& 31))) ||| ((x3_3 >>> ((8 : Int32) &&& 31)) &&& 40)), .int 6, .ref 65]) rfl ?_
  refine st_iastR (o := 65) rfl rfl (show ixOk 6 8 by decide) rfl (fun d_5 hy_d_5 => ?_)
  have h := h d_5 hy_d_5
  refine st_go 4 (pc' := 57) (lo' := [(3, .int x3_3), (2, .int r_2), (0, .ref 42), (1, .int x1)]) (st' := [.int (x3_3 &&& 65535), .ref 42]) rfl ?_
  refine st_callv (k' := 376) (as := [.ref 42, .int (x3_3 &&& 65535)]) (rest := []) (lo' := [(0, .ref 42), (1, .int (x3_3 &&& 65535))]) (wf := fun d => wR L d e) rfl rfl rfl ?_
  refine tMO_setBase (fun d_6 h => ⟨d_6, rfl, rfl, ?_⟩) (x3_3 &&& 65535) d_5 h
  exact st_retV rfl rfl (hQ _ h)
set_option maxRecDepth 100000 in
def MO_doLoad_34 (x1 : Int32) (s0 : Int32) (d : vmD) (Q : vmD → Prop) : Prop :=
  if x1 = 0 then
  (bnd (gA d 65 7) fun y_5 =>
  MO_store s0 y_5 d fun d_6 =>
  Q d_6)
  else
  if x1 = 1 then
  (MO_peek s0 d fun r_9 d_8 =>
  bnd (sA d_8 65 7 r_9) fun d_10 =>
  Q d_10)
  else
  if x1 = 2 then
  (bnd (gA d 65 7) fun y_12 =>
  MO_store s0 y_12 d fun d_13 =>
  Q d_13)
  else
  if x1 = 3 then
  (MO_peek s0 d fun r_16 d_15 =>
  bnd (sA d_15 65 7 r_16) fun d_17 =>
  Q d_17)
  else
  if x1 = 4 then
  (MO_base d fun r_20 d_19 =>
  MO_store s0 r_20 d_19 fun d_21 =>
  MO_store (s0 + 1) (r_20 >>> ((8 : Int32) &&& 31)) d_21 fun d_22 =>
  Q d_22)
  else
  if x1 = 6 then
  (bnd (gA d 65 7) fun y_24 =>
  MO_store s0 y_24 d fun d_25 =>
  Q d_25)
  else
  if x1 = 7 then
  (MO_peek s0 d fun r_28 d_27 =>
  bnd (sA d_27 65 7 r_28) fun d_29 =>
  Q d_29)
  else
  (MO_wide s0 d fun r_31 d_30 =>
  MO_setBase r_31 d_30 fun d_32 =>
  Q d_32)
set_option maxRecDepth 100000 in
set_option maxHeartbeats 4000000 in
theorem tMO_doLoad_34 {L : Nat} {e : vmD} {Qo : Option Value → vmW → Prop} {Q : vmD → Prop} (hQ : ∀ d, Q d → Qo none (wR L d e)) (x1 : Int32) (s0 : Int32) (d : vmD) (h : MO_doLoad_34 x1 s0 d Q) : vmWp 391 34 [(0, .ref 42), (1, .int x1)] [.int s0] (wR L d e) Qo := by
  unfold MO_doLoad_34 at h
  refine st_go 2 (pc' := 36) (lo' := [(2, .int s0), (0, .ref 42), (1, .int x1)]) (st' := [.int x1]) rfl ?_
  by_cases hc_4 : x1 = 0
  · have h := Eq.mp (if_pos hc_4) h
    refine st_tab (t := 84) rfl (by rw [hc_4]; rfl) ?_
    refine st_go 5 (pc' := 92) (lo' := [(2, .int s0), (0, .ref 42), (1, .int x1)]) (st' := [.int 7, .ref 65, .int s0, .ref 42]) rfl ?_
    refine st_ialdR (o := 65) rfl rfl (show ixOk 7 8 by decide) rfl (fun y_5 hy_y_5 => ?_)
    have h := h y_5 hy_y_5
    refine st_callv (k' := 363) (as := [.ref 42, .int s0, .int y_5]) (rest := []) (lo' := [(0, .ref 42), (1, .int s0), (2, .int y_5)]) (wf := fun d => wR L d e) rfl rfl rfl ?_
    refine tMO_store (fun d_6 h => ⟨d_6, rfl, rfl, ?_⟩) s0 y_5 d h
    refine st_go 1 (pc' := 148) (lo' := [(2, .int s0), (0, .ref 42), (1, .int x1)]) (st' := []) rfl ?_
    exact st_retV rfl rfl (hQ _ h)
  · have h := Eq.mp (if_neg hc_4) h
    by_cases hc_7 : x1 = 1
    · have h := Eq.mp (if_pos hc_7) h
      refine st_tab (t := 99) rfl (by rw [hc_7]; rfl) ?_
      refine st_go 5 (pc' := 107) (lo' := [(2, .int s0), (0, .ref 42), (1, .int x1)]) (st' := [.int s0, .ref 42, .int 7, .ref 65]) rfl ?_
      refine st_calli (k' := 320) (as := [.ref 42, .int s0]) (rest := [.int 7, .ref 65]) (lo' := [(0, .ref 42), (1, .int s0)]) (wf := fun d => wR L d e) rfl rfl rfl ?_
      refine tMO_peek (fun r_9 d_8 h => ⟨r_9, d_8, rfl, rfl, ?_⟩) s0 d h
      refine st_iastR (o := 65) rfl rfl (show ixOk 7 8 by decide) rfl (fun d_10 hy_d_10 => ?_)
      have h := h d_10 hy_d_10
      refine st_go 1 (pc' := 148) (lo' := [(2, .int s0), (0, .ref 42), (1, .int x1)]) (st' := []) rfl ?_
      exact st_retV rfl rfl (hQ _ h)
    · have h := Eq.mp (if_neg hc_7) h
      by_cases hc_11 : x1 = 2
      · have h := Eq.mp (if_pos hc_11) h
        refine st_tab (t := 84) rfl (by rw [hc_11]; rfl) ?_
        refine st_go 5 (pc' := 92) (lo' := [(2, .int s0), (0, .ref 42), (1, .int x1)]) (st' := [.int 7, .ref 65, .int s0, .ref 42]) rfl ?_
        refine st_ialdR (o := 65) rfl rfl (show ixOk 7 8 by decide) rfl (fun y_12 hy_y_12 => ?_)
        have h := h y_12 hy_y_12
        refine st_callv (k' := 363) (as := [.ref 42, .int s0, .int y_12]) (rest := []) (lo' := [(0, .ref 42), (1, .int s0), (2, .int y_12)]) (wf := fun d => wR L d e) rfl rfl rfl ?_
        refine tMO_store (fun d_13 h => ⟨d_13, rfl, rfl, ?_⟩) s0 y_12 d h
        refine st_go 1 (pc' := 148) (lo' := [(2, .int s0), (0, .ref 42), (1, .int x1)]) (st' := []) rfl ?_
        exact st_retV rfl rfl (hQ _ h)
      · have h := Eq.mp (if_neg hc_11) h
        by_cases hc_14 : x1 = 3
        · have h := Eq.mp (if_pos hc_14) h
          refine st_tab (t := 99) rfl (by rw [hc_14]; rfl) ?_
          refine st_go 5 (pc' := 107) (lo' := [(2, .int s0), (0, .ref 42), (1, .int x1)]) (st' := [.int s0, .ref 42, .int 7, .ref 65]) rfl ?_
          refine st_calli (k' := 320) (as := [.ref 42, .int s0]) (rest := [.int 7, .ref 65]) (lo' := [(0, .ref 42), (1, .int s0)]) (wf := fun d => wR L d e) rfl rfl rfl ?_
          refine tMO_peek (fun r_16 d_15 h => ⟨r_16, d_15, rfl, rfl, ?_⟩) s0 d h
          refine st_iastR (o := 65) rfl rfl (show ixOk 7 8 by decide) rfl (fun d_17 hy_d_17 => ?_)
          have h := h d_17 hy_d_17
          refine st_go 1 (pc' := 148) (lo' := [(2, .int s0), (0, .ref 42), (1, .int x1)]) (st' := []) rfl ?_
          exact st_retV rfl rfl (hQ _ h)
        · have h := Eq.mp (if_neg hc_14) h
          by_cases hc_18 : x1 = 4
          · have h := Eq.mp (if_pos hc_18) h
            refine st_tab (t := 114) rfl (by rw [hc_18]; rfl) ?_
            refine st_go 1 (pc' := 115) (lo' := [(2, .int s0), (0, .ref 42), (1, .int x1)]) (st' := [.ref 42]) rfl ?_
            refine st_calli (k' := 375) (as := [.ref 42]) (rest := []) (lo' := [(0, .ref 42)]) (wf := fun d => wR L d e) rfl rfl rfl ?_
            refine tMO_base (fun r_20 d_19 h => ⟨r_20, d_19, rfl, rfl, ?_⟩) d h
            refine st_go 4 (pc' := 122) (lo' := [(3, .int r_20), (2, .int s0), (0, .ref 42), (1, .int x1)]) (st' := [.int r_20, .int s0, .ref 42]) rfl ?_
            refine st_callv (k' := 363) (as := [.ref 42, .int s0, .int r_20]) (rest := []) (lo' := [(0, .ref 42), (1, .int s0), (2, .int r_20)]) (wf := fun d => wR L d e) rfl rfl rfl ?_
            refine tMO_store (fun d_21 h => ⟨d_21, rfl, rfl, ?_⟩) s0 r_20 d_19 h
            refine st_go 7 (pc' := 133) (lo' := [(3, .int r_20), (2, .int s0), (0, .ref 42), (1, .int x1)]) (st' := [.int (r_20 >>> ((8 : Int32) &&& 31)), .int (s0 + 1), .ref 42]) rfl ?_
            refine st_callv (k' := 363) (as := [.ref 42, .int (s0 + 1), .int (r_20 >>> ((8 : Int32) &&& 31))]) (rest := []) (lo' := [(0, .ref 42), (1, .int (s0 + 1)), (2, .int (r_20 >>> ((8 : Int32) &&& 31)))]) (wf := fun d => wR L d e) rfl rfl rfl ?_
            refine tMO_store (fun d_22 h => ⟨d_22, rfl, rfl, ?_⟩) (s0 + 1) (r_20 >>> ((8 : Int32) &&& 31)) d_21 h
            refine st_go 1 (pc' := 148) (lo' := [(3, .int r_20), (2, .int s0), (0, .ref 42), (1, .int x1)]) (st' := []) rfl ?_
            exact st_retV rfl rfl (hQ _ h)
          · have h := Eq.mp (if_neg hc_18) h
            by_cases hc_23 : x1 = 6
            · have h := Eq.mp (if_pos hc_23) h
              refine st_tab (t := 84) rfl (by rw [hc_23]; rfl) ?_
              refine st_go 5 (pc' := 92) (lo' := [(2, .int s0), (0, .ref 42), (1, .int x1)]) (st' := [.int 7, .ref 65, .int s0, .ref 42]) rfl ?_
              refine st_ialdR (o := 65) rfl rfl (show ixOk 7 8 by decide) rfl (fun y_24 hy_y_24 => ?_)
              have h := h y_24 hy_y_24
              refine st_callv (k' := 363) (as := [.ref 42, .int s0, .int y_24]) (rest := []) (lo' := [(0, .ref 42), (1, .int s0), (2, .int y_24)]) (wf := fun d => wR L d e) rfl rfl rfl ?_
              refine tMO_store (fun d_25 h => ⟨d_25, rfl, rfl, ?_⟩) s0 y_24 d h
              refine st_go 1 (pc' := 148) (lo' := [(2, .int s0), (0, .ref 42), (1, .int x1)]) (st' := []) rfl ?_
              exact st_retV rfl rfl (hQ _ h)
            · have h := Eq.mp (if_neg hc_23) h
              by_cases hc_26 : x1 = 7
              · have h := Eq.mp (if_pos hc_26) h
                refine st_tab (t := 99) rfl (by rw [hc_26]; rfl) ?_
                refine st_go 5 (pc' := 107) (lo' := [(2, .int s0), (0, .ref 42), (1, .int x1)]) (st' := [.int s0, .ref 42, .int 7, .ref 65]) rfl ?_
                refine st_calli (k' := 320) (as := [.ref 42, .int s0]) (rest := [.int 7, .ref 65]) (lo' := [(0, .ref 42), (1, .int s0)]) (wf := fun d => wR L d e) rfl rfl rfl ?_
                refine tMO_peek (fun r_28 d_27 h => ⟨r_28, d_27, rfl, rfl, ?_⟩) s0 d h
                refine st_iastR (o := 65) rfl rfl (show ixOk 7 8 by decide) rfl (fun d_29 hy_d_29 => ?_)
                have h := h d_29 hy_d_29
                refine st_go 1 (pc' := 148) (lo' := [(2, .int s0), (0, .ref 42), (1, .int x1)]) (st' := []) rfl ?_
                exact st_retV rfl rfl (hQ _ h)
              · have h := Eq.mp (if_neg hc_26) h
                refine st_tab (t := 139) rfl (tab_def rfl (by decide) rfl (by
                  intro j hj hx
                  have hj : j < 8 := hj
                  rcases (j = 0 ∨ j = 1 ∨ j = 2 ∨ j = 3 ∨ j = 4 ∨ j = 5 ∨ j = 6 ∨ j = 7 : Prop) |> fun _ => (show j = 0 ∨ j = 1 ∨ j = 2 ∨ j = 3 ∨ j = 4 ∨ j = 5 ∨ j = 6 ∨ j = 7 by omega) with rfl | rfl | rfl | rfl | rfl | rfl | rfl | rfl <;> first | rfl | exact absurd hx hc_4 | exact absurd hx hc_7 | exact absurd hx hc_11 | exact absurd hx hc_14 | exact absurd hx hc_18 | exact absurd hx hc_23 | exact absurd hx hc_26)) ?_
                refine st_go 3 (pc' := 142) (lo' := [(2, .int s0), (0, .ref 42), (1, .int x1)]) (st' := [.int s0, .ref 42, .ref 42]) rfl ?_
                refine st_calli (k' := 321) (as := [.ref 42, .int s0]) (rest := [.ref 42]) (lo' := [(0, .ref 42), (1, .int s0)]) (wf := fun d => wR L d e) rfl rfl rfl ?_
                refine tMO_wide (fun r_31 d_30 h => ⟨r_31, d_30, rfl, rfl, ?_⟩) s0 d h
                refine st_callv (k' := 376) (as := [.ref 42, .int r_31]) (rest := []) (lo' := [(0, .ref 42), (1, .int r_31)]) (wf := fun d => wR L d e) rfl rfl rfl ?_
                refine tMO_setBase (fun d_32 h => ⟨d_32, rfl, rfl, ?_⟩) r_31 d_30 h
                exact st_retV rfl rfl (hQ _ h)
set_option maxRecDepth 100000 in
def MO_doLoad (x1 : Int32) (d : vmD) (Q : vmD → Prop) : Prop :=
  if x1 < 2 then
  (MO_two 0 d fun r_3 d_2 =>
  MO_doLoad_34 x1 r_3 d_2 Q)
  else
  (if x1 < 4 then
  (MO_two 2 d fun r_35 d_34 =>
  MO_doLoad_34 x1 r_35 d_34 Q)
  else
  (MO_wide (gF d 42 64) d fun r_37 d_36 =>
  MO_doLoad_34 x1 r_37 d_36 Q))
set_option maxRecDepth 100000 in
set_option maxHeartbeats 4000000 in
theorem tMO_doLoad {L : Nat} {e : vmD} {Qo : Option Value → vmW → Prop} {Q : vmD → Prop} (hQ : ∀ d, Q d → Qo none (wR L d e)) (x1 : Int32) (d : vmD) (h : MO_doLoad x1 d Q) : vmWp 391 0 [(0, .ref 42), (1, .int x1)] [] (wR L d e) Qo := by
  unfold MO_doLoad at h
  refine st_go 2 (pc' := 2) (lo' := [(0, .ref 42), (1, .int x1)]) (st' := [.int 2, .int x1]) rfl ?_
  by_cases hc_1 : x1 < 2
  · have h := Eq.mp (if_pos hc_1) h
    refine st_icmp (t := 5) (b := false) rfl (decide_eq_false (Int32.not_le.mpr hc_1)) rfl ?_
    refine st_go 2 (pc' := 7) (lo' := [(0, .ref 42), (1, .int x1)]) (st' := [.int 0, .ref 42]) rfl ?_
    refine st_calli (k' := 354) (as := [.ref 42, .int 0]) (rest := []) (lo' := [(0, .ref 42), (1, .int 0)]) (wf := fun d => wR L d e) rfl rfl rfl ?_
    refine tMO_two (fun r_3 d_2 h => ⟨r_3, d_2, rfl, rfl, ?_⟩) 0 d h
    refine st_go 1 (pc' := 34) (lo' := [(0, .ref 42), (1, .int x1)]) (st' := [.int r_3]) rfl ?_
    refine vmWp.sub (lo' := [(0, .ref 42), (1, .int x1)]) ⟨rfl, rfl, trivial⟩ ?_
    exact tMO_doLoad_34 hQ x1 r_3 d_2 h
  · have h := Eq.mp (if_neg hc_1) h
    refine st_icmp (t := 13) (b := true) rfl (decide_eq_true (Int32.not_lt.mp hc_1)) rfl ?_
    refine st_go 2 (pc' := 15) (lo' := [(0, .ref 42), (1, .int x1)]) (st' := [.int 4, .int x1]) rfl ?_
    by_cases hc_33 : x1 < 4
    · have h := Eq.mp (if_pos hc_33) h
      refine st_icmp (t := 18) (b := false) rfl (decide_eq_false (Int32.not_le.mpr hc_33)) rfl ?_
      refine st_go 2 (pc' := 20) (lo' := [(0, .ref 42), (1, .int x1)]) (st' := [.int 2, .ref 42]) rfl ?_
      refine st_calli (k' := 354) (as := [.ref 42, .int 2]) (rest := []) (lo' := [(0, .ref 42), (1, .int 2)]) (wf := fun d => wR L d e) rfl rfl rfl ?_
      refine tMO_two (fun r_35 d_34 h => ⟨r_35, d_34, rfl, rfl, ?_⟩) 2 d h
      refine st_go 1 (pc' := 34) (lo' := [(0, .ref 42), (1, .int x1)]) (st' := [.int r_35]) rfl ?_
      refine vmWp.sub (lo' := [(0, .ref 42), (1, .int x1)]) ⟨rfl, rfl, trivial⟩ ?_
      exact tMO_doLoad_34 hQ x1 r_35 d_34 h
    · have h := Eq.mp (if_neg hc_33) h
      refine st_icmp (t := 26) (b := true) rfl (decide_eq_true (Int32.not_lt.mp hc_33)) rfl ?_
      refine st_go 3 (pc' := 31) (lo' := [(0, .ref 42), (1, .int x1)]) (st' := [.int (gF d 42 64), .ref 42]) rfl ?_
      refine st_calli (k' := 321) (as := [.ref 42, .int (gF d 42 64)]) (rest := []) (lo' := [(0, .ref 42), (1, .int (gF d 42 64))]) (wf := fun d => wR L d e) rfl rfl rfl ?_
      refine tMO_wide (fun r_37 d_36 h => ⟨r_37, d_36, rfl, rfl, ?_⟩) (gF d 42 64) d h
      refine vmWp.sub (lo' := [(0, .ref 42), (1, .int x1)]) ⟨rfl, rfl, trivial⟩ ?_
      exact tMO_doLoad_34 hQ x1 r_37 d_36 h
set_option maxRecDepth 100000 in
def MO_sum (x1 : Int32) (x2 : Int32) (x3 : Int32) (d : vmD) (Q : Int32 → vmD → Prop) : Prop :=
  bnd ((x1 + x2) + x3) fun x4_1 =>
  bnd (x4_1 &&& 255) fun x5_2 =>
  MO_signs x5_2 d fun r_4 d_3 =>
  bnd (sA d_3 65 6 (((r_4 ||| (((x1 ^^^ x2) ^^^ x5_2) &&& 16)) ||| ((((x1 ^^^ (x2 ^^^ (-1))) &&& (x1 ^^^ x5_2)) &&& 128) >>> ((5 : Int32) &&& 31))) ||| (x4_1 >>> ((8 : Int32) &&& 31)))) fun d_5 =>
  Q x5_2 d_5
set_option maxRecDepth 100000 in
set_option maxHeartbeats 4000000 in
theorem tMO_sum {L : Nat} {e : vmD} {Qo : Option Value → vmW → Prop} {Q : Int32 → vmD → Prop} (hQ : ∀ r d, Q r d → Qo (some (.int r)) (wR L d e)) (x1 : Int32) (x2 : Int32) (x3 : Int32) (d : vmD) (h : MO_sum x1 x2 x3 d Q) : vmWp 370 0 [(0, .ref 42), (1, .int x1), (2, .int x2), (3, .int x3)] [] (wR L d e) Qo := by
  unfold MO_sum at h
  refine st_go 6 (pc' := 7) (lo' := [(4, .int ((x1 + x2) + x3)), (0, .ref 42), (1, .int x1), (2, .int x2), (3, .int x3)]) (st' := []) rfl ?_
  refine st_locI (fun x4_1 hy_x4_1 => ?_)
  have h := h x4_1 hy_x4_1
  refine st_go 4 (pc' := 15) (lo' := [(5, .int (x4_1 &&& 255)), (4, .int x4_1), (0, .ref 42), (1, .int x1), (2, .int x2), (3, .int x3)]) (st' := []) rfl ?_
  refine st_locI (fun x5_2 hy_x5_2 => ?_)
  have h := h x5_2 hy_x5_2
  refine st_go 5 (pc' := 24) (lo' := [(5, .int x5_2), (4, .int x4_1), (0, .ref 42), (1, .int x1), (2, .int x2), (3, .int x3)]) (st' := [.int x5_2, .ref 42, .int 6, .ref 65]) rfl ?_
  refine st_calli (k' := 369) (as := [.ref 42, .int x5_2]) (rest := [.int 6, .ref 65]) (lo' := [(0, .ref 42), (1, .int x5_2)]) (wf := fun d => wR L d e) rfl rfl rfl ?_
  refine tMO_signs (fun r_4 d_3 h => ⟨r_4, d_3, rfl, rfl, ?_⟩) x5_2 d h
  refine st_go 26 (pc' := 60) (lo' := [(5, .int x5_2), (4, .int x4_1), (0, .ref 42), (1, .int x1), (2, .int x2), (3, .int x3)]) (st' := [.int (((r_4 ||| (((x1 ^^^ x2) ^^^ x5_2) &&& 16)) ||| ((((x1 ^^^ (x2 ^^^ (-1))) &&& (x1 ^^^ x5_2)) &&& 128) >>> ((5 : Int32) &&& 31))) ||| (x4_1 >>> ((8 : Int32) &&& 31))), .int 6, .ref 65]) rfl ?_
  refine st_iastR (o := 65) rfl rfl (show ixOk 6 8 by decide) rfl (fun d_5 hy_d_5 => ?_)
  have h := h d_5 hy_d_5
  refine st_go 1 (pc' := 63) (lo' := [(5, .int x5_2), (4, .int x4_1), (0, .ref 42), (1, .int x1), (2, .int x2), (3, .int x3)]) (st' := [.int x5_2]) rfl ?_
  exact st_retI rfl rfl (hQ _ _ h)
set_option maxRecDepth 100000 in
def MO_stepUp_31 (x3 : Int32) (s0 : Int32) (d : vmD) (Q : Int32 → vmD → Prop) : Prop :=
  bnd (gA d 65 6) fun y_6 =>
  bnd (sA d 65 6 ((y_6 &&& 254) ||| x3)) fun d_7 =>
  Q s0 d_7
set_option maxRecDepth 100000 in
set_option maxHeartbeats 4000000 in
theorem tMO_stepUp_31 {L : Nat} {e : vmD} {Qo : Option Value → vmW → Prop} {Q : Int32 → vmD → Prop} (hQ : ∀ r d, Q r d → Qo (some (.int r)) (wR L d e)) (x3 : Int32) (s0 : Int32) (d : vmD) (h : MO_stepUp_31 x3 s0 d Q) : vmWp 373 31 [(0, .ref 42), (3, .int x3)] [.int s0] (wR L d e) Qo := by
  unfold MO_stepUp_31 at h
  refine st_go 7 (pc' := 45) (lo' := [(4, .int s0), (0, .ref 42), (3, .int x3)]) (st' := [.int 6, .ref 65, .int 6, .ref 65]) rfl ?_
  refine st_ialdR (o := 65) rfl rfl (show ixOk 6 8 by decide) rfl (fun y_6 hy_y_6 => ?_)
  have h := h y_6 hy_y_6
  refine st_go 4 (pc' := 52) (lo' := [(4, .int s0), (0, .ref 42), (3, .int x3)]) (st' := [.int ((y_6 &&& 254) ||| x3), .int 6, .ref 65]) rfl ?_
  refine st_iastR (o := 65) rfl rfl (show ixOk 6 8 by decide) rfl (fun d_7 hy_d_7 => ?_)
  have h := h d_7 hy_d_7
  refine st_go 1 (pc' := 55) (lo' := [(4, .int s0), (0, .ref 42), (3, .int x3)]) (st' := [.int s0]) rfl ?_
  exact st_retI rfl rfl (hQ _ _ h)
set_option maxRecDepth 100000 in
def MO_stepUp (x1 : Int32) (x2 : Int32) (d : vmD) (Q : Int32 → vmD → Prop) : Prop :=
  bnd (gA d 65 6) fun y_1 =>
  bnd (y_1 &&& 1) fun x3_2 =>
  if x2 = 0 then
  (MO_sum x1 1 0 d fun r_5 d_4 =>
  MO_stepUp_31 x3_2 r_5 d_4 Q)
  else
  (MO_difference x1 1 0 d fun r_9 d_8 =>
  MO_stepUp_31 x3_2 r_9 d_8 Q)
set_option maxRecDepth 100000 in
set_option maxHeartbeats 4000000 in
theorem tMO_stepUp {L : Nat} {e : vmD} {Qo : Option Value → vmW → Prop} {Q : Int32 → vmD → Prop} (hQ : ∀ r d, Q r d → Qo (some (.int r)) (wR L d e)) (x1 : Int32) (x2 : Int32) (d : vmD) (h : MO_stepUp x1 x2 d Q) : vmWp 373 0 [(0, .ref 42), (1, .int x1), (2, .int x2)] [] (wR L d e) Qo := by
  unfold MO_stepUp at h
  refine st_go 3 (pc' := 6) (lo' := [(0, .ref 42), (1, .int x1), (2, .int x2)]) (st' := [.int 6, .ref 65]) rfl ?_
  refine st_ialdR (o := 65) rfl rfl (show ixOk 6 8 by decide) rfl (fun y_1 hy_y_1 => ?_)
  have h := h y_1 hy_y_1
  refine st_go 3 (pc' := 10) (lo' := [(3, .int (y_1 &&& 1)), (0, .ref 42), (1, .int x1), (2, .int x2)]) (st' := []) rfl ?_
  refine st_locI (fun x3_2 hy_x3_2 => ?_)
  have h := h x3_2 hy_x3_2
  refine st_go 1 (pc' := 11) (lo' := [(3, .int x3_2), (0, .ref 42), (1, .int x1), (2, .int x2)]) (st' := [.int x2]) rfl ?_
  by_cases hc_3 : x2 = 0
  · have h := Eq.mp (if_pos hc_3) h
    refine st_if (t := 24) (b := true) rfl (decide_eq_true hc_3) rfl ?_
    refine st_go 4 (pc' := 28) (lo' := [(3, .int x3_2), (0, .ref 42), (1, .int x1), (2, .int x2)]) (st' := [.int 0, .int 1, .int x1, .ref 42]) rfl ?_
    refine st_calli (k' := 370) (as := [.ref 42, .int x1, .int 1, .int 0]) (rest := []) (lo' := [(0, .ref 42), (1, .int x1), (2, .int 1), (3, .int 0)]) (wf := fun d => wR L d e) rfl rfl rfl ?_
    refine tMO_sum (fun r_5 d_4 h => ⟨r_5, d_4, rfl, rfl, ?_⟩) x1 1 0 d h
    refine vmWp.sub (lo' := [(0, .ref 42), (3, .int x3_2)]) ⟨rfl, rfl, trivial⟩ ?_
    exact tMO_stepUp_31 hQ x3_2 r_5 d_4 h
  · have h := Eq.mp (if_neg hc_3) h
    refine st_if (t := 14) (b := false) rfl (decide_eq_false hc_3) rfl ?_
    refine st_go 4 (pc' := 18) (lo' := [(3, .int x3_2), (0, .ref 42), (1, .int x1), (2, .int x2)]) (st' := [.int 0, .int 1, .int x1, .ref 42]) rfl ?_
    refine st_calli (k' := 371) (as := [.ref 42, .int x1, .int 1, .int 0]) (rest := []) (lo' := [(0, .ref 42), (1, .int x1), (2, .int 1), (3, .int 0)]) (wf := fun d => wR L d e) rfl rfl rfl ?_
    refine tMO_difference (fun r_9 d_8 h => ⟨r_9, d_8, rfl, rfl, ?_⟩) x1 1 0 d h
    refine st_go 1 (pc' := 31) (lo' := [(3, .int x3_2), (0, .ref 42), (1, .int x1), (2, .int x2)]) (st' := [.int r_9]) rfl ?_
    refine vmWp.sub (lo' := [(0, .ref 42), (3, .int x3_2)]) ⟨rfl, rfl, trivial⟩ ?_
    exact tMO_stepUp_31 hQ x3_2 r_9 d_8 h
set_option maxRecDepth 100000 in
def MO_adjust_209 (s0 : Int32) (s1 : Int32) (s2 : Int32) (d : vmD) (Q : vmD → Prop) : Prop :=
  ixOk s2 8 ∧
  bnd (sA d 65 s2.toNatClampNeg (s1 ||| s0)) fun d_24 =>
  Q d_24
set_option maxRecDepth 100000 in
set_option maxHeartbeats 4000000 in
theorem tMO_adjust_209 {L : Nat} {e : vmD} {Qo : Option Value → vmW → Prop} {Q : vmD → Prop} (hQ : ∀ d, Q d → Qo none (wR L d e)) (s0 : Int32) (s1 : Int32) (s2 : Int32) (d : vmD) (h : MO_adjust_209 s0 s1 s2 d Q) : vmWp 393 209 [] [.int s0, .int s1, .int s2, .ref 65] (wR L d e) Qo := by
  unfold MO_adjust_209 at h
  refine st_go 1 (pc' := 210) (lo' := []) (st' := [.int (s1 ||| s0), .int s2, .ref 65]) rfl ?_
  obtain ⟨hj_23, h⟩ := h
  refine st_iastR (o := 65) rfl rfl hj_23 rfl (fun d_24 hy_d_24 => ?_)
  have h := h d_24 hy_d_24
  exact st_retV rfl rfl (hQ _ h)
set_option maxRecDepth 100000 in
def MO_adjust_197 (x7 : Int32) (s0 : Int32) (s1 : Int32) (s2 : Int32) (d : vmD) (Q : vmD → Prop) : Prop :=
  if x7 = 0 then
  (MO_adjust_209 0 (s1 ||| s0) s2 d Q)
  else
  (MO_adjust_209 16 (s1 ||| s0) s2 d Q)
set_option maxRecDepth 100000 in
set_option maxHeartbeats 4000000 in
theorem tMO_adjust_197 {L : Nat} {e : vmD} {Qo : Option Value → vmW → Prop} {Q : vmD → Prop} (hQ : ∀ d, Q d → Qo none (wR L d e)) (x7 : Int32) (s0 : Int32) (s1 : Int32) (s2 : Int32) (d : vmD) (h : MO_adjust_197 x7 s0 s1 s2 d Q) : vmWp 393 197 [(7, .int x7)] [.int s0, .int s1, .int s2, .ref 65] (wR L d e) Qo := by
  unfold MO_adjust_197 at h
  refine st_go 2 (pc' := 200) (lo' := [(7, .int x7)]) (st' := [.int x7, .int (s1 ||| s0), .int s2, .ref 65]) rfl ?_
  by_cases hc_22 : x7 = 0
  · have h := Eq.mp (if_pos hc_22) h
    refine st_if (t := 208) (b := true) rfl (decide_eq_true hc_22) rfl ?_
    refine st_go 1 (pc' := 209) (lo' := [(7, .int x7)]) (st' := [.int 0, .int (s1 ||| s0), .int s2, .ref 65]) rfl ?_
    refine vmWp.sub (lo' := []) trivial ?_
    exact tMO_adjust_209 hQ 0 (s1 ||| s0) s2 d h
  · have h := Eq.mp (if_neg hc_22) h
    refine st_if (t := 203) (b := false) rfl (decide_eq_false hc_22) rfl ?_
    refine st_go 2 (pc' := 209) (lo' := [(7, .int x7)]) (st' := [.int 16, .int (s1 ||| s0), .int s2, .ref 65]) rfl ?_
    refine vmWp.sub (lo' := []) trivial ?_
    exact tMO_adjust_209 hQ 16 (s1 ||| s0) s2 d h
set_option maxRecDepth 100000 in
def MO_adjust_149 (x2 : Int32) (x4 : Int32) (x7 : Int32) (s0 : Int32) (s1 : Int32) (d : vmD) (Q : vmD → Prop) : Prop :=
  ixOk s1 8 ∧
  bnd (sA d 65 s1.toNatClampNeg (s0 &&& 255)) fun d_14 =>
  bnd (gA d_14 65 7) fun y_15 =>
  MO_signs y_15 d_14 fun r_17 d_16 =>
  bnd (gA d_16 65 7) fun y_18 =>
  MO_parity y_18 d_16 fun r_20 d_19 =>
  if x4 = 0 then
  (MO_adjust_197 x7 0 ((r_17 ||| r_20) ||| (x2 &&& 2)) 6 d_19 Q)
  else
  (MO_adjust_197 x7 1 ((r_17 ||| r_20) ||| (x2 &&& 2)) 6 d_19 Q)
set_option maxRecDepth 100000 in
set_option maxHeartbeats 4000000 in
theorem tMO_adjust_149 {L : Nat} {e : vmD} {Qo : Option Value → vmW → Prop} {Q : vmD → Prop} (hQ : ∀ d, Q d → Qo none (wR L d e)) (x2 : Int32) (x4 : Int32) (x7 : Int32) (s0 : Int32) (s1 : Int32) (d : vmD) (h : MO_adjust_149 x2 x4 x7 s0 s1 d Q) : vmWp 393 149 [(0, .ref 42), (2, .int x2), (4, .int x4), (7, .int x7)] [.int s0, .int s1, .ref 65] (wR L d e) Qo := by
  unfold MO_adjust_149 at h
  refine st_go 2 (pc' := 153) (lo' := [(0, .ref 42), (2, .int x2), (4, .int x4), (7, .int x7)]) (st' := [.int (s0 &&& 255), .int s1, .ref 65]) rfl ?_
  obtain ⟨hj_13, h⟩ := h
  refine st_iastR (o := 65) rfl rfl hj_13 rfl (fun d_14 hy_d_14 => ?_)
  have h := h d_14 hy_d_14
  refine st_go 7 (pc' := 167) (lo' := [(0, .ref 42), (2, .int x2), (4, .int x4), (7, .int x7)]) (st' := [.int 7, .ref 65, .ref 42, .int 6, .ref 65]) rfl ?_
  refine st_ialdR (o := 65) rfl rfl (show ixOk 7 8 by decide) rfl (fun y_15 hy_y_15 => ?_)
  have h := h y_15 hy_y_15
  refine st_calli (k' := 369) (as := [.ref 42, .int y_15]) (rest := [.int 6, .ref 65]) (lo' := [(0, .ref 42), (1, .int y_15)]) (wf := fun d => wR L d e) rfl rfl rfl ?_
  refine tMO_signs (fun r_17 d_16 h => ⟨r_17, d_16, rfl, rfl, ?_⟩) y_15 d_14 h
  refine st_go 4 (pc' := 178) (lo' := [(0, .ref 42), (2, .int x2), (4, .int x4), (7, .int x7)]) (st' := [.int 7, .ref 65, .ref 42, .int r_17, .int 6, .ref 65]) rfl ?_
  refine st_ialdR (o := 65) rfl rfl (show ixOk 7 8 by decide) rfl (fun y_18 hy_y_18 => ?_)
  have h := h y_18 hy_y_18
  refine st_calli (k' := 368) (as := [.ref 42, .int y_18]) (rest := [.int r_17, .int 6, .ref 65]) (lo' := [(0, .ref 42), (1, .int y_18)]) (wf := fun d => wR L d e) rfl rfl rfl ?_
  refine tMO_parity (fun r_20 d_19 h => ⟨r_20, d_19, rfl, rfl, ?_⟩) y_18 d_16 h
  refine st_go 6 (pc' := 189) (lo' := [(0, .ref 42), (2, .int x2), (4, .int x4), (7, .int x7)]) (st' := [.int x4, .int ((r_17 ||| r_20) ||| (x2 &&& 2)), .int 6, .ref 65]) rfl ?_
  by_cases hc_21 : x4 = 0
  · have h := Eq.mp (if_pos hc_21) h
    refine st_if (t := 196) (b := true) rfl (decide_eq_true hc_21) rfl ?_
    refine st_go 1 (pc' := 197) (lo' := [(0, .ref 42), (2, .int x2), (4, .int x4), (7, .int x7)]) (st' := [.int 0, .int ((r_17 ||| r_20) ||| (x2 &&& 2)), .int 6, .ref 65]) rfl ?_
    refine vmWp.sub (lo' := [(7, .int x7)]) ⟨rfl, trivial⟩ ?_
    exact tMO_adjust_197 hQ x7 0 ((r_17 ||| r_20) ||| (x2 &&& 2)) 6 d_19 h
  · have h := Eq.mp (if_neg hc_21) h
    refine st_if (t := 192) (b := false) rfl (decide_eq_false hc_21) rfl ?_
    refine st_go 2 (pc' := 197) (lo' := [(0, .ref 42), (2, .int x2), (4, .int x4), (7, .int x7)]) (st' := [.int 1, .int ((r_17 ||| r_20) ||| (x2 &&& 2)), .int 6, .ref 65]) rfl ?_
    refine vmWp.sub (lo' := [(7, .int x7)]) ⟨rfl, trivial⟩ ?_
    exact tMO_adjust_197 hQ x7 1 ((r_17 ||| r_20) ||| (x2 &&& 2)) 6 d_19 h
set_option maxRecDepth 100000 in
def MO_adjust_125 (x1 : Int32) (x2 : Int32) (x4 : Int32) (x5 : Int32) (x6 : Int32) (s0 : Int32) (d : vmD) (Q : vmD → Prop) : Prop :=
  if x6 = 0 then
  (MO_adjust_149 x2 x4 s0 (x1 + x5) 7 d Q)
  else
  (MO_adjust_149 x2 x4 s0 (x1 - x5) 7 d Q)
set_option maxRecDepth 100000 in
set_option maxHeartbeats 4000000 in
theorem tMO_adjust_125 {L : Nat} {e : vmD} {Qo : Option Value → vmW → Prop} {Q : vmD → Prop} (hQ : ∀ d, Q d → Qo none (wR L d e)) (x1 : Int32) (x2 : Int32) (x4 : Int32) (x5 : Int32) (x6 : Int32) (s0 : Int32) (d : vmD) (h : MO_adjust_125 x1 x2 x4 x5 x6 s0 d Q) : vmWp 393 125 [(0, .ref 42), (1, .int x1), (2, .int x2), (4, .int x4), (5, .int x5), (6, .int x6)] [.int s0] (wR L d e) Qo := by
  unfold MO_adjust_125 at h
  refine st_go 5 (pc' := 135) (lo' := [(7, .int s0), (0, .ref 42), (1, .int x1), (2, .int x2), (4, .int x4), (5, .int x5), (6, .int x6)]) (st' := [.int x6, .int 7, .ref 65]) rfl ?_
  by_cases hc_12 : x6 = 0
  · have h := Eq.mp (if_pos hc_12) h
    refine st_if (t := 145) (b := true) rfl (decide_eq_true hc_12) rfl ?_
    refine st_go 3 (pc' := 149) (lo' := [(7, .int s0), (0, .ref 42), (1, .int x1), (2, .int x2), (4, .int x4), (5, .int x5), (6, .int x6)]) (st' := [.int (x1 + x5), .int 7, .ref 65]) rfl ?_
    refine vmWp.sub (lo' := [(0, .ref 42), (2, .int x2), (4, .int x4), (7, .int s0)]) ⟨rfl, rfl, rfl, rfl, trivial⟩ ?_
    exact tMO_adjust_149 hQ x2 x4 s0 (x1 + x5) 7 d h
  · have h := Eq.mp (if_neg hc_12) h
    refine st_if (t := 138) (b := false) rfl (decide_eq_false hc_12) rfl ?_
    refine st_go 4 (pc' := 149) (lo' := [(7, .int s0), (0, .ref 42), (1, .int x1), (2, .int x2), (4, .int x4), (5, .int x5), (6, .int x6)]) (st' := [.int (x1 - x5), .int 7, .ref 65]) rfl ?_
    refine vmWp.sub (lo' := [(0, .ref 42), (2, .int x2), (4, .int x4), (7, .int s0)]) ⟨rfl, rfl, rfl, rfl, trivial⟩ ?_
    exact tMO_adjust_149 hQ x2 x4 s0 (x1 - x5) 7 d h
set_option maxRecDepth 100000 in
def MO_adjust_110 (x1 : Int32) (x2 : Int32) (x4 : Int32) (x5 : Int32) (x6 : Int32) (d : vmD) (Q : vmD → Prop) : Prop :=
  MO_adjust_125 x1 x2 x4 x5 x6 0 d Q
set_option maxRecDepth 100000 in
set_option maxHeartbeats 4000000 in
theorem tMO_adjust_110 {L : Nat} {e : vmD} {Qo : Option Value → vmW → Prop} {Q : vmD → Prop} (hQ : ∀ d, Q d → Qo none (wR L d e)) (x1 : Int32) (x2 : Int32) (x4 : Int32) (x5 : Int32) (x6 : Int32) (d : vmD) (h : MO_adjust_110 x1 x2 x4 x5 x6 d Q) : vmWp 393 110 [(0, .ref 42), (1, .int x1), (2, .int x2), (4, .int x4), (5, .int x5), (6, .int x6)] [] (wR L d e) Qo := by
  unfold MO_adjust_110 at h
  refine st_go 2 (pc' := 125) (lo' := [(0, .ref 42), (1, .int x1), (2, .int x2), (4, .int x4), (5, .int x5), (6, .int x6)]) (st' := [.int 0]) rfl ?_
  refine vmWp.sub (lo' := [(0, .ref 42), (1, .int x1), (2, .int x2), (4, .int x4), (5, .int x5), (6, .int x6)]) ⟨rfl, rfl, rfl, rfl, rfl, rfl, trivial⟩ ?_
  exact tMO_adjust_125 hQ x1 x2 x4 x5 x6 0 d h
set_option maxRecDepth 100000 in
def MO_adjust_86 (x1 : Int32) (x2 : Int32) (x3 : Int32) (x4 : Int32) (x5 : Int32) (s0 : Int32) (d : vmD) (Q : vmD → Prop) : Prop :=
  if s0 = 0 then
  (if (9 : Int32) < x3 then
  (MO_adjust_125 x1 x2 x4 x5 s0 1 d Q)
  else
  (MO_adjust_125 x1 x2 x4 x5 s0 0 d Q))
  else
  (if (x2 &&& 16) = 0 then
  (MO_adjust_110 x1 x2 x4 x5 s0 d Q)
  else
  (if x3 < 6 then
  (MO_adjust_125 x1 x2 x4 x5 s0 1 d Q)
  else
  (MO_adjust_110 x1 x2 x4 x5 s0 d Q)))
set_option maxRecDepth 100000 in
set_option maxHeartbeats 4000000 in
theorem tMO_adjust_86 {L : Nat} {e : vmD} {Qo : Option Value → vmW → Prop} {Q : vmD → Prop} (hQ : ∀ d, Q d → Qo none (wR L d e)) (x1 : Int32) (x2 : Int32) (x3 : Int32) (x4 : Int32) (x5 : Int32) (s0 : Int32) (d : vmD) (h : MO_adjust_86 x1 x2 x3 x4 x5 s0 d Q) : vmWp 393 86 [(0, .ref 42), (1, .int x1), (2, .int x2), (3, .int x3), (4, .int x4), (5, .int x5)] [.int s0] (wR L d e) Qo := by
  unfold MO_adjust_86 at h
  refine st_go 2 (pc' := 90) (lo' := [(6, .int s0), (0, .ref 42), (1, .int x1), (2, .int x2), (3, .int x3), (4, .int x4), (5, .int x5)]) (st' := [.int s0]) rfl ?_
  by_cases hc_10 : s0 = 0
  · have h := Eq.mp (if_pos hc_10) h
    refine st_if (t := 114) (b := true) rfl (decide_eq_true hc_10) rfl ?_
    refine st_go 2 (pc' := 117) (lo' := [(6, .int s0), (0, .ref 42), (1, .int x1), (2, .int x2), (3, .int x3), (4, .int x4), (5, .int x5)]) (st' := [.int 9, .int x3]) rfl ?_
    by_cases hc_11 : (9 : Int32) < x3
    · have h := Eq.mp (if_pos hc_11) h
      refine st_icmp (t := 120) (b := false) rfl (decide_eq_false (Int32.not_le.mpr hc_11)) rfl ?_
      refine st_go 2 (pc' := 125) (lo' := [(6, .int s0), (0, .ref 42), (1, .int x1), (2, .int x2), (3, .int x3), (4, .int x4), (5, .int x5)]) (st' := [.int 1]) rfl ?_
      refine vmWp.sub (lo' := [(0, .ref 42), (1, .int x1), (2, .int x2), (4, .int x4), (5, .int x5), (6, .int s0)]) ⟨rfl, rfl, rfl, rfl, rfl, rfl, trivial⟩ ?_
      exact tMO_adjust_125 hQ x1 x2 x4 x5 s0 1 d h
    · have h := Eq.mp (if_neg hc_11) h
      refine st_icmp (t := 124) (b := true) rfl (decide_eq_true (Int32.not_lt.mp hc_11)) rfl ?_
      refine st_go 1 (pc' := 125) (lo' := [(6, .int s0), (0, .ref 42), (1, .int x1), (2, .int x2), (3, .int x3), (4, .int x4), (5, .int x5)]) (st' := [.int 0]) rfl ?_
      refine vmWp.sub (lo' := [(0, .ref 42), (1, .int x1), (2, .int x2), (4, .int x4), (5, .int x5), (6, .int s0)]) ⟨rfl, rfl, rfl, rfl, rfl, rfl, trivial⟩ ?_
      exact tMO_adjust_125 hQ x1 x2 x4 x5 s0 0 d h
  · have h := Eq.mp (if_neg hc_10) h
    refine st_if (t := 93) (b := false) rfl (decide_eq_false hc_10) rfl ?_
    refine st_go 3 (pc' := 97) (lo' := [(6, .int s0), (0, .ref 42), (1, .int x1), (2, .int x2), (3, .int x3), (4, .int x4), (5, .int x5)]) (st' := [.int (x2 &&& 16)]) rfl ?_
    by_cases hc_25 : (x2 &&& 16) = 0
    · have h := Eq.mp (if_pos hc_25) h
      refine st_if (t := 110) (b := true) rfl (decide_eq_true hc_25) rfl ?_
      refine vmWp.sub (lo' := [(0, .ref 42), (1, .int x1), (2, .int x2), (4, .int x4), (5, .int x5), (6, .int s0)]) ⟨rfl, rfl, rfl, rfl, rfl, rfl, trivial⟩ ?_
      exact tMO_adjust_110 hQ x1 x2 x4 x5 s0 d h
    · have h := Eq.mp (if_neg hc_25) h
      refine st_if (t := 100) (b := false) rfl (decide_eq_false hc_25) rfl ?_
      refine st_go 2 (pc' := 103) (lo' := [(6, .int s0), (0, .ref 42), (1, .int x1), (2, .int x2), (3, .int x3), (4, .int x4), (5, .int x5)]) (st' := [.int 6, .int x3]) rfl ?_
      by_cases hc_26 : x3 < 6
      · have h := Eq.mp (if_pos hc_26) h
        refine st_icmp (t := 106) (b := false) rfl (decide_eq_false (Int32.not_le.mpr hc_26)) rfl ?_
        refine st_go 2 (pc' := 125) (lo' := [(6, .int s0), (0, .ref 42), (1, .int x1), (2, .int x2), (3, .int x3), (4, .int x4), (5, .int x5)]) (st' := [.int 1]) rfl ?_
        refine vmWp.sub (lo' := [(0, .ref 42), (1, .int x1), (2, .int x2), (4, .int x4), (5, .int x5), (6, .int s0)]) ⟨rfl, rfl, rfl, rfl, rfl, rfl, trivial⟩ ?_
        exact tMO_adjust_125 hQ x1 x2 x4 x5 s0 1 d h
      · have h := Eq.mp (if_neg hc_26) h
        refine st_icmp (t := 110) (b := true) rfl (decide_eq_true (Int32.not_lt.mp hc_26)) rfl ?_
        refine vmWp.sub (lo' := [(0, .ref 42), (1, .int x1), (2, .int x2), (4, .int x4), (5, .int x5), (6, .int s0)]) ⟨rfl, rfl, rfl, rfl, rfl, rfl, trivial⟩ ?_
        exact tMO_adjust_110 hQ x1 x2 x4 x5 s0 d h
set_option maxRecDepth 100000 in
def MO_adjust_72 (x1 : Int32) (x2 : Int32) (x3 : Int32) (x4 : Int32) (s0 : Int32) (s1 : Int32) (d : vmD) (Q : vmD → Prop) : Prop :=
  bnd (s1 + s0) fun x5_8 =>
  if (x2 &&& 2) = 0 then
  (MO_adjust_86 x1 x2 x3 x4 x5_8 0 d Q)
  else
  (MO_adjust_86 x1 x2 x3 x4 x5_8 1 d Q)
set_option maxRecDepth 100000 in
set_option maxHeartbeats 4000000 in
theorem tMO_adjust_72 {L : Nat} {e : vmD} {Qo : Option Value → vmW → Prop} {Q : vmD → Prop} (hQ : ∀ d, Q d → Qo none (wR L d e)) (x1 : Int32) (x2 : Int32) (x3 : Int32) (x4 : Int32) (s0 : Int32) (s1 : Int32) (d : vmD) (h : MO_adjust_72 x1 x2 x3 x4 s0 s1 d Q) : vmWp 393 72 [(0, .ref 42), (1, .int x1), (2, .int x2), (3, .int x3), (4, .int x4)] [.int s0, .int s1] (wR L d e) Qo := by
  unfold MO_adjust_72 at h
  refine st_go 2 (pc' := 75) (lo' := [(5, .int (s1 + s0)), (0, .ref 42), (1, .int x1), (2, .int x2), (3, .int x3), (4, .int x4)]) (st' := []) rfl ?_
  refine st_locI (fun x5_8 hy_x5_8 => ?_)
  have h := h x5_8 hy_x5_8
  refine st_go 3 (pc' := 78) (lo' := [(5, .int x5_8), (0, .ref 42), (1, .int x1), (2, .int x2), (3, .int x3), (4, .int x4)]) (st' := [.int (x2 &&& 2)]) rfl ?_
  by_cases hc_9 : (x2 &&& 2) = 0
  · have h := Eq.mp (if_pos hc_9) h
    refine st_if (t := 85) (b := true) rfl (decide_eq_true hc_9) rfl ?_
    refine st_go 1 (pc' := 86) (lo' := [(5, .int x5_8), (0, .ref 42), (1, .int x1), (2, .int x2), (3, .int x3), (4, .int x4)]) (st' := [.int 0]) rfl ?_
    refine vmWp.sub (lo' := [(0, .ref 42), (1, .int x1), (2, .int x2), (3, .int x3), (4, .int x4), (5, .int x5_8)]) ⟨rfl, rfl, rfl, rfl, rfl, rfl, trivial⟩ ?_
    exact tMO_adjust_86 hQ x1 x2 x3 x4 x5_8 0 d h
  · have h := Eq.mp (if_neg hc_9) h
    refine st_if (t := 81) (b := false) rfl (decide_eq_false hc_9) rfl ?_
    refine st_go 2 (pc' := 86) (lo' := [(5, .int x5_8), (0, .ref 42), (1, .int x1), (2, .int x2), (3, .int x3), (4, .int x4)]) (st' := [.int 1]) rfl ?_
    refine vmWp.sub (lo' := [(0, .ref 42), (1, .int x1), (2, .int x2), (3, .int x3), (4, .int x4), (5, .int x5_8)]) ⟨rfl, rfl, rfl, rfl, rfl, rfl, trivial⟩ ?_
    exact tMO_adjust_86 hQ x1 x2 x3 x4 x5_8 1 d h
set_option maxRecDepth 100000 in
def MO_adjust_61 (x1 : Int32) (x2 : Int32) (x3 : Int32) (x4 : Int32) (s0 : Int32) (d : vmD) (Q : vmD → Prop) : Prop :=
  if x4 = 0 then
  (MO_adjust_72 x1 x2 x3 x4 0 s0 d Q)
  else
  (MO_adjust_72 x1 x2 x3 x4 96 s0 d Q)
set_option maxRecDepth 100000 in
set_option maxHeartbeats 4000000 in
theorem tMO_adjust_61 {L : Nat} {e : vmD} {Qo : Option Value → vmW → Prop} {Q : vmD → Prop} (hQ : ∀ d, Q d → Qo none (wR L d e)) (x1 : Int32) (x2 : Int32) (x3 : Int32) (x4 : Int32) (s0 : Int32) (d : vmD) (h : MO_adjust_61 x1 x2 x3 x4 s0 d Q) : vmWp 393 61 [(0, .ref 42), (1, .int x1), (2, .int x2), (3, .int x3), (4, .int x4)] [.int s0] (wR L d e) Qo := by
  unfold MO_adjust_61 at h
  refine st_go 1 (pc' := 63) (lo' := [(0, .ref 42), (1, .int x1), (2, .int x2), (3, .int x3), (4, .int x4)]) (st' := [.int x4, .int s0]) rfl ?_
  by_cases hc_7 : x4 = 0
  · have h := Eq.mp (if_pos hc_7) h
    refine st_if (t := 71) (b := true) rfl (decide_eq_true hc_7) rfl ?_
    refine st_go 1 (pc' := 72) (lo' := [(0, .ref 42), (1, .int x1), (2, .int x2), (3, .int x3), (4, .int x4)]) (st' := [.int 0, .int s0]) rfl ?_
    refine vmWp.sub (lo' := [(0, .ref 42), (1, .int x1), (2, .int x2), (3, .int x3), (4, .int x4)]) ⟨rfl, rfl, rfl, rfl, rfl, trivial⟩ ?_
    exact tMO_adjust_72 hQ x1 x2 x3 x4 0 s0 d h
  · have h := Eq.mp (if_neg hc_7) h
    refine st_if (t := 66) (b := false) rfl (decide_eq_false hc_7) rfl ?_
    refine st_go 2 (pc' := 72) (lo' := [(0, .ref 42), (1, .int x1), (2, .int x2), (3, .int x3), (4, .int x4)]) (st' := [.int 96, .int s0]) rfl ?_
    refine vmWp.sub (lo' := [(0, .ref 42), (1, .int x1), (2, .int x2), (3, .int x3), (4, .int x4)]) ⟨rfl, rfl, rfl, rfl, rfl, trivial⟩ ?_
    exact tMO_adjust_72 hQ x1 x2 x3 x4 96 s0 d h
set_option maxRecDepth 100000 in
def MO_adjust_55 (x1 : Int32) (x2 : Int32) (x3 : Int32) (x4 : Int32) (d : vmD) (Q : vmD → Prop) : Prop :=
  MO_adjust_61 x1 x2 x3 x4 6 d Q
set_option maxRecDepth 100000 in
set_option maxHeartbeats 4000000 in
theorem tMO_adjust_55 {L : Nat} {e : vmD} {Qo : Option Value → vmW → Prop} {Q : vmD → Prop} (hQ : ∀ d, Q d → Qo none (wR L d e)) (x1 : Int32) (x2 : Int32) (x3 : Int32) (x4 : Int32) (d : vmD) (h : MO_adjust_55 x1 x2 x3 x4 d Q) : vmWp 393 55 [(0, .ref 42), (1, .int x1), (2, .int x2), (3, .int x3), (4, .int x4)] [] (wR L d e) Qo := by
  unfold MO_adjust_55 at h
  refine st_go 2 (pc' := 61) (lo' := [(0, .ref 42), (1, .int x1), (2, .int x2), (3, .int x3), (4, .int x4)]) (st' := [.int 6]) rfl ?_
  refine vmWp.sub (lo' := [(0, .ref 42), (1, .int x1), (2, .int x2), (3, .int x3), (4, .int x4)]) ⟨rfl, rfl, rfl, rfl, rfl, trivial⟩ ?_
  exact tMO_adjust_61 hQ x1 x2 x3 x4 6 d h
set_option maxRecDepth 100000 in
def MO_adjust_40 (x1 : Int32) (x2 : Int32) (x3 : Int32) (s0 : Int32) (d : vmD) (Q : vmD → Prop) : Prop :=
  if (x2 &&& 16) = 0 then
  (if (9 : Int32) < x3 then
  (MO_adjust_55 x1 x2 x3 s0 d Q)
  else
  (MO_adjust_61 x1 x2 x3 s0 0 d Q))
  else
  (MO_adjust_55 x1 x2 x3 s0 d Q)
set_option maxRecDepth 100000 in
set_option maxHeartbeats 4000000 in
theorem tMO_adjust_40 {L : Nat} {e : vmD} {Qo : Option Value → vmW → Prop} {Q : vmD → Prop} (hQ : ∀ d, Q d → Qo none (wR L d e)) (x1 : Int32) (x2 : Int32) (x3 : Int32) (s0 : Int32) (d : vmD) (h : MO_adjust_40 x1 x2 x3 s0 d Q) : vmWp 393 40 [(0, .ref 42), (1, .int x1), (2, .int x2), (3, .int x3)] [.int s0] (wR L d e) Qo := by
  unfold MO_adjust_40 at h
  refine st_go 4 (pc' := 46) (lo' := [(4, .int s0), (0, .ref 42), (1, .int x1), (2, .int x2), (3, .int x3)]) (st' := [.int (x2 &&& 16)]) rfl ?_
  by_cases hc_5 : (x2 &&& 16) = 0
  · have h := Eq.mp (if_pos hc_5) h
    refine st_if (t := 49) (b := false) rfl (decide_eq_false (fun z => z hc_5)) rfl ?_
    refine st_go 2 (pc' := 52) (lo' := [(4, .int s0), (0, .ref 42), (1, .int x1), (2, .int x2), (3, .int x3)]) (st' := [.int 9, .int x3]) rfl ?_
    by_cases hc_6 : (9 : Int32) < x3
    · have h := Eq.mp (if_pos hc_6) h
      refine st_icmp (t := 55) (b := false) rfl (decide_eq_false (Int32.not_le.mpr hc_6)) rfl ?_
      refine vmWp.sub (lo' := [(0, .ref 42), (1, .int x1), (2, .int x2), (3, .int x3), (4, .int s0)]) ⟨rfl, rfl, rfl, rfl, rfl, trivial⟩ ?_
      exact tMO_adjust_55 hQ x1 x2 x3 s0 d h
    · have h := Eq.mp (if_neg hc_6) h
      refine st_icmp (t := 60) (b := true) rfl (decide_eq_true (Int32.not_lt.mp hc_6)) rfl ?_
      refine st_go 1 (pc' := 61) (lo' := [(4, .int s0), (0, .ref 42), (1, .int x1), (2, .int x2), (3, .int x3)]) (st' := [.int 0]) rfl ?_
      refine vmWp.sub (lo' := [(0, .ref 42), (1, .int x1), (2, .int x2), (3, .int x3), (4, .int s0)]) ⟨rfl, rfl, rfl, rfl, rfl, trivial⟩ ?_
      exact tMO_adjust_61 hQ x1 x2 x3 s0 0 d h
  · have h := Eq.mp (if_neg hc_5) h
    refine st_if (t := 55) (b := true) rfl (decide_eq_true hc_5) rfl ?_
    refine vmWp.sub (lo' := [(0, .ref 42), (1, .int x1), (2, .int x2), (3, .int x3), (4, .int s0)]) ⟨rfl, rfl, rfl, rfl, rfl, trivial⟩ ?_
    exact tMO_adjust_55 hQ x1 x2 x3 s0 d h
set_option maxRecDepth 100000 in
def MO_adjust_35 (x1 : Int32) (x2 : Int32) (x3 : Int32) (d : vmD) (Q : vmD → Prop) : Prop :=
  MO_adjust_40 x1 x2 x3 1 d Q
set_option maxRecDepth 100000 in
set_option maxHeartbeats 4000000 in
theorem tMO_adjust_35 {L : Nat} {e : vmD} {Qo : Option Value → vmW → Prop} {Q : vmD → Prop} (hQ : ∀ d, Q d → Qo none (wR L d e)) (x1 : Int32) (x2 : Int32) (x3 : Int32) (d : vmD) (h : MO_adjust_35 x1 x2 x3 d Q) : vmWp 393 35 [(0, .ref 42), (1, .int x1), (2, .int x2), (3, .int x3)] [] (wR L d e) Qo := by
  unfold MO_adjust_35 at h
  refine st_go 2 (pc' := 40) (lo' := [(0, .ref 42), (1, .int x1), (2, .int x2), (3, .int x3)]) (st' := [.int 1]) rfl ?_
  refine vmWp.sub (lo' := [(0, .ref 42), (1, .int x1), (2, .int x2), (3, .int x3)]) ⟨rfl, rfl, rfl, rfl, trivial⟩ ?_
  exact tMO_adjust_40 hQ x1 x2 x3 1 d h
set_option maxRecDepth 100000 in
def MO_adjust (d : vmD) (Q : vmD → Prop) : Prop :=
  bnd (gA d 65 7) fun y_1 =>
  bnd (gA d 65 6) fun y_2 =>
  bnd (y_1 &&& 15) fun x3_3 =>
  if (y_2 &&& 1) = 1 then
  (MO_adjust_35 y_1 y_2 x3_3 d Q)
  else
  (if (153 : Int32) < y_1 then
  (MO_adjust_35 y_1 y_2 x3_3 d Q)
  else
  (MO_adjust_40 y_1 y_2 x3_3 0 d Q))
set_option maxRecDepth 100000 in
set_option maxHeartbeats 4000000 in
theorem tMO_adjust {L : Nat} {e : vmD} {Qo : Option Value → vmW → Prop} {Q : vmD → Prop} (hQ : ∀ d, Q d → Qo none (wR L d e)) (d : vmD) (h : MO_adjust d Q) : vmWp 393 0 [(0, .ref 42)] [] (wR L d e) Qo := by
  unfold MO_adjust at h
  refine st_go 3 (pc' := 6) (lo' := [(0, .ref 42)]) (st' := [.int 7, .ref 65]) rfl ?_
  refine st_ialdR (o := 65) rfl rfl (show ixOk 7 8 by decide) rfl (fun y_1 hy_y_1 => ?_)
  have h := h y_1 hy_y_1
  refine st_go 4 (pc' := 14) (lo' := [(1, .int y_1), (0, .ref 42)]) (st' := [.int 6, .ref 65]) rfl ?_
  refine st_ialdR (o := 65) rfl rfl (show ixOk 6 8 by decide) rfl (fun y_2 hy_y_2 => ?_)
  have h := h y_2 hy_y_2
  refine st_go 5 (pc' := 21) (lo' := [(3, .int (y_1 &&& 15)), (2, .int y_2), (1, .int y_1), (0, .ref 42)]) (st' := []) rfl ?_
  refine st_locI (fun x3_3 hy_x3_3 => ?_)
  have h := h x3_3 hy_x3_3
  refine st_go 4 (pc' := 25) (lo' := [(3, .int x3_3), (2, .int y_2), (1, .int y_1), (0, .ref 42)]) (st' := [.int 1, .int (y_2 &&& 1)]) rfl ?_
  by_cases hc_4 : (y_2 &&& 1) = 1
  · have h := Eq.mp (if_pos hc_4) h
    refine st_icmp (t := 35) (b := true) rfl (decide_eq_true hc_4) rfl ?_
    refine vmWp.sub (lo' := [(0, .ref 42), (1, .int y_1), (2, .int y_2), (3, .int x3_3)]) ⟨rfl, rfl, rfl, rfl, trivial⟩ ?_
    exact tMO_adjust_35 hQ y_1 y_2 x3_3 d h
  · have h := Eq.mp (if_neg hc_4) h
    refine st_icmp (t := 28) (b := false) rfl (decide_eq_false hc_4) rfl ?_
    refine st_go 2 (pc' := 32) (lo' := [(3, .int x3_3), (2, .int y_2), (1, .int y_1), (0, .ref 42)]) (st' := [.int 153, .int y_1]) rfl ?_
    by_cases hc_27 : (153 : Int32) < y_1
    · have h := Eq.mp (if_pos hc_27) h
      refine st_icmp (t := 35) (b := false) rfl (decide_eq_false (Int32.not_le.mpr hc_27)) rfl ?_
      refine vmWp.sub (lo' := [(0, .ref 42), (1, .int y_1), (2, .int y_2), (3, .int x3_3)]) ⟨rfl, rfl, rfl, rfl, trivial⟩ ?_
      exact tMO_adjust_35 hQ y_1 y_2 x3_3 d h
    · have h := Eq.mp (if_neg hc_27) h
      refine st_icmp (t := 39) (b := true) rfl (decide_eq_true (Int32.not_lt.mp hc_27)) rfl ?_
      refine st_go 1 (pc' := 40) (lo' := [(3, .int x3_3), (2, .int y_2), (1, .int y_1), (0, .ref 42)]) (st' := [.int 0]) rfl ?_
      refine vmWp.sub (lo' := [(0, .ref 42), (1, .int y_1), (2, .int y_2), (3, .int x3_3)]) ⟨rfl, rfl, rfl, rfl, trivial⟩ ?_
      exact tMO_adjust_40 hQ y_1 y_2 x3_3 0 d h
set_option maxRecDepth 100000 in
def MO_doAlone (x1 : Int32) (d : vmD) (Q : vmD → Prop) : Prop :=
  bnd (gA d 65 7) fun y_1 =>
  bnd (gA d 65 6) fun y_2 =>
  if x1 = 0 then
  (MO_turned x1 y_1 d fun r_5 d_4 =>
  bnd (sA d_4 65 7 r_5) fun d_6 =>
  bnd (gA d_6 65 7) fun y_7 =>
  bnd (gA d_6 65 6) fun y_8 =>
  bnd (sA d_6 65 6 (((y_2 &&& 196) ||| (y_7 &&& 40)) ||| (y_8 &&& 1))) fun d_9 =>
  Q d_9)
  else
  if x1 = 1 then
  (MO_turned x1 y_1 d fun r_12 d_11 =>
  bnd (sA d_11 65 7 r_12) fun d_13 =>
  bnd (gA d_13 65 7) fun y_14 =>
  bnd (gA d_13 65 6) fun y_15 =>
  bnd (sA d_13 65 6 (((y_2 &&& 196) ||| (y_14 &&& 40)) ||| (y_15 &&& 1))) fun d_16 =>
  Q d_16)
  else
  if x1 = 2 then
  (MO_turned x1 y_1 d fun r_19 d_18 =>
  bnd (sA d_18 65 7 r_19) fun d_20 =>
  bnd (gA d_20 65 7) fun y_21 =>
  bnd (gA d_20 65 6) fun y_22 =>
  bnd (sA d_20 65 6 (((y_2 &&& 196) ||| (y_21 &&& 40)) ||| (y_22 &&& 1))) fun d_23 =>
  Q d_23)
  else
  if x1 = 3 then
  (MO_turned x1 y_1 d fun r_26 d_25 =>
  bnd (sA d_25 65 7 r_26) fun d_27 =>
  bnd (gA d_27 65 7) fun y_28 =>
  bnd (gA d_27 65 6) fun y_29 =>
  bnd (sA d_27 65 6 (((y_2 &&& 196) ||| (y_28 &&& 40)) ||| (y_29 &&& 1))) fun d_30 =>
  Q d_30)
  else
  if x1 = 4 then
  (MO_adjust d fun d_32 =>
  Q d_32)
  else
  if x1 = 5 then
  (bnd (sA d 65 7 (y_1 ^^^ 255)) fun d_34 =>
  bnd (gA d_34 65 7) fun y_35 =>
  bnd (sA d_34 65 6 (((y_2 &&& 197) ||| 18) ||| (y_35 &&& 40))) fun d_36 =>
  Q d_36)
  else
  if x1 = 6 then
  (bnd (sA d 65 6 (((y_2 &&& 196) ||| 1) ||| (y_1 &&& 40))) fun d_38 =>
  Q d_38)
  else
  (bnd (sA d 65 6 ((((y_2 &&& 196) ||| ((y_2 &&& 1) <<< ((4 : Int32) &&& 31))) ||| ((y_2 &&& 1) ^^^ 1)) ||| (y_1 &&& 40))) fun d_39 =>
  Q d_39)
set_option maxRecDepth 100000 in
set_option maxHeartbeats 4000000 in
theorem tMO_doAlone {L : Nat} {e : vmD} {Qo : Option Value → vmW → Prop} {Q : vmD → Prop} (hQ : ∀ d, Q d → Qo none (wR L d e)) (x1 : Int32) (d : vmD) (h : MO_doAlone x1 d Q) : vmWp 392 0 [(0, .ref 42), (1, .int x1)] [] (wR L d e) Qo := by
  unfold MO_doAlone at h
  refine st_go 3 (pc' := 6) (lo' := [(0, .ref 42), (1, .int x1)]) (st' := [.int 7, .ref 65]) rfl ?_
  refine st_ialdR (o := 65) rfl rfl (show ixOk 7 8 by decide) rfl (fun y_1 hy_y_1 => ?_)
  have h := h y_1 hy_y_1
  refine st_go 4 (pc' := 14) (lo' := [(2, .int y_1), (0, .ref 42), (1, .int x1)]) (st' := [.int 6, .ref 65]) rfl ?_
  refine st_ialdR (o := 65) rfl rfl (show ixOk 6 8 by decide) rfl (fun y_2 hy_y_2 => ?_)
  have h := h y_2 hy_y_2
  refine st_go 2 (pc' := 17) (lo' := [(3, .int y_2), (2, .int y_1), (0, .ref 42), (1, .int x1)]) (st' := [.int x1]) rfl ?_
  by_cases hc_3 : x1 = 0
  · have h := Eq.mp (if_pos hc_3) h
    refine st_tab (t := 60) rfl (by rw [hc_3]; rfl) ?_
    refine st_go 6 (pc' := 69) (lo' := [(3, .int y_2), (2, .int y_1), (0, .ref 42), (1, .int x1)]) (st' := [.int y_1, .int x1, .ref 42, .int 7, .ref 65]) rfl ?_
    refine st_calli (k' := 374) (as := [.ref 42, .int x1, .int y_1]) (rest := [.int 7, .ref 65]) (lo' := [(0, .ref 42), (1, .int x1), (2, .int y_1)]) (wf := fun d => wR L d e) rfl rfl rfl ?_
    refine tMO_turned (fun r_5 d_4 h => ⟨r_5, d_4, rfl, rfl, ?_⟩) x1 y_1 d h
    refine st_iastR (o := 65) rfl rfl (show ixOk 7 8 by decide) rfl (fun d_6 hy_d_6 => ?_)
    have h := h d_6 hy_d_6
    refine st_go 9 (pc' := 90) (lo' := [(3, .int y_2), (2, .int y_1), (0, .ref 42), (1, .int x1)]) (st' := [.int 7, .ref 65, .int (y_2 &&& 196), .int 6, .ref 65]) rfl ?_
    refine st_ialdR (o := 65) rfl rfl (show ixOk 7 8 by decide) rfl (fun y_7 hy_y_7 => ?_)
    have h := h y_7 hy_y_7
    refine st_go 6 (pc' := 101) (lo' := [(3, .int y_2), (2, .int y_1), (0, .ref 42), (1, .int x1)]) (st' := [.int 6, .ref 65, .int ((y_2 &&& 196) ||| (y_7 &&& 40)), .int 6, .ref 65]) rfl ?_
    refine st_ialdR (o := 65) rfl rfl (show ixOk 6 8 by decide) rfl (fun y_8 hy_y_8 => ?_)
    have h := h y_8 hy_y_8
    refine st_go 3 (pc' := 105) (lo' := [(3, .int y_2), (2, .int y_1), (0, .ref 42), (1, .int x1)]) (st' := [.int (((y_2 &&& 196) ||| (y_7 &&& 40)) ||| (y_8 &&& 1)), .int 6, .ref 65]) rfl ?_
    refine st_iastR (o := 65) rfl rfl (show ixOk 6 8 by decide) rfl (fun d_9 hy_d_9 => ?_)
    have h := h d_9 hy_d_9
    refine st_go 1 (pc' := 208) (lo' := [(3, .int y_2), (2, .int y_1), (0, .ref 42), (1, .int x1)]) (st' := []) rfl ?_
    exact st_retV rfl rfl (hQ _ h)
  · have h := Eq.mp (if_neg hc_3) h
    by_cases hc_10 : x1 = 1
    · have h := Eq.mp (if_pos hc_10) h
      refine st_tab (t := 60) rfl (by rw [hc_10]; rfl) ?_
      refine st_go 6 (pc' := 69) (lo' := [(3, .int y_2), (2, .int y_1), (0, .ref 42), (1, .int x1)]) (st' := [.int y_1, .int x1, .ref 42, .int 7, .ref 65]) rfl ?_
      refine st_calli (k' := 374) (as := [.ref 42, .int x1, .int y_1]) (rest := [.int 7, .ref 65]) (lo' := [(0, .ref 42), (1, .int x1), (2, .int y_1)]) (wf := fun d => wR L d e) rfl rfl rfl ?_
      refine tMO_turned (fun r_12 d_11 h => ⟨r_12, d_11, rfl, rfl, ?_⟩) x1 y_1 d h
      refine st_iastR (o := 65) rfl rfl (show ixOk 7 8 by decide) rfl (fun d_13 hy_d_13 => ?_)
      have h := h d_13 hy_d_13
      refine st_go 9 (pc' := 90) (lo' := [(3, .int y_2), (2, .int y_1), (0, .ref 42), (1, .int x1)]) (st' := [.int 7, .ref 65, .int (y_2 &&& 196), .int 6, .ref 65]) rfl ?_
      refine st_ialdR (o := 65) rfl rfl (show ixOk 7 8 by decide) rfl (fun y_14 hy_y_14 => ?_)
      have h := h y_14 hy_y_14
      refine st_go 6 (pc' := 101) (lo' := [(3, .int y_2), (2, .int y_1), (0, .ref 42), (1, .int x1)]) (st' := [.int 6, .ref 65, .int ((y_2 &&& 196) ||| (y_14 &&& 40)), .int 6, .ref 65]) rfl ?_
      refine st_ialdR (o := 65) rfl rfl (show ixOk 6 8 by decide) rfl (fun y_15 hy_y_15 => ?_)
      have h := h y_15 hy_y_15
      refine st_go 3 (pc' := 105) (lo' := [(3, .int y_2), (2, .int y_1), (0, .ref 42), (1, .int x1)]) (st' := [.int (((y_2 &&& 196) ||| (y_14 &&& 40)) ||| (y_15 &&& 1)), .int 6, .ref 65]) rfl ?_
      refine st_iastR (o := 65) rfl rfl (show ixOk 6 8 by decide) rfl (fun d_16 hy_d_16 => ?_)
      have h := h d_16 hy_d_16
      refine st_go 1 (pc' := 208) (lo' := [(3, .int y_2), (2, .int y_1), (0, .ref 42), (1, .int x1)]) (st' := []) rfl ?_
      exact st_retV rfl rfl (hQ _ h)
    · have h := Eq.mp (if_neg hc_10) h
      by_cases hc_17 : x1 = 2
      · have h := Eq.mp (if_pos hc_17) h
        refine st_tab (t := 60) rfl (by rw [hc_17]; rfl) ?_
        refine st_go 6 (pc' := 69) (lo' := [(3, .int y_2), (2, .int y_1), (0, .ref 42), (1, .int x1)]) (st' := [.int y_1, .int x1, .ref 42, .int 7, .ref 65]) rfl ?_
        refine st_calli (k' := 374) (as := [.ref 42, .int x1, .int y_1]) (rest := [.int 7, .ref 65]) (lo' := [(0, .ref 42), (1, .int x1), (2, .int y_1)]) (wf := fun d => wR L d e) rfl rfl rfl ?_
        refine tMO_turned (fun r_19 d_18 h => ⟨r_19, d_18, rfl, rfl, ?_⟩) x1 y_1 d h
        refine st_iastR (o := 65) rfl rfl (show ixOk 7 8 by decide) rfl (fun d_20 hy_d_20 => ?_)
        have h := h d_20 hy_d_20
        refine st_go 9 (pc' := 90) (lo' := [(3, .int y_2), (2, .int y_1), (0, .ref 42), (1, .int x1)]) (st' := [.int 7, .ref 65, .int (y_2 &&& 196), .int 6, .ref 65]) rfl ?_
        refine st_ialdR (o := 65) rfl rfl (show ixOk 7 8 by decide) rfl (fun y_21 hy_y_21 => ?_)
        have h := h y_21 hy_y_21
        refine st_go 6 (pc' := 101) (lo' := [(3, .int y_2), (2, .int y_1), (0, .ref 42), (1, .int x1)]) (st' := [.int 6, .ref 65, .int ((y_2 &&& 196) ||| (y_21 &&& 40)), .int 6, .ref 65]) rfl ?_
        refine st_ialdR (o := 65) rfl rfl (show ixOk 6 8 by decide) rfl (fun y_22 hy_y_22 => ?_)
        have h := h y_22 hy_y_22
        refine st_go 3 (pc' := 105) (lo' := [(3, .int y_2), (2, .int y_1), (0, .ref 42), (1, .int x1)]) (st' := [.int (((y_2 &&& 196) ||| (y_21 &&& 40)) ||| (y_22 &&& 1)), .int 6, .ref 65]) rfl ?_
        refine st_iastR (o := 65) rfl rfl (show ixOk 6 8 by decide) rfl (fun d_23 hy_d_23 => ?_)
        have h := h d_23 hy_d_23
        refine st_go 1 (pc' := 208) (lo' := [(3, .int y_2), (2, .int y_1), (0, .ref 42), (1, .int x1)]) (st' := []) rfl ?_
        exact st_retV rfl rfl (hQ _ h)
      · have h := Eq.mp (if_neg hc_17) h
        by_cases hc_24 : x1 = 3
        · have h := Eq.mp (if_pos hc_24) h
          refine st_tab (t := 60) rfl (by rw [hc_24]; rfl) ?_
          refine st_go 6 (pc' := 69) (lo' := [(3, .int y_2), (2, .int y_1), (0, .ref 42), (1, .int x1)]) (st' := [.int y_1, .int x1, .ref 42, .int 7, .ref 65]) rfl ?_
          refine st_calli (k' := 374) (as := [.ref 42, .int x1, .int y_1]) (rest := [.int 7, .ref 65]) (lo' := [(0, .ref 42), (1, .int x1), (2, .int y_1)]) (wf := fun d => wR L d e) rfl rfl rfl ?_
          refine tMO_turned (fun r_26 d_25 h => ⟨r_26, d_25, rfl, rfl, ?_⟩) x1 y_1 d h
          refine st_iastR (o := 65) rfl rfl (show ixOk 7 8 by decide) rfl (fun d_27 hy_d_27 => ?_)
          have h := h d_27 hy_d_27
          refine st_go 9 (pc' := 90) (lo' := [(3, .int y_2), (2, .int y_1), (0, .ref 42), (1, .int x1)]) (st' := [.int 7, .ref 65, .int (y_2 &&& 196), .int 6, .ref 65]) rfl ?_
          refine st_ialdR (o := 65) rfl rfl (show ixOk 7 8 by decide) rfl (fun y_28 hy_y_28 => ?_)
          have h := h y_28 hy_y_28
          refine st_go 6 (pc' := 101) (lo' := [(3, .int y_2), (2, .int y_1), (0, .ref 42), (1, .int x1)]) (st' := [.int 6, .ref 65, .int ((y_2 &&& 196) ||| (y_28 &&& 40)), .int 6, .ref 65]) rfl ?_
          refine st_ialdR (o := 65) rfl rfl (show ixOk 6 8 by decide) rfl (fun y_29 hy_y_29 => ?_)
          have h := h y_29 hy_y_29
          refine st_go 3 (pc' := 105) (lo' := [(3, .int y_2), (2, .int y_1), (0, .ref 42), (1, .int x1)]) (st' := [.int (((y_2 &&& 196) ||| (y_28 &&& 40)) ||| (y_29 &&& 1)), .int 6, .ref 65]) rfl ?_
          refine st_iastR (o := 65) rfl rfl (show ixOk 6 8 by decide) rfl (fun d_30 hy_d_30 => ?_)
          have h := h d_30 hy_d_30
          refine st_go 1 (pc' := 208) (lo' := [(3, .int y_2), (2, .int y_1), (0, .ref 42), (1, .int x1)]) (st' := []) rfl ?_
          exact st_retV rfl rfl (hQ _ h)
        · have h := Eq.mp (if_neg hc_24) h
          by_cases hc_31 : x1 = 4
          · have h := Eq.mp (if_pos hc_31) h
            refine st_tab (t := 109) rfl (by rw [hc_31]; rfl) ?_
            refine st_go 1 (pc' := 110) (lo' := [(3, .int y_2), (2, .int y_1), (0, .ref 42), (1, .int x1)]) (st' := [.ref 42]) rfl ?_
            refine st_callv (k' := 393) (as := [.ref 42]) (rest := []) (lo' := [(0, .ref 42)]) (wf := fun d => wR L d e) rfl rfl rfl ?_
            refine tMO_adjust (fun d_32 h => ⟨d_32, rfl, rfl, ?_⟩) d h
            refine st_go 1 (pc' := 208) (lo' := [(3, .int y_2), (2, .int y_1), (0, .ref 42), (1, .int x1)]) (st' := []) rfl ?_
            exact st_retV rfl rfl (hQ _ h)
          · have h := Eq.mp (if_neg hc_31) h
            by_cases hc_33 : x1 = 5
            · have h := Eq.mp (if_pos hc_33) h
              refine st_tab (t := 116) rfl (by rw [hc_33]; rfl) ?_
              refine st_go 6 (pc' := 127) (lo' := [(3, .int y_2), (2, .int y_1), (0, .ref 42), (1, .int x1)]) (st' := [.int (y_1 ^^^ 255), .int 7, .ref 65]) rfl ?_
              refine st_iastR (o := 65) rfl rfl (show ixOk 7 8 by decide) rfl (fun d_34 hy_d_34 => ?_)
              have h := h d_34 hy_d_34
              refine st_go 11 (pc' := 148) (lo' := [(3, .int y_2), (2, .int y_1), (0, .ref 42), (1, .int x1)]) (st' := [.int 7, .ref 65, .int ((y_2 &&& 197) ||| 18), .int 6, .ref 65]) rfl ?_
              refine st_ialdR (o := 65) rfl rfl (show ixOk 7 8 by decide) rfl (fun y_35 hy_y_35 => ?_)
              have h := h y_35 hy_y_35
              refine st_go 3 (pc' := 153) (lo' := [(3, .int y_2), (2, .int y_1), (0, .ref 42), (1, .int x1)]) (st' := [.int (((y_2 &&& 197) ||| 18) ||| (y_35 &&& 40)), .int 6, .ref 65]) rfl ?_
              refine st_iastR (o := 65) rfl rfl (show ixOk 6 8 by decide) rfl (fun d_36 hy_d_36 => ?_)
              have h := h d_36 hy_d_36
              refine st_go 1 (pc' := 208) (lo' := [(3, .int y_2), (2, .int y_1), (0, .ref 42), (1, .int x1)]) (st' := []) rfl ?_
              exact st_retV rfl rfl (hQ _ h)
            · have h := Eq.mp (if_neg hc_33) h
              by_cases hc_37 : x1 = 6
              · have h := Eq.mp (if_pos hc_37) h
                refine st_tab (t := 157) rfl (by rw [hc_37]; rfl) ?_
                refine st_go 12 (pc' := 175) (lo' := [(3, .int y_2), (2, .int y_1), (0, .ref 42), (1, .int x1)]) (st' := [.int (((y_2 &&& 196) ||| 1) ||| (y_1 &&& 40)), .int 6, .ref 65]) rfl ?_
                refine st_iastR (o := 65) rfl rfl (show ixOk 6 8 by decide) rfl (fun d_38 hy_d_38 => ?_)
                have h := h d_38 hy_d_38
                refine st_go 1 (pc' := 208) (lo' := [(3, .int y_2), (2, .int y_1), (0, .ref 42), (1, .int x1)]) (st' := []) rfl ?_
                exact st_retV rfl rfl (hQ _ h)
              · have h := Eq.mp (if_neg hc_37) h
                refine st_tab (t := 179) rfl (tab_def rfl (by decide) rfl (by
                  intro j hj hx
                  have hj : j < 7 := hj
                  rcases (j = 0 ∨ j = 1 ∨ j = 2 ∨ j = 3 ∨ j = 4 ∨ j = 5 ∨ j = 6 : Prop) |> fun _ => (show j = 0 ∨ j = 1 ∨ j = 2 ∨ j = 3 ∨ j = 4 ∨ j = 5 ∨ j = 6 by omega) with rfl | rfl | rfl | rfl | rfl | rfl | rfl <;> first | rfl | exact absurd hx hc_3 | exact absurd hx hc_10 | exact absurd hx hc_17 | exact absurd hx hc_24 | exact absurd hx hc_31 | exact absurd hx hc_33 | exact absurd hx hc_37)) ?_
                refine st_go 22 (pc' := 207) (lo' := [(3, .int y_2), (2, .int y_1), (0, .ref 42), (1, .int x1)]) (st' := [.int ((((y_2 &&& 196) ||| ((y_2 &&& 1) <<< ((4 : Int32) &&& 31))) ||| ((y_2 &&& 1) ^^^ 1)) ||| (y_1 &&& 40)), .int 6, .ref 65]) rfl ?_
                refine st_iastR (o := 65) rfl rfl (show ixOk 6 8 by decide) rfl (fun d_39 hy_d_39 => ?_)
                have h := h d_39 hy_d_39
                exact st_retV rfl rfl (hQ _ h)
set_option maxRecDepth 100000 in
def MO_doFirst_140 (s0 : Int32) (s1 : Int32) (s2 : Int32) (d : vmD) (Q : vmD → Prop) : Prop :=
  MO_setPair s2 ((s1 + s0) &&& 65535) d fun d_20 =>
  Q d_20
set_option maxRecDepth 100000 in
set_option maxHeartbeats 4000000 in
theorem tMO_doFirst_140 {L : Nat} {e : vmD} {Qo : Option Value → vmW → Prop} {Q : vmD → Prop} (hQ : ∀ d, Q d → Qo none (wR L d e)) (s0 : Int32) (s1 : Int32) (s2 : Int32) (d : vmD) (h : MO_doFirst_140 s0 s1 s2 d Q) : vmWp 387 140 [] [.int s0, .int s1, .int s2, .ref 42] (wR L d e) Qo := by
  unfold MO_doFirst_140 at h
  refine st_go 3 (pc' := 144) (lo' := []) (st' := [.int ((s1 + s0) &&& 65535), .int s2, .ref 42]) rfl ?_
  refine st_callv (k' := 381) (as := [.ref 42, .int s2, .int ((s1 + s0) &&& 65535)]) (rest := []) (lo' := [(0, .ref 42), (1, .int s2), (2, .int ((s1 + s0) &&& 65535))]) (wf := fun d => wR L d e) rfl rfl rfl ?_
  refine tMO_setPair (fun d_20 h => ⟨d_20, rfl, rfl, ?_⟩) s2 ((s1 + s0) &&& 65535) d h
  refine st_go 1 (pc' := 207) (lo' := []) (st' := []) rfl ?_
  exact st_retV rfl rfl (hQ _ h)
set_option maxRecDepth 100000 in
def MO_doFirst_26 (x1 : Int32) (x2 : Int32) (s0 : Int32) (d : vmD) (Q : vmD → Prop) : Prop :=
  if ((gF d 42 61) &&& 7) = 0 then
  (MO_doNear x1 d fun d_5 =>
  Q d_5)
  else
  if ((gF d 42 61) &&& 7) = 1 then
  (if s0 = 0 then
  (MO_wide (gF d 42 64) d fun r_9 d_8 =>
  MO_setPair x2 r_9 d_8 fun d_10 =>
  Q d_10)
  else
  (MO_pairAt x2 d fun r_12 d_11 =>
  MO_addPair r_12 d_11 fun d_13 =>
  Q d_13))
  else
  if ((gF d 42 61) &&& 7) = 2 then
  (MO_doLoad x1 d fun d_15 =>
  Q d_15)
  else
  if ((gF d 42 61) &&& 7) = 3 then
  (MO_pairAt x2 d fun r_18 d_17 =>
  if s0 = 0 then
  (MO_doFirst_140 1 r_18 x2 d_17 Q)
  else
  (MO_doFirst_140 (-1) r_18 x2 d_17 Q))
  else
  if ((gF d 42 61) &&& 7) = 4 then
  (MO_octetAt x1 d fun r_23 d_22 =>
  MO_stepUp r_23 0 d_22 fun r_25 d_24 =>
  MO_setOctet x1 r_25 d_24 fun d_26 =>
  Q d_26)
  else
  if ((gF d 42 61) &&& 7) = 5 then
  (MO_octetAt x1 d fun r_29 d_28 =>
  MO_stepUp r_29 1 d_28 fun r_31 d_30 =>
  MO_setOctet x1 r_31 d_30 fun d_32 =>
  Q d_32)
  else
  if ((gF d 42 61) &&& 7) = 6 then
  (MO_peek (gF d 42 64) d fun r_35 d_34 =>
  MO_setOctet x1 r_35 d_34 fun d_36 =>
  Q d_36)
  else
  (MO_doAlone x1 d fun d_37 =>
  Q d_37)
set_option maxRecDepth 100000 in
set_option maxHeartbeats 4000000 in
theorem tMO_doFirst_26 {L : Nat} {e : vmD} {Qo : Option Value → vmW → Prop} {Q : vmD → Prop} (hQ : ∀ d, Q d → Qo none (wR L d e)) (x1 : Int32) (x2 : Int32) (s0 : Int32) (d : vmD) (h : MO_doFirst_26 x1 x2 s0 d Q) : vmWp 387 26 [(0, .ref 42), (1, .int x1), (2, .int x2)] [.int s0] (wR L d e) Qo := by
  unfold MO_doFirst_26 at h
  refine st_go 5 (pc' := 34) (lo' := [(3, .int s0), (0, .ref 42), (1, .int x1), (2, .int x2)]) (st' := [.int ((gF d 42 61) &&& 7)]) rfl ?_
  by_cases hc_4 : ((gF d 42 61) &&& 7) = 0
  · have h := Eq.mp (if_pos hc_4) h
    refine st_tab (t := 76) rfl (by rw [hc_4]; rfl) ?_
    refine st_go 2 (pc' := 78) (lo' := [(3, .int s0), (0, .ref 42), (1, .int x1), (2, .int x2)]) (st' := [.int x1, .ref 42]) rfl ?_
    refine st_callv (k' := 389) (as := [.ref 42, .int x1]) (rest := []) (lo' := [(0, .ref 42), (1, .int x1)]) (wf := fun d => wR L d e) rfl rfl rfl ?_
    refine tMO_doNear (fun d_5 h => ⟨d_5, rfl, rfl, ?_⟩) x1 d h
    refine st_go 1 (pc' := 207) (lo' := [(3, .int s0), (0, .ref 42), (1, .int x1), (2, .int x2)]) (st' := []) rfl ?_
    exact st_retV rfl rfl (hQ _ h)
  · have h := Eq.mp (if_neg hc_4) h
    by_cases hc_6 : ((gF d 42 61) &&& 7) = 1
    · have h := Eq.mp (if_pos hc_6) h
      refine st_tab (t := 84) rfl (by rw [hc_6]; rfl) ?_
      refine st_go 1 (pc' := 85) (lo' := [(3, .int s0), (0, .ref 42), (1, .int x1), (2, .int x2)]) (st' := [.int s0]) rfl ?_
      by_cases hc_7 : s0 = 0
      · have h := Eq.mp (if_pos hc_7) h
        refine st_if (t := 100) (b := true) rfl (decide_eq_true hc_7) rfl ?_
        refine st_go 5 (pc' := 107) (lo' := [(3, .int s0), (0, .ref 42), (1, .int x1), (2, .int x2)]) (st' := [.int (gF d 42 64), .ref 42, .int x2, .ref 42]) rfl ?_
        refine st_calli (k' := 321) (as := [.ref 42, .int (gF d 42 64)]) (rest := [.int x2, .ref 42]) (lo' := [(0, .ref 42), (1, .int (gF d 42 64))]) (wf := fun d => wR L d e) rfl rfl rfl ?_
        refine tMO_wide (fun r_9 d_8 h => ⟨r_9, d_8, rfl, rfl, ?_⟩) (gF d 42 64) d h
        refine st_callv (k' := 381) (as := [.ref 42, .int x2, .int r_9]) (rest := []) (lo' := [(0, .ref 42), (1, .int x2), (2, .int r_9)]) (wf := fun d => wR L d e) rfl rfl rfl ?_
        refine tMO_setPair (fun d_10 h => ⟨d_10, rfl, rfl, ?_⟩) x2 r_9 d_8 h
        refine st_go 1 (pc' := 207) (lo' := [(3, .int s0), (0, .ref 42), (1, .int x1), (2, .int x2)]) (st' := []) rfl ?_
        exact st_retV rfl rfl (hQ _ h)
      · have h := Eq.mp (if_neg hc_7) h
        refine st_if (t := 88) (b := false) rfl (decide_eq_false hc_7) rfl ?_
        refine st_go 3 (pc' := 91) (lo' := [(3, .int s0), (0, .ref 42), (1, .int x1), (2, .int x2)]) (st' := [.int x2, .ref 42, .ref 42]) rfl ?_
        refine st_calli (k' := 380) (as := [.ref 42, .int x2]) (rest := [.ref 42]) (lo' := [(0, .ref 42), (1, .int x2)]) (wf := fun d => wR L d e) rfl rfl rfl ?_
        refine tMO_pairAt (fun r_12 d_11 h => ⟨r_12, d_11, rfl, rfl, ?_⟩) x2 d h
        refine st_callv (k' := 390) (as := [.ref 42, .int r_12]) (rest := []) (lo' := [(0, .ref 42), (1, .int r_12)]) (wf := fun d => wR L d e) rfl rfl rfl ?_
        refine tMO_addPair (fun d_13 h => ⟨d_13, rfl, rfl, ?_⟩) r_12 d_11 h
        refine st_go 1 (pc' := 207) (lo' := [(3, .int s0), (0, .ref 42), (1, .int x1), (2, .int x2)]) (st' := []) rfl ?_
        exact st_retV rfl rfl (hQ _ h)
    · have h := Eq.mp (if_neg hc_6) h
      by_cases hc_14 : ((gF d 42 61) &&& 7) = 2
      · have h := Eq.mp (if_pos hc_14) h
        refine st_tab (t := 116) rfl (by rw [hc_14]; rfl) ?_
        refine st_go 2 (pc' := 118) (lo' := [(3, .int s0), (0, .ref 42), (1, .int x1), (2, .int x2)]) (st' := [.int x1, .ref 42]) rfl ?_
        refine st_callv (k' := 391) (as := [.ref 42, .int x1]) (rest := []) (lo' := [(0, .ref 42), (1, .int x1)]) (wf := fun d => wR L d e) rfl rfl rfl ?_
        refine tMO_doLoad (fun d_15 h => ⟨d_15, rfl, rfl, ?_⟩) x1 d h
        refine st_go 1 (pc' := 207) (lo' := [(3, .int s0), (0, .ref 42), (1, .int x1), (2, .int x2)]) (st' := []) rfl ?_
        exact st_retV rfl rfl (hQ _ h)
      · have h := Eq.mp (if_neg hc_14) h
        by_cases hc_16 : ((gF d 42 61) &&& 7) = 3
        · have h := Eq.mp (if_pos hc_16) h
          refine st_tab (t := 124) rfl (by rw [hc_16]; rfl) ?_
          refine st_go 4 (pc' := 128) (lo' := [(3, .int s0), (0, .ref 42), (1, .int x1), (2, .int x2)]) (st' := [.int x2, .ref 42, .int x2, .ref 42]) rfl ?_
          refine st_calli (k' := 380) (as := [.ref 42, .int x2]) (rest := [.int x2, .ref 42]) (lo' := [(0, .ref 42), (1, .int x2)]) (wf := fun d => wR L d e) rfl rfl rfl ?_
          refine tMO_pairAt (fun r_18 d_17 h => ⟨r_18, d_17, rfl, rfl, ?_⟩) x2 d h
          refine st_go 1 (pc' := 132) (lo' := [(3, .int s0), (0, .ref 42), (1, .int x1), (2, .int x2)]) (st' := [.int s0, .int r_18, .int x2, .ref 42]) rfl ?_
          by_cases hc_19 : s0 = 0
          · have h := Eq.mp (if_pos hc_19) h
            refine st_if (t := 139) (b := true) rfl (decide_eq_true hc_19) rfl ?_
            refine st_go 1 (pc' := 140) (lo' := [(3, .int s0), (0, .ref 42), (1, .int x1), (2, .int x2)]) (st' := [.int 1, .int r_18, .int x2, .ref 42]) rfl ?_
            refine vmWp.sub (lo' := []) trivial ?_
            exact tMO_doFirst_140 hQ 1 r_18 x2 d_17 h
          · have h := Eq.mp (if_neg hc_19) h
            refine st_if (t := 135) (b := false) rfl (decide_eq_false hc_19) rfl ?_
            refine st_go 2 (pc' := 140) (lo' := [(3, .int s0), (0, .ref 42), (1, .int x1), (2, .int x2)]) (st' := [.int (-1), .int r_18, .int x2, .ref 42]) rfl ?_
            refine vmWp.sub (lo' := []) trivial ?_
            exact tMO_doFirst_140 hQ (-1) r_18 x2 d_17 h
        · have h := Eq.mp (if_neg hc_16) h
          by_cases hc_21 : ((gF d 42 61) &&& 7) = 4
          · have h := Eq.mp (if_pos hc_21) h
            refine st_tab (t := 150) rfl (by rw [hc_21]; rfl) ?_
            refine st_go 5 (pc' := 155) (lo' := [(3, .int s0), (0, .ref 42), (1, .int x1), (2, .int x2)]) (st' := [.int x1, .ref 42, .ref 42, .int x1, .ref 42]) rfl ?_
            refine st_calli (k' := 378) (as := [.ref 42, .int x1]) (rest := [.ref 42, .int x1, .ref 42]) (lo' := [(0, .ref 42), (1, .int x1)]) (wf := fun d => wR L d e) rfl rfl rfl ?_
            refine tMO_octetAt (fun r_23 d_22 h => ⟨r_23, d_22, rfl, rfl, ?_⟩) x1 d h
            refine st_go 1 (pc' := 159) (lo' := [(3, .int s0), (0, .ref 42), (1, .int x1), (2, .int x2)]) (st' := [.int 0, .int r_23, .ref 42, .int x1, .ref 42]) rfl ?_
            refine st_calli (k' := 373) (as := [.ref 42, .int r_23, .int 0]) (rest := [.int x1, .ref 42]) (lo' := [(0, .ref 42), (1, .int r_23), (2, .int 0)]) (wf := fun d => wR L d e) rfl rfl rfl ?_
            refine tMO_stepUp (fun r_25 d_24 h => ⟨r_25, d_24, rfl, rfl, ?_⟩) r_23 0 d_22 h
            refine st_callv (k' := 379) (as := [.ref 42, .int x1, .int r_25]) (rest := []) (lo' := [(0, .ref 42), (1, .int x1), (2, .int r_25)]) (wf := fun d => wR L d e) rfl rfl rfl ?_
            refine tMO_setOctet (fun d_26 h => ⟨d_26, rfl, rfl, ?_⟩) x1 r_25 d_24 h
            refine st_go 1 (pc' := 207) (lo' := [(3, .int s0), (0, .ref 42), (1, .int x1), (2, .int x2)]) (st' := []) rfl ?_
            exact st_retV rfl rfl (hQ _ h)
          · have h := Eq.mp (if_neg hc_21) h
            by_cases hc_27 : ((gF d 42 61) &&& 7) = 5
            · have h := Eq.mp (if_pos hc_27) h
              refine st_tab (t := 168) rfl (by rw [hc_27]; rfl) ?_
              refine st_go 5 (pc' := 173) (lo' := [(3, .int s0), (0, .ref 42), (1, .int x1), (2, .int x2)]) (st' := [.int x1, .ref 42, .ref 42, .int x1, .ref 42]) rfl ?_
              refine st_calli (k' := 378) (as := [.ref 42, .int x1]) (rest := [.ref 42, .int x1, .ref 42]) (lo' := [(0, .ref 42), (1, .int x1)]) (wf := fun d => wR L d e) rfl rfl rfl ?_
              refine tMO_octetAt (fun r_29 d_28 h => ⟨r_29, d_28, rfl, rfl, ?_⟩) x1 d h
              refine st_go 1 (pc' := 177) (lo' := [(3, .int s0), (0, .ref 42), (1, .int x1), (2, .int x2)]) (st' := [.int 1, .int r_29, .ref 42, .int x1, .ref 42]) rfl ?_
              refine st_calli (k' := 373) (as := [.ref 42, .int r_29, .int 1]) (rest := [.int x1, .ref 42]) (lo' := [(0, .ref 42), (1, .int r_29), (2, .int 1)]) (wf := fun d => wR L d e) rfl rfl rfl ?_
              refine tMO_stepUp (fun r_31 d_30 h => ⟨r_31, d_30, rfl, rfl, ?_⟩) r_29 1 d_28 h
              refine st_callv (k' := 379) (as := [.ref 42, .int x1, .int r_31]) (rest := []) (lo' := [(0, .ref 42), (1, .int x1), (2, .int r_31)]) (wf := fun d => wR L d e) rfl rfl rfl ?_
              refine tMO_setOctet (fun d_32 h => ⟨d_32, rfl, rfl, ?_⟩) x1 r_31 d_30 h
              refine st_go 1 (pc' := 207) (lo' := [(3, .int s0), (0, .ref 42), (1, .int x1), (2, .int x2)]) (st' := []) rfl ?_
              exact st_retV rfl rfl (hQ _ h)
            · have h := Eq.mp (if_neg hc_27) h
              by_cases hc_33 : ((gF d 42 61) &&& 7) = 6
              · have h := Eq.mp (if_pos hc_33) h
                refine st_tab (t := 186) rfl (by rw [hc_33]; rfl) ?_
                refine st_go 5 (pc' := 193) (lo' := [(3, .int s0), (0, .ref 42), (1, .int x1), (2, .int x2)]) (st' := [.int (gF d 42 64), .ref 42, .int x1, .ref 42]) rfl ?_
                refine st_calli (k' := 320) (as := [.ref 42, .int (gF d 42 64)]) (rest := [.int x1, .ref 42]) (lo' := [(0, .ref 42), (1, .int (gF d 42 64))]) (wf := fun d => wR L d e) rfl rfl rfl ?_
                refine tMO_peek (fun r_35 d_34 h => ⟨r_35, d_34, rfl, rfl, ?_⟩) (gF d 42 64) d h
                refine st_callv (k' := 379) (as := [.ref 42, .int x1, .int r_35]) (rest := []) (lo' := [(0, .ref 42), (1, .int x1), (2, .int r_35)]) (wf := fun d => wR L d e) rfl rfl rfl ?_
                refine tMO_setOctet (fun d_36 h => ⟨d_36, rfl, rfl, ?_⟩) x1 r_35 d_34 h
                refine st_go 1 (pc' := 207) (lo' := [(3, .int s0), (0, .ref 42), (1, .int x1), (2, .int x2)]) (st' := []) rfl ?_
                exact st_retV rfl rfl (hQ _ h)
              · have h := Eq.mp (if_neg hc_33) h
                refine st_tab (t := 202) rfl (tab_def rfl (by decide) rfl (by
                  intro j hj hx
                  have hj : j < 7 := hj
                  rcases (j = 0 ∨ j = 1 ∨ j = 2 ∨ j = 3 ∨ j = 4 ∨ j = 5 ∨ j = 6 : Prop) |> fun _ => (show j = 0 ∨ j = 1 ∨ j = 2 ∨ j = 3 ∨ j = 4 ∨ j = 5 ∨ j = 6 by omega) with rfl | rfl | rfl | rfl | rfl | rfl | rfl <;> first | rfl | exact absurd hx hc_4 | exact absurd hx hc_6 | exact absurd hx hc_14 | exact absurd hx hc_16 | exact absurd hx hc_21 | exact absurd hx hc_27 | exact absurd hx hc_33)) ?_
                refine st_go 2 (pc' := 204) (lo' := [(3, .int s0), (0, .ref 42), (1, .int x1), (2, .int x2)]) (st' := [.int x1, .ref 42]) rfl ?_
                refine st_callv (k' := 392) (as := [.ref 42, .int x1]) (rest := []) (lo' := [(0, .ref 42), (1, .int x1)]) (wf := fun d => wR L d e) rfl rfl rfl ?_
                refine tMO_doAlone (fun d_37 h => ⟨d_37, rfl, rfl, ?_⟩) x1 d h
                exact st_retV rfl rfl (hQ _ h)
set_option maxRecDepth 100000 in
def MO_doFirst (d : vmD) (Q : vmD → Prop) : Prop :=
  bnd (((gF d 42 61) >>> ((3 : Int32) &&& 31)) &&& 7) fun x1_1 =>
  bnd (x1_1 >>> ((1 : Int32) &&& 31)) fun x2_2 =>
  if (x1_1 &&& 1) = 1 then
  (MO_doFirst_26 x1_1 x2_2 1 d Q)
  else
  (MO_doFirst_26 x1_1 x2_2 0 d Q)
set_option maxRecDepth 100000 in
set_option maxHeartbeats 4000000 in
theorem tMO_doFirst {L : Nat} {e : vmD} {Qo : Option Value → vmW → Prop} {Q : vmD → Prop} (hQ : ∀ d, Q d → Qo none (wR L d e)) (d : vmD) (h : MO_doFirst d Q) : vmWp 387 0 [(0, .ref 42)] [] (wR L d e) Qo := by
  unfold MO_doFirst at h
  refine st_go 7 (pc' := 10) (lo' := [(1, .int (((gF d 42 61) >>> ((3 : Int32) &&& 31)) &&& 7)), (0, .ref 42)]) (st' := []) rfl ?_
  refine st_locI (fun x1_1 hy_x1_1 => ?_)
  have h := h x1_1 hy_x1_1
  refine st_go 4 (pc' := 14) (lo' := [(2, .int (x1_1 >>> ((1 : Int32) &&& 31))), (1, .int x1_1), (0, .ref 42)]) (st' := []) rfl ?_
  refine st_locI (fun x2_2 hy_x2_2 => ?_)
  have h := h x2_2 hy_x2_2
  refine st_go 4 (pc' := 18) (lo' := [(2, .int x2_2), (1, .int x1_1), (0, .ref 42)]) (st' := [.int 1, .int (x1_1 &&& 1)]) rfl ?_
  by_cases hc_3 : (x1_1 &&& 1) = 1
  · have h := Eq.mp (if_pos hc_3) h
    refine st_icmp (t := 21) (b := false) rfl (decide_eq_false (fun z => z hc_3)) rfl ?_
    refine st_go 2 (pc' := 26) (lo' := [(2, .int x2_2), (1, .int x1_1), (0, .ref 42)]) (st' := [.int 1]) rfl ?_
    refine vmWp.sub (lo' := [(0, .ref 42), (1, .int x1_1), (2, .int x2_2)]) ⟨rfl, rfl, rfl, trivial⟩ ?_
    exact tMO_doFirst_26 hQ x1_1 x2_2 1 d h
  · have h := Eq.mp (if_neg hc_3) h
    refine st_icmp (t := 25) (b := true) rfl (decide_eq_true hc_3) rfl ?_
    refine st_go 1 (pc' := 26) (lo' := [(2, .int x2_2), (1, .int x1_1), (0, .ref 42)]) (st' := [.int 0]) rfl ?_
    refine vmWp.sub (lo' := [(0, .ref 42), (1, .int x1_1), (2, .int x2_2)]) ⟨rfl, rfl, rfl, trivial⟩ ?_
    exact tMO_doFirst_26 hQ x1_1 x2_2 0 d h
set_option maxRecDepth 100000 in
def MO_reckon (x1 : Int32) (x2 : Int32) (d : vmD) (Q : vmD → Prop) : Prop :=
  bnd (gA d 65 7) fun y_1 =>
  if x1 = 0 then
  (MO_sum y_1 x2 0 d fun r_4 d_3 =>
  bnd (sA d_3 65 7 r_4) fun d_5 =>
  Q d_5)
  else
  if x1 = 1 then
  (bnd (gA d 65 6) fun y_7 =>
  MO_sum y_1 x2 (y_7 &&& 1) d fun r_9 d_8 =>
  bnd (sA d_8 65 7 r_9) fun d_10 =>
  Q d_10)
  else
  if x1 = 2 then
  (MO_difference y_1 x2 0 d fun r_13 d_12 =>
  bnd (sA d_12 65 7 r_13) fun d_14 =>
  Q d_14)
  else
  if x1 = 3 then
  (bnd (gA d 65 6) fun y_16 =>
  MO_difference y_1 x2 (y_16 &&& 1) d fun r_18 d_17 =>
  bnd (sA d_17 65 7 r_18) fun d_19 =>
  Q d_19)
  else
  if x1 = 4 then
  (bnd (sA d 65 7 (y_1 &&& x2)) fun d_21 =>
  bnd (gA d_21 65 7) fun y_22 =>
  MO_signs y_22 d_21 fun r_24 d_23 =>
  bnd (gA d_23 65 7) fun y_25 =>
  MO_parity y_25 d_23 fun r_27 d_26 =>
  bnd (sA d_26 65 6 ((r_24 ||| r_27) ||| 16)) fun d_28 =>
  Q d_28)
  else
  if x1 = 5 then
  (bnd (sA d 65 7 (y_1 ^^^ x2)) fun d_30 =>
  bnd (gA d_30 65 7) fun y_31 =>
  MO_signs y_31 d_30 fun r_33 d_32 =>
  bnd (gA d_32 65 7) fun y_34 =>
  MO_parity y_34 d_32 fun r_36 d_35 =>
  bnd (sA d_35 65 6 (r_33 ||| r_36)) fun d_37 =>
  Q d_37)
  else
  if x1 = 6 then
  (bnd (sA d 65 7 (y_1 ||| x2)) fun d_39 =>
  bnd (gA d_39 65 7) fun y_40 =>
  MO_signs y_40 d_39 fun r_42 d_41 =>
  bnd (gA d_41 65 7) fun y_43 =>
  MO_parity y_43 d_41 fun r_45 d_44 =>
  bnd (sA d_44 65 6 (r_42 ||| r_45)) fun d_46 =>
  Q d_46)
  else
  (MO_difference y_1 x2 0 d fun r_48 d_47 =>
  bnd (gA d_47 65 6) fun y_49 =>
  bnd (sA d_47 65 6 ((y_49 &&& (-41)) ||| (x2 &&& 40))) fun d_50 =>
  Q d_50)
set_option maxRecDepth 100000 in
set_option maxHeartbeats 4000000 in
theorem tMO_reckon {L : Nat} {e : vmD} {Qo : Option Value → vmW → Prop} {Q : vmD → Prop} (hQ : ∀ d, Q d → Qo none (wR L d e)) (x1 : Int32) (x2 : Int32) (d : vmD) (h : MO_reckon x1 x2 d Q) : vmWp 372 0 [(0, .ref 42), (1, .int x1), (2, .int x2)] [] (wR L d e) Qo := by
  unfold MO_reckon at h
  refine st_go 3 (pc' := 6) (lo' := [(0, .ref 42), (1, .int x1), (2, .int x2)]) (st' := [.int 7, .ref 65]) rfl ?_
  refine st_ialdR (o := 65) rfl rfl (show ixOk 7 8 by decide) rfl (fun y_1 hy_y_1 => ?_)
  have h := h y_1 hy_y_1
  refine st_go 2 (pc' := 9) (lo' := [(3, .int y_1), (0, .ref 42), (1, .int x1), (2, .int x2)]) (st' := [.int x1]) rfl ?_
  by_cases hc_2 : x1 = 0
  · have h := Eq.mp (if_pos hc_2) h
    refine st_tab (t := 52) rfl (by rw [hc_2]; rfl) ?_
    refine st_go 7 (pc' := 62) (lo' := [(3, .int y_1), (0, .ref 42), (1, .int x1), (2, .int x2)]) (st' := [.int 0, .int x2, .int y_1, .ref 42, .int 7, .ref 65]) rfl ?_
    refine st_calli (k' := 370) (as := [.ref 42, .int y_1, .int x2, .int 0]) (rest := [.int 7, .ref 65]) (lo' := [(0, .ref 42), (1, .int y_1), (2, .int x2), (3, .int 0)]) (wf := fun d => wR L d e) rfl rfl rfl ?_
    refine tMO_sum (fun r_4 d_3 h => ⟨r_4, d_3, rfl, rfl, ?_⟩) y_1 x2 0 d h
    refine st_iastR (o := 65) rfl rfl (show ixOk 7 8 by decide) rfl (fun d_5 hy_d_5 => ?_)
    have h := h d_5 hy_d_5
    refine st_go 1 (pc' := 298) (lo' := [(3, .int y_1), (0, .ref 42), (1, .int x1), (2, .int x2)]) (st' := []) rfl ?_
    exact st_retV rfl rfl (hQ _ h)
  · have h := Eq.mp (if_neg hc_2) h
    by_cases hc_6 : x1 = 1
    · have h := Eq.mp (if_pos hc_6) h
      refine st_tab (t := 69) rfl (by rw [hc_6]; rfl) ?_
      refine st_go 9 (pc' := 84) (lo' := [(3, .int y_1), (0, .ref 42), (1, .int x1), (2, .int x2)]) (st' := [.int 6, .ref 65, .int x2, .int y_1, .ref 42, .int 7, .ref 65]) rfl ?_
      refine st_ialdR (o := 65) rfl rfl (show ixOk 6 8 by decide) rfl (fun y_7 hy_y_7 => ?_)
      have h := h y_7 hy_y_7
      refine st_go 2 (pc' := 87) (lo' := [(3, .int y_1), (0, .ref 42), (1, .int x1), (2, .int x2)]) (st' := [.int (y_7 &&& 1), .int x2, .int y_1, .ref 42, .int 7, .ref 65]) rfl ?_
      refine st_calli (k' := 370) (as := [.ref 42, .int y_1, .int x2, .int (y_7 &&& 1)]) (rest := [.int 7, .ref 65]) (lo' := [(0, .ref 42), (1, .int y_1), (2, .int x2), (3, .int (y_7 &&& 1))]) (wf := fun d => wR L d e) rfl rfl rfl ?_
      refine tMO_sum (fun r_9 d_8 h => ⟨r_9, d_8, rfl, rfl, ?_⟩) y_1 x2 (y_7 &&& 1) d h
      refine st_iastR (o := 65) rfl rfl (show ixOk 7 8 by decide) rfl (fun d_10 hy_d_10 => ?_)
      have h := h d_10 hy_d_10
      refine st_go 1 (pc' := 298) (lo' := [(3, .int y_1), (0, .ref 42), (1, .int x1), (2, .int x2)]) (st' := []) rfl ?_
      exact st_retV rfl rfl (hQ _ h)
    · have h := Eq.mp (if_neg hc_6) h
      by_cases hc_11 : x1 = 2
      · have h := Eq.mp (if_pos hc_11) h
        refine st_tab (t := 94) rfl (by rw [hc_11]; rfl) ?_
        refine st_go 7 (pc' := 104) (lo' := [(3, .int y_1), (0, .ref 42), (1, .int x1), (2, .int x2)]) (st' := [.int 0, .int x2, .int y_1, .ref 42, .int 7, .ref 65]) rfl ?_
        refine st_calli (k' := 371) (as := [.ref 42, .int y_1, .int x2, .int 0]) (rest := [.int 7, .ref 65]) (lo' := [(0, .ref 42), (1, .int y_1), (2, .int x2), (3, .int 0)]) (wf := fun d => wR L d e) rfl rfl rfl ?_
        refine tMO_difference (fun r_13 d_12 h => ⟨r_13, d_12, rfl, rfl, ?_⟩) y_1 x2 0 d h
        refine st_iastR (o := 65) rfl rfl (show ixOk 7 8 by decide) rfl (fun d_14 hy_d_14 => ?_)
        have h := h d_14 hy_d_14
        refine st_go 1 (pc' := 298) (lo' := [(3, .int y_1), (0, .ref 42), (1, .int x1), (2, .int x2)]) (st' := []) rfl ?_
        exact st_retV rfl rfl (hQ _ h)
      · have h := Eq.mp (if_neg hc_11) h
        by_cases hc_15 : x1 = 3
        · have h := Eq.mp (if_pos hc_15) h
          refine st_tab (t := 111) rfl (by rw [hc_15]; rfl) ?_
          refine st_go 9 (pc' := 126) (lo' := [(3, .int y_1), (0, .ref 42), (1, .int x1), (2, .int x2)]) (st' := [.int 6, .ref 65, .int x2, .int y_1, .ref 42, .int 7, .ref 65]) rfl ?_
          refine st_ialdR (o := 65) rfl rfl (show ixOk 6 8 by decide) rfl (fun y_16 hy_y_16 => ?_)
          have h := h y_16 hy_y_16
          refine st_go 2 (pc' := 129) (lo' := [(3, .int y_1), (0, .ref 42), (1, .int x1), (2, .int x2)]) (st' := [.int (y_16 &&& 1), .int x2, .int y_1, .ref 42, .int 7, .ref 65]) rfl ?_
          refine st_calli (k' := 371) (as := [.ref 42, .int y_1, .int x2, .int (y_16 &&& 1)]) (rest := [.int 7, .ref 65]) (lo' := [(0, .ref 42), (1, .int y_1), (2, .int x2), (3, .int (y_16 &&& 1))]) (wf := fun d => wR L d e) rfl rfl rfl ?_
          refine tMO_difference (fun r_18 d_17 h => ⟨r_18, d_17, rfl, rfl, ?_⟩) y_1 x2 (y_16 &&& 1) d h
          refine st_iastR (o := 65) rfl rfl (show ixOk 7 8 by decide) rfl (fun d_19 hy_d_19 => ?_)
          have h := h d_19 hy_d_19
          refine st_go 1 (pc' := 298) (lo' := [(3, .int y_1), (0, .ref 42), (1, .int x1), (2, .int x2)]) (st' := []) rfl ?_
          exact st_retV rfl rfl (hQ _ h)
        · have h := Eq.mp (if_neg hc_15) h
          by_cases hc_20 : x1 = 4
          · have h := Eq.mp (if_pos hc_20) h
            refine st_tab (t := 136) rfl (by rw [hc_20]; rfl) ?_
            refine st_go 6 (pc' := 145) (lo' := [(3, .int y_1), (0, .ref 42), (1, .int x1), (2, .int x2)]) (st' := [.int (y_1 &&& x2), .int 7, .ref 65]) rfl ?_
            refine st_iastR (o := 65) rfl rfl (show ixOk 7 8 by decide) rfl (fun d_21 hy_d_21 => ?_)
            have h := h d_21 hy_d_21
            refine st_go 7 (pc' := 159) (lo' := [(3, .int y_1), (0, .ref 42), (1, .int x1), (2, .int x2)]) (st' := [.int 7, .ref 65, .ref 42, .int 6, .ref 65]) rfl ?_
            refine st_ialdR (o := 65) rfl rfl (show ixOk 7 8 by decide) rfl (fun y_22 hy_y_22 => ?_)
            have h := h y_22 hy_y_22
            refine st_calli (k' := 369) (as := [.ref 42, .int y_22]) (rest := [.int 6, .ref 65]) (lo' := [(0, .ref 42), (1, .int y_22)]) (wf := fun d => wR L d e) rfl rfl rfl ?_
            refine tMO_signs (fun r_24 d_23 h => ⟨r_24, d_23, rfl, rfl, ?_⟩) y_22 d_21 h
            refine st_go 4 (pc' := 170) (lo' := [(3, .int y_1), (0, .ref 42), (1, .int x1), (2, .int x2)]) (st' := [.int 7, .ref 65, .ref 42, .int r_24, .int 6, .ref 65]) rfl ?_
            refine st_ialdR (o := 65) rfl rfl (show ixOk 7 8 by decide) rfl (fun y_25 hy_y_25 => ?_)
            have h := h y_25 hy_y_25
            refine st_calli (k' := 368) (as := [.ref 42, .int y_25]) (rest := [.int r_24, .int 6, .ref 65]) (lo' := [(0, .ref 42), (1, .int y_25)]) (wf := fun d => wR L d e) rfl rfl rfl ?_
            refine tMO_parity (fun r_27 d_26 h => ⟨r_27, d_26, rfl, rfl, ?_⟩) y_25 d_23 h
            refine st_go 3 (pc' := 178) (lo' := [(3, .int y_1), (0, .ref 42), (1, .int x1), (2, .int x2)]) (st' := [.int ((r_24 ||| r_27) ||| 16), .int 6, .ref 65]) rfl ?_
            refine st_iastR (o := 65) rfl rfl (show ixOk 6 8 by decide) rfl (fun d_28 hy_d_28 => ?_)
            have h := h d_28 hy_d_28
            refine st_go 1 (pc' := 298) (lo' := [(3, .int y_1), (0, .ref 42), (1, .int x1), (2, .int x2)]) (st' := []) rfl ?_
            exact st_retV rfl rfl (hQ _ h)
          · have h := Eq.mp (if_neg hc_20) h
            by_cases hc_29 : x1 = 5
            · have h := Eq.mp (if_pos hc_29) h
              refine st_tab (t := 182) rfl (by rw [hc_29]; rfl) ?_
              refine st_go 6 (pc' := 191) (lo' := [(3, .int y_1), (0, .ref 42), (1, .int x1), (2, .int x2)]) (st' := [.int (y_1 ^^^ x2), .int 7, .ref 65]) rfl ?_
              refine st_iastR (o := 65) rfl rfl (show ixOk 7 8 by decide) rfl (fun d_30 hy_d_30 => ?_)
              have h := h d_30 hy_d_30
              refine st_go 7 (pc' := 205) (lo' := [(3, .int y_1), (0, .ref 42), (1, .int x1), (2, .int x2)]) (st' := [.int 7, .ref 65, .ref 42, .int 6, .ref 65]) rfl ?_
              refine st_ialdR (o := 65) rfl rfl (show ixOk 7 8 by decide) rfl (fun y_31 hy_y_31 => ?_)
              have h := h y_31 hy_y_31
              refine st_calli (k' := 369) (as := [.ref 42, .int y_31]) (rest := [.int 6, .ref 65]) (lo' := [(0, .ref 42), (1, .int y_31)]) (wf := fun d => wR L d e) rfl rfl rfl ?_
              refine tMO_signs (fun r_33 d_32 h => ⟨r_33, d_32, rfl, rfl, ?_⟩) y_31 d_30 h
              refine st_go 4 (pc' := 216) (lo' := [(3, .int y_1), (0, .ref 42), (1, .int x1), (2, .int x2)]) (st' := [.int 7, .ref 65, .ref 42, .int r_33, .int 6, .ref 65]) rfl ?_
              refine st_ialdR (o := 65) rfl rfl (show ixOk 7 8 by decide) rfl (fun y_34 hy_y_34 => ?_)
              have h := h y_34 hy_y_34
              refine st_calli (k' := 368) (as := [.ref 42, .int y_34]) (rest := [.int r_33, .int 6, .ref 65]) (lo' := [(0, .ref 42), (1, .int y_34)]) (wf := fun d => wR L d e) rfl rfl rfl ?_
              refine tMO_parity (fun r_36 d_35 h => ⟨r_36, d_35, rfl, rfl, ?_⟩) y_34 d_32 h
              refine st_go 1 (pc' := 221) (lo' := [(3, .int y_1), (0, .ref 42), (1, .int x1), (2, .int x2)]) (st' := [.int (r_33 ||| r_36), .int 6, .ref 65]) rfl ?_
              refine st_iastR (o := 65) rfl rfl (show ixOk 6 8 by decide) rfl (fun d_37 hy_d_37 => ?_)
              have h := h d_37 hy_d_37
              refine st_go 1 (pc' := 298) (lo' := [(3, .int y_1), (0, .ref 42), (1, .int x1), (2, .int x2)]) (st' := []) rfl ?_
              exact st_retV rfl rfl (hQ _ h)
            · have h := Eq.mp (if_neg hc_29) h
              by_cases hc_38 : x1 = 6
              · have h := Eq.mp (if_pos hc_38) h
                refine st_tab (t := 225) rfl (by rw [hc_38]; rfl) ?_
                refine st_go 6 (pc' := 234) (lo' := [(3, .int y_1), (0, .ref 42), (1, .int x1), (2, .int x2)]) (st' := [.int (y_1 ||| x2), .int 7, .ref 65]) rfl ?_
                refine st_iastR (o := 65) rfl rfl (show ixOk 7 8 by decide) rfl (fun d_39 hy_d_39 => ?_)
                have h := h d_39 hy_d_39
                refine st_go 7 (pc' := 248) (lo' := [(3, .int y_1), (0, .ref 42), (1, .int x1), (2, .int x2)]) (st' := [.int 7, .ref 65, .ref 42, .int 6, .ref 65]) rfl ?_
                refine st_ialdR (o := 65) rfl rfl (show ixOk 7 8 by decide) rfl (fun y_40 hy_y_40 => ?_)
                have h := h y_40 hy_y_40
                refine st_calli (k' := 369) (as := [.ref 42, .int y_40]) (rest := [.int 6, .ref 65]) (lo' := [(0, .ref 42), (1, .int y_40)]) (wf := fun d => wR L d e) rfl rfl rfl ?_
                refine tMO_signs (fun r_42 d_41 h => ⟨r_42, d_41, rfl, rfl, ?_⟩) y_40 d_39 h
                refine st_go 4 (pc' := 259) (lo' := [(3, .int y_1), (0, .ref 42), (1, .int x1), (2, .int x2)]) (st' := [.int 7, .ref 65, .ref 42, .int r_42, .int 6, .ref 65]) rfl ?_
                refine st_ialdR (o := 65) rfl rfl (show ixOk 7 8 by decide) rfl (fun y_43 hy_y_43 => ?_)
                have h := h y_43 hy_y_43
                refine st_calli (k' := 368) (as := [.ref 42, .int y_43]) (rest := [.int r_42, .int 6, .ref 65]) (lo' := [(0, .ref 42), (1, .int y_43)]) (wf := fun d => wR L d e) rfl rfl rfl ?_
                refine tMO_parity (fun r_45 d_44 h => ⟨r_45, d_44, rfl, rfl, ?_⟩) y_43 d_41 h
                refine st_go 1 (pc' := 264) (lo' := [(3, .int y_1), (0, .ref 42), (1, .int x1), (2, .int x2)]) (st' := [.int (r_42 ||| r_45), .int 6, .ref 65]) rfl ?_
                refine st_iastR (o := 65) rfl rfl (show ixOk 6 8 by decide) rfl (fun d_46 hy_d_46 => ?_)
                have h := h d_46 hy_d_46
                refine st_go 1 (pc' := 298) (lo' := [(3, .int y_1), (0, .ref 42), (1, .int x1), (2, .int x2)]) (st' := []) rfl ?_
                exact st_retV rfl rfl (hQ _ h)
              · have h := Eq.mp (if_neg hc_38) h
                refine st_tab (t := 268) rfl (tab_def rfl (by decide) rfl (by
                  intro j hj hx
                  have hj : j < 7 := hj
                  rcases (j = 0 ∨ j = 1 ∨ j = 2 ∨ j = 3 ∨ j = 4 ∨ j = 5 ∨ j = 6 : Prop) |> fun _ => (show j = 0 ∨ j = 1 ∨ j = 2 ∨ j = 3 ∨ j = 4 ∨ j = 5 ∨ j = 6 by omega) with rfl | rfl | rfl | rfl | rfl | rfl | rfl <;> first | rfl | exact absurd hx hc_2 | exact absurd hx hc_6 | exact absurd hx hc_11 | exact absurd hx hc_15 | exact absurd hx hc_20 | exact absurd hx hc_29 | exact absurd hx hc_38)) ?_
                refine st_go 4 (pc' := 272) (lo' := [(3, .int y_1), (0, .ref 42), (1, .int x1), (2, .int x2)]) (st' := [.int 0, .int x2, .int y_1, .ref 42]) rfl ?_
                refine st_calli (k' := 371) (as := [.ref 42, .int y_1, .int x2, .int 0]) (rest := []) (lo' := [(0, .ref 42), (1, .int y_1), (2, .int x2), (3, .int 0)]) (wf := fun d => wR L d e) rfl rfl rfl ?_
                refine tMO_difference (fun r_48 d_47 h => ⟨r_48, d_47, rfl, rfl, ?_⟩) y_1 x2 0 d h
                refine st_go 7 (pc' := 288) (lo' := [(3, .int y_1), (0, .ref 42), (1, .int x1), (2, .int x2)]) (st' := [.int 6, .ref 65, .int 6, .ref 65]) rfl ?_
                refine st_ialdR (o := 65) rfl rfl (show ixOk 6 8 by decide) rfl (fun y_49 hy_y_49 => ?_)
                have h := h y_49 hy_y_49
                refine st_go 6 (pc' := 297) (lo' := [(3, .int y_1), (0, .ref 42), (1, .int x1), (2, .int x2)]) (st' := [.int ((y_49 &&& (-41)) ||| (x2 &&& 40)), .int 6, .ref 65]) rfl ?_
                refine st_iastR (o := 65) rfl rfl (show ixOk 6 8 by decide) rfl (fun d_50 hy_d_50 => ?_)
                have h := h d_50 hy_d_50
                exact st_retV rfl rfl (hQ _ h)
set_option maxRecDepth 100000 in
def MO_doReturns_71 (Q : vmD → Prop) : Nat → Int32 → vmD → Prop
  | 0, _, _ => False
  | n + 1, x3, d => if (5 : Int32) < x3 then
  (Q d)
  else
  (MO_exchange x3 d fun d_14 =>
  bnd (x3 + 1) fun x3_15 =>
  (MO_doReturns_71 Q n) x3_15 d_14)
set_option maxRecDepth 100000 in
set_option maxHeartbeats 4000000 in
theorem tMO_doReturns_71 {L : Nat} {e : vmD} {Qo : Option Value → vmW → Prop} {Q : vmD → Prop} (hQ : ∀ d, Q d → Qo none (wR L d e)) : ∀ (n : Nat) (x3 : Int32) (d : vmD), MO_doReturns_71 Q n x3 d → vmWp 395 71 [(0, .ref 42), (3, .int x3)] [] (wR L d e) Qo := by
  intro n
  induction n with
  | zero => intro x3 d h; exact h.elim
  | succ n ih =>
    intro x3 d h
    unfold MO_doReturns_71 at h
    refine st_go 2 (pc' := 73) (lo' := [(0, .ref 42), (3, .int x3)]) (st' := [.int 5, .int x3]) rfl ?_
    by_cases hc_13 : (5 : Int32) < x3
    · have h := Eq.mp (if_pos hc_13) h
      refine st_icmp (t := 87) (b := true) rfl (decide_eq_true hc_13) rfl ?_
      refine st_go 1 (pc' := 114) (lo' := [(0, .ref 42), (3, .int x3)]) (st' := []) rfl ?_
      exact st_retV rfl rfl (hQ _ h)
    · have h := Eq.mp (if_neg hc_13) h
      refine st_icmp (t := 76) (b := false) rfl (decide_eq_false hc_13) rfl ?_
      refine st_go 2 (pc' := 78) (lo' := [(0, .ref 42), (3, .int x3)]) (st' := [.int x3, .ref 42]) rfl ?_
      refine st_callv (k' := 388) (as := [.ref 42, .int x3]) (rest := []) (lo' := [(0, .ref 42), (1, .int x3)]) (wf := fun d => wR L d e) rfl rfl rfl ?_
      refine tMO_exchange (fun d_14 h => ⟨d_14, rfl, rfl, ?_⟩) x3 d h
      refine st_go 1 (pc' := 84) (lo' := [(3, .int (x3 + 1)), (0, .ref 42)]) (st' := []) rfl ?_
      refine st_locI (fun x3_15 hy_x3_15 => ?_)
      have h := h x3_15 hy_x3_15
      refine st_go 1 (pc' := 71) (lo' := [(3, .int x3_15), (0, .ref 42)]) (st' := []) rfl ?_
      refine vmWp.sub (lo' := [(0, .ref 42), (3, .int x3_15)]) ⟨rfl, rfl, trivial⟩ ?_
      exact ih x3_15 d_14 h
set_option maxRecDepth 100000 in
def MO_doReturns (x1 : Int32) (x2 : Int32) (d : vmD) (Q : vmD → Prop) : Prop :=
  if x2 = 0 then
  (MO_popTwo d fun r_3 d_2 =>
  if x1 = 3 then
  (bnd (sA d_2 65 7 (r_3 >>> ((8 : Int32) &&& 31))) fun d_5 =>
  bnd (sA d_5 65 6 (r_3 &&& 255)) fun d_6 =>
  Q d_6)
  else
  (MO_setPair x1 r_3 d_2 fun d_7 =>
  Q d_7))
  else
  (if x1 = 0 then
  (MO_popTwo d fun r_10 d_9 =>
  bnd (sF d_9 42 76 r_10) fun d_11 =>
  Q d_11)
  else
  (if x1 = 1 then
  (∃ m71, MO_doReturns_71 Q m71 0 d)
  else
  (if x1 = 2 then
  (MO_base d fun r_18 d_17 =>
  bnd (sF d_17 42 76 r_18) fun d_19 =>
  Q d_19)
  else
  (MO_base d fun r_21 d_20 =>
  bnd (sF d_20 42 75 r_21) fun d_22 =>
  Q d_22))))
set_option maxRecDepth 100000 in
set_option maxHeartbeats 4000000 in
theorem tMO_doReturns {L : Nat} {e : vmD} {Qo : Option Value → vmW → Prop} {Q : vmD → Prop} (hQ : ∀ d, Q d → Qo none (wR L d e)) (x1 : Int32) (x2 : Int32) (d : vmD) (h : MO_doReturns x1 x2 d Q) : vmWp 395 0 [(0, .ref 42), (1, .int x1), (2, .int x2)] [] (wR L d e) Qo := by
  unfold MO_doReturns at h
  refine st_go 1 (pc' := 1) (lo' := [(0, .ref 42), (1, .int x1), (2, .int x2)]) (st' := [.int x2]) rfl ?_
  by_cases hc_1 : x2 = 0
  · have h := Eq.mp (if_pos hc_1) h
    refine st_if (t := 4) (b := false) rfl (decide_eq_false (fun z => z hc_1)) rfl ?_
    refine st_go 1 (pc' := 5) (lo' := [(0, .ref 42), (1, .int x1), (2, .int x2)]) (st' := [.ref 42]) rfl ?_
    refine st_calli (k' := 365) (as := [.ref 42]) (rest := []) (lo' := [(0, .ref 42)]) (wf := fun d => wR L d e) rfl rfl rfl ?_
    refine tMO_popTwo (fun r_3 d_2 h => ⟨r_3, d_2, rfl, rfl, ?_⟩) d h
    refine st_go 3 (pc' := 11) (lo' := [(3, .int r_3), (0, .ref 42), (1, .int x1), (2, .int x2)]) (st' := [.int 3, .int x1]) rfl ?_
    by_cases hc_4 : x1 = 3
    · have h := Eq.mp (if_pos hc_4) h
      refine st_icmp (t := 14) (b := false) rfl (decide_eq_false (fun z => z hc_4)) rfl ?_
      refine st_go 6 (pc' := 24) (lo' := [(3, .int r_3), (0, .ref 42), (1, .int x1), (2, .int x2)]) (st' := [.int (r_3 >>> ((8 : Int32) &&& 31)), .int 7, .ref 65]) rfl ?_
      refine st_iastR (o := 65) rfl rfl (show ixOk 7 8 by decide) rfl (fun d_5 hy_d_5 => ?_)
      have h := h d_5 hy_d_5
      refine st_go 6 (pc' := 36) (lo' := [(3, .int r_3), (0, .ref 42), (1, .int x1), (2, .int x2)]) (st' := [.int (r_3 &&& 255), .int 6, .ref 65]) rfl ?_
      refine st_iastR (o := 65) rfl rfl (show ixOk 6 8 by decide) rfl (fun d_6 hy_d_6 => ?_)
      have h := h d_6 hy_d_6
      refine st_go 2 (pc' := 114) (lo' := [(3, .int r_3), (0, .ref 42), (1, .int x1), (2, .int x2)]) (st' := []) rfl ?_
      exact st_retV rfl rfl (hQ _ h)
    · have h := Eq.mp (if_neg hc_4) h
      refine st_icmp (t := 40) (b := true) rfl (decide_eq_true hc_4) rfl ?_
      refine st_go 3 (pc' := 43) (lo' := [(3, .int r_3), (0, .ref 42), (1, .int x1), (2, .int x2)]) (st' := [.int r_3, .int x1, .ref 42]) rfl ?_
      refine st_callv (k' := 381) (as := [.ref 42, .int x1, .int r_3]) (rest := []) (lo' := [(0, .ref 42), (1, .int x1), (2, .int r_3)]) (wf := fun d => wR L d e) rfl rfl rfl ?_
      refine tMO_setPair (fun d_7 h => ⟨d_7, rfl, rfl, ?_⟩) x1 r_3 d_2 h
      refine st_go 1 (pc' := 114) (lo' := [(3, .int r_3), (0, .ref 42), (1, .int x1), (2, .int x2)]) (st' := []) rfl ?_
      exact st_retV rfl rfl (hQ _ h)
  · have h := Eq.mp (if_neg hc_1) h
    refine st_if (t := 49) (b := true) rfl (decide_eq_true hc_1) rfl ?_
    refine st_go 1 (pc' := 50) (lo' := [(0, .ref 42), (1, .int x1), (2, .int x2)]) (st' := [.int x1]) rfl ?_
    by_cases hc_8 : x1 = 0
    · have h := Eq.mp (if_pos hc_8) h
      refine st_if (t := 53) (b := false) rfl (decide_eq_false (fun z => z hc_8)) rfl ?_
      refine st_go 2 (pc' := 55) (lo' := [(0, .ref 42), (1, .int x1), (2, .int x2)]) (st' := [.ref 42, .ref 42]) rfl ?_
      refine st_calli (k' := 365) (as := [.ref 42]) (rest := [.ref 42]) (lo' := [(0, .ref 42)]) (wf := fun d => wR L d e) rfl rfl rfl ?_
      refine tMO_popTwo (fun r_10 d_9 h => ⟨r_10, d_9, rfl, rfl, ?_⟩) d h
      refine st_putIR (o := 42) (f := 76) rfl rfl rfl rfl rfl (fun d_11 hy_d_11 => ?_)
      have h := h d_11 hy_d_11
      refine st_go 1 (pc' := 114) (lo' := [(0, .ref 42), (1, .int x1), (2, .int x2)]) (st' := []) rfl ?_
      exact st_retV rfl rfl (hQ _ h)
    · have h := Eq.mp (if_neg hc_8) h
      refine st_if (t := 64) (b := true) rfl (decide_eq_true hc_8) rfl ?_
      refine st_go 2 (pc' := 66) (lo' := [(0, .ref 42), (1, .int x1), (2, .int x2)]) (st' := [.int 1, .int x1]) rfl ?_
      by_cases hc_12 : x1 = 1
      · have h := Eq.mp (if_pos hc_12) h
        refine st_icmp (t := 69) (b := false) rfl (decide_eq_false (fun z => z hc_12)) rfl ?_
        refine st_go 2 (pc' := 71) (lo' := [(3, .int 0), (0, .ref 42), (1, .int x1), (2, .int x2)]) (st' := []) rfl ?_
        obtain ⟨m71, h⟩ := h
        refine vmWp.sub (lo' := [(0, .ref 42), (3, .int 0)]) ⟨rfl, rfl, trivial⟩ ?_
        exact tMO_doReturns_71 hQ m71 0 d h
      · have h := Eq.mp (if_neg hc_12) h
        refine st_icmp (t := 90) (b := true) rfl (decide_eq_true hc_12) rfl ?_
        refine st_go 2 (pc' := 92) (lo' := [(0, .ref 42), (1, .int x1), (2, .int x2)]) (st' := [.int 2, .int x1]) rfl ?_
        by_cases hc_16 : x1 = 2
        · have h := Eq.mp (if_pos hc_16) h
          refine st_icmp (t := 95) (b := false) rfl (decide_eq_false (fun z => z hc_16)) rfl ?_
          refine st_go 2 (pc' := 97) (lo' := [(0, .ref 42), (1, .int x1), (2, .int x2)]) (st' := [.ref 42, .ref 42]) rfl ?_
          refine st_calli (k' := 375) (as := [.ref 42]) (rest := [.ref 42]) (lo' := [(0, .ref 42)]) (wf := fun d => wR L d e) rfl rfl rfl ?_
          refine tMO_base (fun r_18 d_17 h => ⟨r_18, d_17, rfl, rfl, ?_⟩) d h
          refine st_putIR (o := 42) (f := 76) rfl rfl rfl rfl rfl (fun d_19 hy_d_19 => ?_)
          have h := h d_19 hy_d_19
          refine st_go 1 (pc' := 114) (lo' := [(0, .ref 42), (1, .int x1), (2, .int x2)]) (st' := []) rfl ?_
          exact st_retV rfl rfl (hQ _ h)
        · have h := Eq.mp (if_neg hc_16) h
          refine st_icmp (t := 106) (b := true) rfl (decide_eq_true hc_16) rfl ?_
          refine st_go 2 (pc' := 108) (lo' := [(0, .ref 42), (1, .int x1), (2, .int x2)]) (st' := [.ref 42, .ref 42]) rfl ?_
          refine st_calli (k' := 375) (as := [.ref 42]) (rest := [.ref 42]) (lo' := [(0, .ref 42)]) (wf := fun d => wR L d e) rfl rfl rfl ?_
          refine tMO_base (fun r_21 d_20 h => ⟨r_21, d_20, rfl, rfl, ?_⟩) d h
          refine st_putIR (o := 42) (f := 75) rfl rfl rfl rfl rfl (fun d_22 hy_d_22 => ?_)
          have h := h d_22 hy_d_22
          exact st_retV rfl rfl (hQ _ h)
set_option maxRecDepth 100000 in
def MO_doThird (x1 : Int32) (d : vmD) (Q : vmD → Prop) : Prop :=
  if x1 = 0 then
  (MO_wide (gF d 42 64) d fun r_3 d_2 =>
  bnd (sF d_2 42 76 r_3) fun d_4 =>
  Q d_4)
  else
  if x1 = 2 then
  (MO_peek (gF d 42 64) d fun r_7 d_6 =>
  bnd (gA d_6 65 7) fun y_8 =>
  MO_outPort r_7 y_8 d_6 fun d_9 =>
  Q d_9)
  else
  if x1 = 3 then
  (MO_peek (gF d 42 64) d fun r_12 d_11 =>
  ixOk r_12 256 ∧
  bnd (gA d_11 68 r_12.toNatClampNeg) fun y_14 =>
  bnd (sA d_11 65 7 y_14) fun d_15 =>
  Q d_15)
  else
  if x1 = 4 then
  (MO_wide (gF d 42 75) d fun r_18 d_17 =>
  MO_base d_17 fun r_20 d_19 =>
  MO_store (gF d_19 42 75) r_20 d_19 fun d_21 =>
  MO_store ((gF d_21 42 75) + 1) (r_20 >>> ((8 : Int32) &&& 31)) d_21 fun d_22 =>
  MO_setBase r_18 d_22 fun d_23 =>
  Q d_23)
  else
  if x1 = 5 then
  (MO_two 2 d fun r_26 d_25 =>
  MO_two 4 d_25 fun r_28 d_27 =>
  MO_setTwo 2 r_28 d_27 fun d_29 =>
  MO_setTwo 4 r_26 d_29 fun d_30 =>
  Q d_30)
  else
  if x1 = 6 then
  (bnd (sF d 42 77 0) fun d_32 =>
  bnd (sF d_32 42 78 0) fun d_33 =>
  Q d_33)
  else
  (bnd (sF d 42 77 1) fun d_34 =>
  bnd (sF d_34 42 78 1) fun d_35 =>
  bnd (sF d_35 42 85 1) fun d_36 =>
  Q d_36)
set_option maxRecDepth 100000 in
set_option maxHeartbeats 4000000 in
theorem tMO_doThird {L : Nat} {e : vmD} {Qo : Option Value → vmW → Prop} {Q : vmD → Prop} (hQ : ∀ d, Q d → Qo none (wR L d e)) (x1 : Int32) (d : vmD) (h : MO_doThird x1 d Q) : vmWp 396 0 [(0, .ref 42), (1, .int x1)] [] (wR L d e) Qo := by
  unfold MO_doThird at h
  refine st_go 1 (pc' := 1) (lo' := [(0, .ref 42), (1, .int x1)]) (st' := [.int x1]) rfl ?_
  by_cases hc_1 : x1 = 0
  · have h := Eq.mp (if_pos hc_1) h
    refine st_tab (t := 44) rfl (by rw [hc_1]; rfl) ?_
    refine st_go 4 (pc' := 50) (lo' := [(0, .ref 42), (1, .int x1)]) (st' := [.int (gF d 42 64), .ref 42, .ref 42]) rfl ?_
    refine st_calli (k' := 321) (as := [.ref 42, .int (gF d 42 64)]) (rest := [.ref 42]) (lo' := [(0, .ref 42), (1, .int (gF d 42 64))]) (wf := fun d => wR L d e) rfl rfl rfl ?_
    refine tMO_wide (fun r_3 d_2 h => ⟨r_3, d_2, rfl, rfl, ?_⟩) (gF d 42 64) d h
    refine st_putIR (o := 42) (f := 76) rfl rfl rfl rfl rfl (fun d_4 hy_d_4 => ?_)
    have h := h d_4 hy_d_4
    refine st_go 1 (pc' := 204) (lo' := [(0, .ref 42), (1, .int x1)]) (st' := []) rfl ?_
    exact st_retV rfl rfl (hQ _ h)
  · have h := Eq.mp (if_neg hc_1) h
    by_cases hc_5 : x1 = 2
    · have h := Eq.mp (if_pos hc_5) h
      refine st_tab (t := 59) rfl (by rw [hc_5]; rfl) ?_
      refine st_go 4 (pc' := 65) (lo' := [(0, .ref 42), (1, .int x1)]) (st' := [.int (gF d 42 64), .ref 42, .ref 42]) rfl ?_
      refine st_calli (k' := 320) (as := [.ref 42, .int (gF d 42 64)]) (rest := [.ref 42]) (lo' := [(0, .ref 42), (1, .int (gF d 42 64))]) (wf := fun d => wR L d e) rfl rfl rfl ?_
      refine tMO_peek (fun r_7 d_6 h => ⟨r_7, d_6, rfl, rfl, ?_⟩) (gF d 42 64) d h
      refine st_go 3 (pc' := 74) (lo' := [(0, .ref 42), (1, .int x1)]) (st' := [.int 7, .ref 65, .int r_7, .ref 42]) rfl ?_
      refine st_ialdR (o := 65) rfl rfl (show ixOk 7 8 by decide) rfl (fun y_8 hy_y_8 => ?_)
      have h := h y_8 hy_y_8
      refine st_callv (k' := 366) (as := [.ref 42, .int r_7, .int y_8]) (rest := []) (lo' := [(0, .ref 42), (1, .int r_7), (2, .int y_8)]) (wf := fun d => wR L d e) rfl rfl rfl ?_
      refine tMO_outPort (fun d_9 h => ⟨d_9, rfl, rfl, ?_⟩) r_7 y_8 d_6 h
      refine st_go 1 (pc' := 204) (lo' := [(0, .ref 42), (1, .int x1)]) (st' := []) rfl ?_
      exact st_retV rfl rfl (hQ _ h)
    · have h := Eq.mp (if_neg hc_5) h
      by_cases hc_10 : x1 = 3
      · have h := Eq.mp (if_pos hc_10) h
        refine st_tab (t := 81) rfl (by rw [hc_10]; rfl) ?_
        refine st_go 8 (pc' := 96) (lo' := [(0, .ref 42), (1, .int x1)]) (st' := [.int (gF d 42 64), .ref 42, .ref 68, .int 7, .ref 65]) rfl ?_
        refine st_calli (k' := 320) (as := [.ref 42, .int (gF d 42 64)]) (rest := [.ref 68, .int 7, .ref 65]) (lo' := [(0, .ref 42), (1, .int (gF d 42 64))]) (wf := fun d => wR L d e) rfl rfl rfl ?_
        refine tMO_peek (fun r_12 d_11 h => ⟨r_12, d_11, rfl, rfl, ?_⟩) (gF d 42 64) d h
        obtain ⟨hj_13, h⟩ := h
        refine st_ialdR (o := 68) rfl rfl hj_13 rfl (fun y_14 hy_y_14 => ?_)
        have h := h y_14 hy_y_14
        refine st_iastR (o := 65) rfl rfl (show ixOk 7 8 by decide) rfl (fun d_15 hy_d_15 => ?_)
        have h := h d_15 hy_d_15
        refine st_go 1 (pc' := 204) (lo' := [(0, .ref 42), (1, .int x1)]) (st' := []) rfl ?_
        exact st_retV rfl rfl (hQ _ h)
      · have h := Eq.mp (if_neg hc_10) h
        by_cases hc_16 : x1 = 4
        · have h := Eq.mp (if_pos hc_16) h
          refine st_tab (t := 104) rfl (by rw [hc_16]; rfl) ?_
          refine st_go 3 (pc' := 109) (lo' := [(0, .ref 42), (1, .int x1)]) (st' := [.int (gF d 42 75), .ref 42]) rfl ?_
          refine st_calli (k' := 321) (as := [.ref 42, .int (gF d 42 75)]) (rest := []) (lo' := [(0, .ref 42), (1, .int (gF d 42 75))]) (wf := fun d => wR L d e) rfl rfl rfl ?_
          refine tMO_wide (fun r_18 d_17 h => ⟨r_18, d_17, rfl, rfl, ?_⟩) (gF d 42 75) d h
          refine st_go 2 (pc' := 114) (lo' := [(2, .int r_18), (0, .ref 42), (1, .int x1)]) (st' := [.ref 42]) rfl ?_
          refine st_calli (k' := 375) (as := [.ref 42]) (rest := []) (lo' := [(0, .ref 42)]) (wf := fun d => wR L d e) rfl rfl rfl ?_
          refine tMO_base (fun r_20 d_19 h => ⟨r_20, d_19, rfl, rfl, ?_⟩) d_17 h
          refine st_go 5 (pc' := 124) (lo' := [(3, .int r_20), (2, .int r_18), (0, .ref 42), (1, .int x1)]) (st' := [.int r_20, .int (gF d_19 42 75), .ref 42]) rfl ?_
          refine st_callv (k' := 363) (as := [.ref 42, .int (gF d_19 42 75), .int r_20]) (rest := []) (lo' := [(0, .ref 42), (1, .int (gF d_19 42 75)), (2, .int r_20)]) (wf := fun d => wR L d e) rfl rfl rfl ?_
          refine tMO_store (fun d_21 h => ⟨d_21, rfl, rfl, ?_⟩) (gF d_19 42 75) r_20 d_19 h
          refine st_go 8 (pc' := 138) (lo' := [(3, .int r_20), (2, .int r_18), (0, .ref 42), (1, .int x1)]) (st' := [.int (r_20 >>> ((8 : Int32) &&& 31)), .int ((gF d_21 42 75) + 1), .ref 42]) rfl ?_
          refine st_callv (k' := 363) (as := [.ref 42, .int ((gF d_21 42 75) + 1), .int (r_20 >>> ((8 : Int32) &&& 31))]) (rest := []) (lo' := [(0, .ref 42), (1, .int ((gF d_21 42 75) + 1)), (2, .int (r_20 >>> ((8 : Int32) &&& 31)))]) (wf := fun d => wR L d e) rfl rfl rfl ?_
          refine tMO_store (fun d_22 h => ⟨d_22, rfl, rfl, ?_⟩) ((gF d_21 42 75) + 1) (r_20 >>> ((8 : Int32) &&& 31)) d_21 h
          refine st_go 2 (pc' := 143) (lo' := [(3, .int r_20), (2, .int r_18), (0, .ref 42), (1, .int x1)]) (st' := [.int r_18, .ref 42]) rfl ?_
          refine st_callv (k' := 376) (as := [.ref 42, .int r_18]) (rest := []) (lo' := [(0, .ref 42), (1, .int r_18)]) (wf := fun d => wR L d e) rfl rfl rfl ?_
          refine tMO_setBase (fun d_23 h => ⟨d_23, rfl, rfl, ?_⟩) r_18 d_22 h
          refine st_go 1 (pc' := 204) (lo' := [(3, .int r_20), (2, .int r_18), (0, .ref 42), (1, .int x1)]) (st' := []) rfl ?_
          exact st_retV rfl rfl (hQ _ h)
        · have h := Eq.mp (if_neg hc_16) h
          by_cases hc_24 : x1 = 5
          · have h := Eq.mp (if_pos hc_24) h
            refine st_tab (t := 149) rfl (by rw [hc_24]; rfl) ?_
            refine st_go 2 (pc' := 151) (lo' := [(0, .ref 42), (1, .int x1)]) (st' := [.int 2, .ref 42]) rfl ?_
            refine st_calli (k' := 354) (as := [.ref 42, .int 2]) (rest := []) (lo' := [(0, .ref 42), (1, .int 2)]) (wf := fun d => wR L d e) rfl rfl rfl ?_
            refine tMO_two (fun r_26 d_25 h => ⟨r_26, d_25, rfl, rfl, ?_⟩) 2 d h
            refine st_go 5 (pc' := 160) (lo' := [(4, .int r_26), (0, .ref 42), (1, .int x1)]) (st' := [.int 4, .ref 42, .int 2, .ref 42]) rfl ?_
            refine st_calli (k' := 354) (as := [.ref 42, .int 4]) (rest := [.int 2, .ref 42]) (lo' := [(0, .ref 42), (1, .int 4)]) (wf := fun d => wR L d e) rfl rfl rfl ?_
            refine tMO_two (fun r_28 d_27 h => ⟨r_28, d_27, rfl, rfl, ?_⟩) 4 d_25 h
            refine st_callv (k' := 355) (as := [.ref 42, .int 2, .int r_28]) (rest := []) (lo' := [(0, .ref 42), (1, .int 2), (2, .int r_28)]) (wf := fun d => wR L d e) rfl rfl rfl ?_
            refine tMO_setTwo (fun d_29 h => ⟨d_29, rfl, rfl, ?_⟩) 2 r_28 d_27 h
            refine st_go 3 (pc' := 170) (lo' := [(4, .int r_26), (0, .ref 42), (1, .int x1)]) (st' := [.int r_26, .int 4, .ref 42]) rfl ?_
            refine st_callv (k' := 355) (as := [.ref 42, .int 4, .int r_26]) (rest := []) (lo' := [(0, .ref 42), (1, .int 4), (2, .int r_26)]) (wf := fun d => wR L d e) rfl rfl rfl ?_
            refine tMO_setTwo (fun d_30 h => ⟨d_30, rfl, rfl, ?_⟩) 4 r_26 d_29 h
            refine st_go 1 (pc' := 204) (lo' := [(4, .int r_26), (0, .ref 42), (1, .int x1)]) (st' := []) rfl ?_
            exact st_retV rfl rfl (hQ _ h)
          · have h := Eq.mp (if_neg hc_24) h
            by_cases hc_31 : x1 = 6
            · have h := Eq.mp (if_pos hc_31) h
              refine st_tab (t := 176) rfl (by rw [hc_31]; rfl) ?_
              refine st_go 2 (pc' := 178) (lo' := [(0, .ref 42), (1, .int x1)]) (st' := [.int 0, .ref 42]) rfl ?_
              refine st_putIR (o := 42) (f := 77) rfl rfl rfl rfl rfl (fun d_32 hy_d_32 => ?_)
              have h := h d_32 hy_d_32
              refine st_go 2 (pc' := 183) (lo' := [(0, .ref 42), (1, .int x1)]) (st' := [.int 0, .ref 42]) rfl ?_
              refine st_putIR (o := 42) (f := 78) rfl rfl rfl rfl rfl (fun d_33 hy_d_33 => ?_)
              have h := h d_33 hy_d_33
              refine st_go 1 (pc' := 204) (lo' := [(0, .ref 42), (1, .int x1)]) (st' := []) rfl ?_
              exact st_retV rfl rfl (hQ _ h)
            · have h := Eq.mp (if_neg hc_31) h
              refine st_tab (t := 189) rfl (tab_def rfl (by decide) rfl (by
                intro j hj hx
                have hj : j < 7 := hj
                rcases (j = 0 ∨ j = 1 ∨ j = 2 ∨ j = 3 ∨ j = 4 ∨ j = 5 ∨ j = 6 : Prop) |> fun _ => (show j = 0 ∨ j = 1 ∨ j = 2 ∨ j = 3 ∨ j = 4 ∨ j = 5 ∨ j = 6 by omega) with rfl | rfl | rfl | rfl | rfl | rfl | rfl <;> first | rfl | exact absurd hx hc_1 | exact absurd hx hc_5 | exact absurd hx hc_10 | exact absurd hx hc_16 | exact absurd hx hc_24 | exact absurd hx hc_31)) ?_
              refine st_go 2 (pc' := 191) (lo' := [(0, .ref 42), (1, .int x1)]) (st' := [.int 1, .ref 42]) rfl ?_
              refine st_putIR (o := 42) (f := 77) rfl rfl rfl rfl rfl (fun d_34 hy_d_34 => ?_)
              have h := h d_34 hy_d_34
              refine st_go 2 (pc' := 196) (lo' := [(0, .ref 42), (1, .int x1)]) (st' := [.int 1, .ref 42]) rfl ?_
              refine st_putIR (o := 42) (f := 78) rfl rfl rfl rfl rfl (fun d_35 hy_d_35 => ?_)
              have h := h d_35 hy_d_35
              refine st_go 2 (pc' := 201) (lo' := [(0, .ref 42), (1, .int x1)]) (st' := [.int 1, .ref 42]) rfl ?_
              refine st_putZR (o := 42) (f := 85) rfl rfl rfl rfl (Or.inr rfl) rfl (fun d_36 hy_d_36 => ?_)
              have h := h d_36 hy_d_36
              exact st_retV rfl rfl (hQ _ h)
set_option maxRecDepth 100000 in
def MO_doLast_220 (s0 : Int32) (d : vmD) (Q : vmD → Prop) : Prop :=
  MO_pushTwo s0 d fun d_35 =>
  Q d_35
set_option maxRecDepth 100000 in
set_option maxHeartbeats 4000000 in
theorem tMO_doLast_220 {L : Nat} {e : vmD} {Qo : Option Value → vmW → Prop} {Q : vmD → Prop} (hQ : ∀ d, Q d → Qo none (wR L d e)) (s0 : Int32) (d : vmD) (h : MO_doLast_220 s0 d Q) : vmWp 394 220 [] [.int s0, .ref 42] (wR L d e) Qo := by
  unfold MO_doLast_220 at h
  refine st_callv (k' := 364) (as := [.ref 42, .int s0]) (rest := []) (lo' := [(0, .ref 42), (1, .int s0)]) (wf := fun d => wR L d e) rfl rfl rfl ?_
  refine tMO_pushTwo (fun d_35 h => ⟨d_35, rfl, rfl, ?_⟩) s0 d h
  refine st_go 1 (pc' := 258) (lo' := []) (st' := []) rfl ?_
  exact st_retV rfl rfl (hQ _ h)
set_option maxRecDepth 100000 in
def MO_doLast_26 (x1 : Int32) (x2 : Int32) (s0 : Int32) (d : vmD) (Q : vmD → Prop) : Prop :=
  if ((gF d 42 61) &&& 7) = 0 then
  (MO_holds x1 d fun r_6 d_5 =>
  if r_6 = 0 then
  (Q d_5)
  else
  (MO_popTwo d_5 fun r_9 d_8 =>
  bnd (sF d_8 42 76 r_9) fun d_10 =>
  Q d_10))
  else
  if ((gF d 42 61) &&& 7) = 1 then
  (MO_doReturns x2 s0 d fun d_12 =>
  Q d_12)
  else
  if ((gF d 42 61) &&& 7) = 2 then
  (MO_holds x1 d fun r_15 d_14 =>
  if r_15 = 0 then
  (Q d_14)
  else
  (MO_wide (gF d_14 42 64) d_14 fun r_18 d_17 =>
  bnd (sF d_17 42 76 r_18) fun d_19 =>
  Q d_19))
  else
  if ((gF d 42 61) &&& 7) = 3 then
  (MO_doThird x1 d fun d_21 =>
  Q d_21)
  else
  if ((gF d 42 61) &&& 7) = 4 then
  (MO_holds x1 d fun r_24 d_23 =>
  if r_24 = 0 then
  (Q d_23)
  else
  (MO_wide (gF d_23 42 64) d_23 fun r_27 d_26 =>
  MO_pushTwo (gF d_26 42 76) d_26 fun d_28 =>
  bnd (sF d_28 42 76 r_27) fun d_29 =>
  Q d_29))
  else
  if ((gF d 42 61) &&& 7) = 5 then
  (if s0 = 0 then
  (if x2 = 3 then
  (MO_at 0 d fun r_34 d_33 =>
  MO_doLast_220 r_34 d_33 Q)
  else
  (MO_pairAt x2 d fun r_37 d_36 =>
  MO_doLast_220 r_37 d_36 Q))
  else
  (MO_wide (gF d 42 64) d fun r_39 d_38 =>
  MO_pushTwo (gF d_38 42 76) d_38 fun d_40 =>
  bnd (sF d_40 42 76 r_39) fun d_41 =>
  Q d_41))
  else
  if ((gF d 42 61) &&& 7) = 6 then
  (MO_peek (gF d 42 64) d fun r_44 d_43 =>
  MO_reckon x1 r_44 d_43 fun d_45 =>
  Q d_45)
  else
  (MO_pushTwo (gF d 42 76) d fun d_46 =>
  bnd (sF d_46 42 76 ((8 : Int32) * x1)) fun d_47 =>
  Q d_47)
set_option maxRecDepth 100000 in
set_option maxHeartbeats 4000000 in
theorem tMO_doLast_26 {L : Nat} {e : vmD} {Qo : Option Value → vmW → Prop} {Q : vmD → Prop} (hQ : ∀ d, Q d → Qo none (wR L d e)) (x1 : Int32) (x2 : Int32) (s0 : Int32) (d : vmD) (h : MO_doLast_26 x1 x2 s0 d Q) : vmWp 394 26 [(0, .ref 42), (1, .int x1), (2, .int x2)] [.int s0] (wR L d e) Qo := by
  unfold MO_doLast_26 at h
  refine st_go 5 (pc' := 34) (lo' := [(3, .int s0), (0, .ref 42), (1, .int x1), (2, .int x2)]) (st' := [.int ((gF d 42 61) &&& 7)]) rfl ?_
  by_cases hc_4 : ((gF d 42 61) &&& 7) = 0
  · have h := Eq.mp (if_pos hc_4) h
    refine st_tab (t := 76) rfl (by rw [hc_4]; rfl) ?_
    refine st_go 2 (pc' := 78) (lo' := [(3, .int s0), (0, .ref 42), (1, .int x1), (2, .int x2)]) (st' := [.int x1, .ref 42]) rfl ?_
    refine st_calli (k' := 382) (as := [.ref 42, .int x1]) (rest := []) (lo' := [(0, .ref 42), (1, .int x1)]) (wf := fun d => wR L d e) rfl rfl rfl ?_
    refine tMO_holds (fun r_6 d_5 h => ⟨r_6, d_5, rfl, rfl, ?_⟩) x1 d h
    by_cases hc_7 : r_6 = 0
    · have h := Eq.mp (if_pos hc_7) h
      refine st_if (t := 258) (b := true) rfl (decide_eq_true hc_7) rfl ?_
      exact st_retV rfl rfl (hQ _ h)
    · have h := Eq.mp (if_neg hc_7) h
      refine st_if (t := 84) (b := false) rfl (decide_eq_false hc_7) rfl ?_
      refine st_go 2 (pc' := 86) (lo' := [(3, .int s0), (0, .ref 42), (1, .int x1), (2, .int x2)]) (st' := [.ref 42, .ref 42]) rfl ?_
      refine st_calli (k' := 365) (as := [.ref 42]) (rest := [.ref 42]) (lo' := [(0, .ref 42)]) (wf := fun d => wR L d e) rfl rfl rfl ?_
      refine tMO_popTwo (fun r_9 d_8 h => ⟨r_9, d_8, rfl, rfl, ?_⟩) d_5 h
      refine st_putIR (o := 42) (f := 76) rfl rfl rfl rfl rfl (fun d_10 hy_d_10 => ?_)
      have h := h d_10 hy_d_10
      refine st_go 1 (pc' := 258) (lo' := [(3, .int s0), (0, .ref 42), (1, .int x1), (2, .int x2)]) (st' := []) rfl ?_
      exact st_retV rfl rfl (hQ _ h)
  · have h := Eq.mp (if_neg hc_4) h
    by_cases hc_11 : ((gF d 42 61) &&& 7) = 1
    · have h := Eq.mp (if_pos hc_11) h
      refine st_tab (t := 95) rfl (by rw [hc_11]; rfl) ?_
      refine st_go 3 (pc' := 98) (lo' := [(3, .int s0), (0, .ref 42), (1, .int x1), (2, .int x2)]) (st' := [.int s0, .int x2, .ref 42]) rfl ?_
      refine st_callv (k' := 395) (as := [.ref 42, .int x2, .int s0]) (rest := []) (lo' := [(0, .ref 42), (1, .int x2), (2, .int s0)]) (wf := fun d => wR L d e) rfl rfl rfl ?_
      refine tMO_doReturns (fun d_12 h => ⟨d_12, rfl, rfl, ?_⟩) x2 s0 d h
      refine st_go 1 (pc' := 258) (lo' := [(3, .int s0), (0, .ref 42), (1, .int x1), (2, .int x2)]) (st' := []) rfl ?_
      exact st_retV rfl rfl (hQ _ h)
    · have h := Eq.mp (if_neg hc_11) h
      by_cases hc_13 : ((gF d 42 61) &&& 7) = 2
      · have h := Eq.mp (if_pos hc_13) h
        refine st_tab (t := 104) rfl (by rw [hc_13]; rfl) ?_
        refine st_go 2 (pc' := 106) (lo' := [(3, .int s0), (0, .ref 42), (1, .int x1), (2, .int x2)]) (st' := [.int x1, .ref 42]) rfl ?_
        refine st_calli (k' := 382) (as := [.ref 42, .int x1]) (rest := []) (lo' := [(0, .ref 42), (1, .int x1)]) (wf := fun d => wR L d e) rfl rfl rfl ?_
        refine tMO_holds (fun r_15 d_14 h => ⟨r_15, d_14, rfl, rfl, ?_⟩) x1 d h
        by_cases hc_16 : r_15 = 0
        · have h := Eq.mp (if_pos hc_16) h
          refine st_if (t := 258) (b := true) rfl (decide_eq_true hc_16) rfl ?_
          exact st_retV rfl rfl (hQ _ h)
        · have h := Eq.mp (if_neg hc_16) h
          refine st_if (t := 112) (b := false) rfl (decide_eq_false hc_16) rfl ?_
          refine st_go 4 (pc' := 118) (lo' := [(3, .int s0), (0, .ref 42), (1, .int x1), (2, .int x2)]) (st' := [.int (gF d_14 42 64), .ref 42, .ref 42]) rfl ?_
          refine st_calli (k' := 321) (as := [.ref 42, .int (gF d_14 42 64)]) (rest := [.ref 42]) (lo' := [(0, .ref 42), (1, .int (gF d_14 42 64))]) (wf := fun d => wR L d e) rfl rfl rfl ?_
          refine tMO_wide (fun r_18 d_17 h => ⟨r_18, d_17, rfl, rfl, ?_⟩) (gF d_14 42 64) d_14 h
          refine st_putIR (o := 42) (f := 76) rfl rfl rfl rfl rfl (fun d_19 hy_d_19 => ?_)
          have h := h d_19 hy_d_19
          refine st_go 1 (pc' := 258) (lo' := [(3, .int s0), (0, .ref 42), (1, .int x1), (2, .int x2)]) (st' := []) rfl ?_
          exact st_retV rfl rfl (hQ _ h)
      · have h := Eq.mp (if_neg hc_13) h
        by_cases hc_20 : ((gF d 42 61) &&& 7) = 3
        · have h := Eq.mp (if_pos hc_20) h
          refine st_tab (t := 127) rfl (by rw [hc_20]; rfl) ?_
          refine st_go 2 (pc' := 129) (lo' := [(3, .int s0), (0, .ref 42), (1, .int x1), (2, .int x2)]) (st' := [.int x1, .ref 42]) rfl ?_
          refine st_callv (k' := 396) (as := [.ref 42, .int x1]) (rest := []) (lo' := [(0, .ref 42), (1, .int x1)]) (wf := fun d => wR L d e) rfl rfl rfl ?_
          refine tMO_doThird (fun d_21 h => ⟨d_21, rfl, rfl, ?_⟩) x1 d h
          refine st_go 1 (pc' := 258) (lo' := [(3, .int s0), (0, .ref 42), (1, .int x1), (2, .int x2)]) (st' := []) rfl ?_
          exact st_retV rfl rfl (hQ _ h)
        · have h := Eq.mp (if_neg hc_20) h
          by_cases hc_22 : ((gF d 42 61) &&& 7) = 4
          · have h := Eq.mp (if_pos hc_22) h
            refine st_tab (t := 135) rfl (by rw [hc_22]; rfl) ?_
            refine st_go 2 (pc' := 137) (lo' := [(3, .int s0), (0, .ref 42), (1, .int x1), (2, .int x2)]) (st' := [.int x1, .ref 42]) rfl ?_
            refine st_calli (k' := 382) (as := [.ref 42, .int x1]) (rest := []) (lo' := [(0, .ref 42), (1, .int x1)]) (wf := fun d => wR L d e) rfl rfl rfl ?_
            refine tMO_holds (fun r_24 d_23 h => ⟨r_24, d_23, rfl, rfl, ?_⟩) x1 d h
            by_cases hc_25 : r_24 = 0
            · have h := Eq.mp (if_pos hc_25) h
              refine st_if (t := 258) (b := true) rfl (decide_eq_true hc_25) rfl ?_
              exact st_retV rfl rfl (hQ _ h)
            · have h := Eq.mp (if_neg hc_25) h
              refine st_if (t := 143) (b := false) rfl (decide_eq_false hc_25) rfl ?_
              refine st_go 3 (pc' := 148) (lo' := [(3, .int s0), (0, .ref 42), (1, .int x1), (2, .int x2)]) (st' := [.int (gF d_23 42 64), .ref 42]) rfl ?_
              refine st_calli (k' := 321) (as := [.ref 42, .int (gF d_23 42 64)]) (rest := []) (lo' := [(0, .ref 42), (1, .int (gF d_23 42 64))]) (wf := fun d => wR L d e) rfl rfl rfl ?_
              refine tMO_wide (fun r_27 d_26 h => ⟨r_27, d_26, rfl, rfl, ?_⟩) (gF d_23 42 64) d_23 h
              refine st_go 4 (pc' := 158) (lo' := [(4, .int r_27), (3, .int s0), (0, .ref 42), (1, .int x1), (2, .int x2)]) (st' := [.int (gF d_26 42 76), .ref 42]) rfl ?_
              refine st_callv (k' := 364) (as := [.ref 42, .int (gF d_26 42 76)]) (rest := []) (lo' := [(0, .ref 42), (1, .int (gF d_26 42 76))]) (wf := fun d => wR L d e) rfl rfl rfl ?_
              refine tMO_pushTwo (fun d_28 h => ⟨d_28, rfl, rfl, ?_⟩) (gF d_26 42 76) d_26 h
              refine st_go 2 (pc' := 164) (lo' := [(4, .int r_27), (3, .int s0), (0, .ref 42), (1, .int x1), (2, .int x2)]) (st' := [.int r_27, .ref 42]) rfl ?_
              refine st_putIR (o := 42) (f := 76) rfl rfl rfl rfl rfl (fun d_29 hy_d_29 => ?_)
              have h := h d_29 hy_d_29
              refine st_go 1 (pc' := 258) (lo' := [(4, .int r_27), (3, .int s0), (0, .ref 42), (1, .int x1), (2, .int x2)]) (st' := []) rfl ?_
              exact st_retV rfl rfl (hQ _ h)
          · have h := Eq.mp (if_neg hc_22) h
            by_cases hc_30 : ((gF d 42 61) &&& 7) = 5
            · have h := Eq.mp (if_pos hc_30) h
              refine st_tab (t := 170) rfl (by rw [hc_30]; rfl) ?_
              refine st_go 1 (pc' := 171) (lo' := [(3, .int s0), (0, .ref 42), (1, .int x1), (2, .int x2)]) (st' := [.int s0]) rfl ?_
              by_cases hc_31 : s0 = 0
              · have h := Eq.mp (if_pos hc_31) h
                refine st_if (t := 201) (b := true) rfl (decide_eq_true hc_31) rfl ?_
                refine st_go 3 (pc' := 204) (lo' := [(3, .int s0), (0, .ref 42), (1, .int x1), (2, .int x2)]) (st' := [.int 3, .int x2, .ref 42]) rfl ?_
                by_cases hc_32 : x2 = 3
                · have h := Eq.mp (if_pos hc_32) h
                  refine st_icmp (t := 207) (b := false) rfl (decide_eq_false (fun z => z hc_32)) rfl ?_
                  refine st_go 2 (pc' := 209) (lo' := [(3, .int s0), (0, .ref 42), (1, .int x1), (2, .int x2)]) (st' := [.int 0, .ref 42, .ref 42]) rfl ?_
                  refine st_calli (k' := 356) (as := [.ref 42, .int 0]) (rest := [.ref 42]) (lo' := [(0, .ref 42), (1, .int 0)]) (wf := fun d => wR L d e) rfl rfl rfl ?_
                  refine tMO_at (fun r_34 d_33 h => ⟨r_34, d_33, rfl, rfl, ?_⟩) 0 d h
                  refine st_go 1 (pc' := 220) (lo' := [(3, .int s0), (0, .ref 42), (1, .int x1), (2, .int x2)]) (st' := [.int r_34, .ref 42]) rfl ?_
                  refine vmWp.sub (lo' := []) trivial ?_
                  exact tMO_doLast_220 hQ r_34 d_33 h
                · have h := Eq.mp (if_neg hc_32) h
                  refine st_icmp (t := 215) (b := true) rfl (decide_eq_true hc_32) rfl ?_
                  refine st_go 2 (pc' := 217) (lo' := [(3, .int s0), (0, .ref 42), (1, .int x1), (2, .int x2)]) (st' := [.int x2, .ref 42, .ref 42]) rfl ?_
                  refine st_calli (k' := 380) (as := [.ref 42, .int x2]) (rest := [.ref 42]) (lo' := [(0, .ref 42), (1, .int x2)]) (wf := fun d => wR L d e) rfl rfl rfl ?_
                  refine tMO_pairAt (fun r_37 d_36 h => ⟨r_37, d_36, rfl, rfl, ?_⟩) x2 d h
                  refine vmWp.sub (lo' := []) trivial ?_
                  exact tMO_doLast_220 hQ r_37 d_36 h
              · have h := Eq.mp (if_neg hc_31) h
                refine st_if (t := 174) (b := false) rfl (decide_eq_false hc_31) rfl ?_
                refine st_go 3 (pc' := 179) (lo' := [(3, .int s0), (0, .ref 42), (1, .int x1), (2, .int x2)]) (st' := [.int (gF d 42 64), .ref 42]) rfl ?_
                refine st_calli (k' := 321) (as := [.ref 42, .int (gF d 42 64)]) (rest := []) (lo' := [(0, .ref 42), (1, .int (gF d 42 64))]) (wf := fun d => wR L d e) rfl rfl rfl ?_
                refine tMO_wide (fun r_39 d_38 h => ⟨r_39, d_38, rfl, rfl, ?_⟩) (gF d 42 64) d h
                refine st_go 4 (pc' := 189) (lo' := [(4, .int r_39), (3, .int s0), (0, .ref 42), (1, .int x1), (2, .int x2)]) (st' := [.int (gF d_38 42 76), .ref 42]) rfl ?_
                refine st_callv (k' := 364) (as := [.ref 42, .int (gF d_38 42 76)]) (rest := []) (lo' := [(0, .ref 42), (1, .int (gF d_38 42 76))]) (wf := fun d => wR L d e) rfl rfl rfl ?_
                refine tMO_pushTwo (fun d_40 h => ⟨d_40, rfl, rfl, ?_⟩) (gF d_38 42 76) d_38 h
                refine st_go 2 (pc' := 195) (lo' := [(4, .int r_39), (3, .int s0), (0, .ref 42), (1, .int x1), (2, .int x2)]) (st' := [.int r_39, .ref 42]) rfl ?_
                refine st_putIR (o := 42) (f := 76) rfl rfl rfl rfl rfl (fun d_41 hy_d_41 => ?_)
                have h := h d_41 hy_d_41
                refine st_go 1 (pc' := 258) (lo' := [(4, .int r_39), (3, .int s0), (0, .ref 42), (1, .int x1), (2, .int x2)]) (st' := []) rfl ?_
                exact st_retV rfl rfl (hQ _ h)
            · have h := Eq.mp (if_neg hc_30) h
              by_cases hc_42 : ((gF d 42 61) &&& 7) = 6
              · have h := Eq.mp (if_pos hc_42) h
                refine st_tab (t := 226) rfl (by rw [hc_42]; rfl) ?_
                refine st_go 5 (pc' := 233) (lo' := [(3, .int s0), (0, .ref 42), (1, .int x1), (2, .int x2)]) (st' := [.int (gF d 42 64), .ref 42, .int x1, .ref 42]) rfl ?_
                refine st_calli (k' := 320) (as := [.ref 42, .int (gF d 42 64)]) (rest := [.int x1, .ref 42]) (lo' := [(0, .ref 42), (1, .int (gF d 42 64))]) (wf := fun d => wR L d e) rfl rfl rfl ?_
                refine tMO_peek (fun r_44 d_43 h => ⟨r_44, d_43, rfl, rfl, ?_⟩) (gF d 42 64) d h
                refine st_callv (k' := 372) (as := [.ref 42, .int x1, .int r_44]) (rest := []) (lo' := [(0, .ref 42), (1, .int x1), (2, .int r_44)]) (wf := fun d => wR L d e) rfl rfl rfl ?_
                refine tMO_reckon (fun d_45 h => ⟨d_45, rfl, rfl, ?_⟩) x1 r_44 d_43 h
                refine st_go 1 (pc' := 258) (lo' := [(3, .int s0), (0, .ref 42), (1, .int x1), (2, .int x2)]) (st' := []) rfl ?_
                exact st_retV rfl rfl (hQ _ h)
              · have h := Eq.mp (if_neg hc_42) h
                refine st_tab (t := 242) rfl (tab_def rfl (by decide) rfl (by
                  intro j hj hx
                  have hj : j < 7 := hj
                  rcases (j = 0 ∨ j = 1 ∨ j = 2 ∨ j = 3 ∨ j = 4 ∨ j = 5 ∨ j = 6 : Prop) |> fun _ => (show j = 0 ∨ j = 1 ∨ j = 2 ∨ j = 3 ∨ j = 4 ∨ j = 5 ∨ j = 6 by omega) with rfl | rfl | rfl | rfl | rfl | rfl | rfl <;> first | rfl | exact absurd hx hc_4 | exact absurd hx hc_11 | exact absurd hx hc_13 | exact absurd hx hc_20 | exact absurd hx hc_22 | exact absurd hx hc_30 | exact absurd hx hc_42)) ?_
                refine st_go 3 (pc' := 247) (lo' := [(3, .int s0), (0, .ref 42), (1, .int x1), (2, .int x2)]) (st' := [.int (gF d 42 76), .ref 42]) rfl ?_
                refine st_callv (k' := 364) (as := [.ref 42, .int (gF d 42 76)]) (rest := []) (lo' := [(0, .ref 42), (1, .int (gF d 42 76))]) (wf := fun d => wR L d e) rfl rfl rfl ?_
                refine tMO_pushTwo (fun d_46 h => ⟨d_46, rfl, rfl, ?_⟩) (gF d 42 76) d h
                refine st_go 4 (pc' := 255) (lo' := [(3, .int s0), (0, .ref 42), (1, .int x1), (2, .int x2)]) (st' := [.int ((8 : Int32) * x1), .ref 42]) rfl ?_
                refine st_putIR (o := 42) (f := 76) rfl rfl rfl rfl rfl (fun d_47 hy_d_47 => ?_)
                have h := h d_47 hy_d_47
                exact st_retV rfl rfl (hQ _ h)
set_option maxRecDepth 100000 in
def MO_doLast (d : vmD) (Q : vmD → Prop) : Prop :=
  bnd (((gF d 42 61) >>> ((3 : Int32) &&& 31)) &&& 7) fun x1_1 =>
  bnd (x1_1 >>> ((1 : Int32) &&& 31)) fun x2_2 =>
  if (x1_1 &&& 1) = 1 then
  (MO_doLast_26 x1_1 x2_2 1 d Q)
  else
  (MO_doLast_26 x1_1 x2_2 0 d Q)
set_option maxRecDepth 100000 in
set_option maxHeartbeats 4000000 in
theorem tMO_doLast {L : Nat} {e : vmD} {Qo : Option Value → vmW → Prop} {Q : vmD → Prop} (hQ : ∀ d, Q d → Qo none (wR L d e)) (d : vmD) (h : MO_doLast d Q) : vmWp 394 0 [(0, .ref 42)] [] (wR L d e) Qo := by
  unfold MO_doLast at h
  refine st_go 7 (pc' := 10) (lo' := [(1, .int (((gF d 42 61) >>> ((3 : Int32) &&& 31)) &&& 7)), (0, .ref 42)]) (st' := []) rfl ?_
  refine st_locI (fun x1_1 hy_x1_1 => ?_)
  have h := h x1_1 hy_x1_1
  refine st_go 4 (pc' := 14) (lo' := [(2, .int (x1_1 >>> ((1 : Int32) &&& 31))), (1, .int x1_1), (0, .ref 42)]) (st' := []) rfl ?_
  refine st_locI (fun x2_2 hy_x2_2 => ?_)
  have h := h x2_2 hy_x2_2
  refine st_go 4 (pc' := 18) (lo' := [(2, .int x2_2), (1, .int x1_1), (0, .ref 42)]) (st' := [.int 1, .int (x1_1 &&& 1)]) rfl ?_
  by_cases hc_3 : (x1_1 &&& 1) = 1
  · have h := Eq.mp (if_pos hc_3) h
    refine st_icmp (t := 21) (b := false) rfl (decide_eq_false (fun z => z hc_3)) rfl ?_
    refine st_go 2 (pc' := 26) (lo' := [(2, .int x2_2), (1, .int x1_1), (0, .ref 42)]) (st' := [.int 1]) rfl ?_
    refine vmWp.sub (lo' := [(0, .ref 42), (1, .int x1_1), (2, .int x2_2)]) ⟨rfl, rfl, rfl, trivial⟩ ?_
    exact tMO_doLast_26 hQ x1_1 x2_2 1 d h
  · have h := Eq.mp (if_neg hc_3) h
    refine st_icmp (t := 25) (b := true) rfl (decide_eq_true hc_3) rfl ?_
    refine st_go 1 (pc' := 26) (lo' := [(2, .int x2_2), (1, .int x1_1), (0, .ref 42)]) (st' := [.int 0]) rfl ?_
    refine vmWp.sub (lo' := [(0, .ref 42), (1, .int x1_1), (2, .int x2_2)]) ⟨rfl, rfl, rfl, trivial⟩ ?_
    exact tMO_doLast_26 hQ x1_1 x2_2 0 d h
set_option maxRecDepth 100000 in
def MO_step_80 (x1 : Int32) (d : vmD) (Q : Int32 → vmD → Prop) : Prop :=
  bnd (sF d 42 76 (((gF d 42 76) + (gF d 42 63)) &&& 65535)) fun d_15 =>
  if (gF d_15 42 59) = 1 then
  (MO_do203 d_15 fun d_17 =>
  Q 1 d_17)
  else
  (if (gF d_15 42 59) = 2 then
  (MO_do237 x1 d_15 fun d_19 =>
  Q 1 d_19)
  else
  (if ((gF d_15 42 61) >>> ((6 : Int32) &&& 31)) = 0 then
  (MO_doFirst d_15 fun d_21 =>
  Q 1 d_21)
  else
  (if ((gF d_15 42 61) >>> ((6 : Int32) &&& 31)) = 1 then
  (MO_octetAt ((gF d_15 42 61) &&& 7) d_15 fun r_24 d_23 =>
  MO_setOctet (((gF d_15 42 61) >>> ((3 : Int32) &&& 31)) &&& 7) r_24 d_23 fun d_25 =>
  Q 1 d_25)
  else
  (if ((gF d_15 42 61) >>> ((6 : Int32) &&& 31)) = 2 then
  (MO_octetAt ((gF d_15 42 61) &&& 7) d_15 fun r_28 d_27 =>
  MO_reckon (((gF d_15 42 61) >>> ((3 : Int32) &&& 31)) &&& 7) r_28 d_27 fun d_29 =>
  Q 1 d_29)
  else
  (MO_doLast d_15 fun d_30 =>
  Q 1 d_30)))))
set_option maxRecDepth 100000 in
set_option maxHeartbeats 4000000 in
theorem tMO_step_80 {L : Nat} {e : vmD} {Qo : Option Value → vmW → Prop} {Q : Int32 → vmD → Prop} (hQ : ∀ r d, Q r d → Qo (some (.int r)) (wR L d e)) (x1 : Int32) (d : vmD) (h : MO_step_80 x1 d Q) : vmWp 384 80 [(0, .ref 42), (1, .int x1)] [] (wR L d e) Qo := by
  unfold MO_step_80 at h
  refine st_go 8 (pc' := 93) (lo' := [(0, .ref 42), (1, .int x1)]) (st' := [.int (((gF d 42 76) + (gF d 42 63)) &&& 65535), .ref 42]) rfl ?_
  refine st_putIR (o := 42) (f := 76) rfl rfl rfl rfl rfl (fun d_15 hy_d_15 => ?_)
  have h := h d_15 hy_d_15
  refine st_go 3 (pc' := 101) (lo' := [(0, .ref 42), (1, .int x1)]) (st' := [.int 1, .int (gF d_15 42 59)]) rfl ?_
  by_cases hc_16 : (gF d_15 42 59) = 1
  · have h := Eq.mp (if_pos hc_16) h
    refine st_icmp (t := 104) (b := false) rfl (decide_eq_false (fun z => z hc_16)) rfl ?_
    refine st_go 1 (pc' := 105) (lo' := [(0, .ref 42), (1, .int x1)]) (st' := [.ref 42]) rfl ?_
    refine st_callv (k' := 386) (as := [.ref 42]) (rest := []) (lo' := [(0, .ref 42)]) (wf := fun d => wR L d e) rfl rfl rfl ?_
    refine tMO_do203 (fun d_17 h => ⟨d_17, rfl, rfl, ?_⟩) d_15 h
    refine st_go 2 (pc' := 225) (lo' := [(0, .ref 42), (1, .int x1)]) (st' := [.int 1]) rfl ?_
    exact st_retI rfl rfl (hQ _ _ h)
  · have h := Eq.mp (if_neg hc_16) h
    refine st_icmp (t := 111) (b := true) rfl (decide_eq_true hc_16) rfl ?_
    refine st_go 3 (pc' := 116) (lo' := [(0, .ref 42), (1, .int x1)]) (st' := [.int 2, .int (gF d_15 42 59)]) rfl ?_
    by_cases hc_18 : (gF d_15 42 59) = 2
    · have h := Eq.mp (if_pos hc_18) h
      refine st_icmp (t := 119) (b := false) rfl (decide_eq_false (fun z => z hc_18)) rfl ?_
      refine st_go 2 (pc' := 121) (lo' := [(0, .ref 42), (1, .int x1)]) (st' := [.int x1, .ref 42]) rfl ?_
      refine st_callv (k' := 397) (as := [.ref 42, .int x1]) (rest := []) (lo' := [(0, .ref 42), (1, .int x1)]) (wf := fun d => wR L d e) rfl rfl rfl ?_
      refine tMO_do237 (fun d_19 h => ⟨d_19, rfl, rfl, ?_⟩) x1 d_15 h
      refine st_go 2 (pc' := 225) (lo' := [(0, .ref 42), (1, .int x1)]) (st' := [.int 1]) rfl ?_
      exact st_retI rfl rfl (hQ _ _ h)
    · have h := Eq.mp (if_neg hc_18) h
      refine st_icmp (t := 127) (b := true) rfl (decide_eq_true hc_18) rfl ?_
      refine st_go 4 (pc' := 134) (lo' := [(0, .ref 42), (1, .int x1)]) (st' := [.int ((gF d_15 42 61) >>> ((6 : Int32) &&& 31))]) rfl ?_
      by_cases hc_20 : ((gF d_15 42 61) >>> ((6 : Int32) &&& 31)) = 0
      · have h := Eq.mp (if_pos hc_20) h
        refine st_if (t := 137) (b := false) rfl (decide_eq_false (fun z => z hc_20)) rfl ?_
        refine st_go 1 (pc' := 138) (lo' := [(0, .ref 42), (1, .int x1)]) (st' := [.ref 42]) rfl ?_
        refine st_callv (k' := 387) (as := [.ref 42]) (rest := []) (lo' := [(0, .ref 42)]) (wf := fun d => wR L d e) rfl rfl rfl ?_
        refine tMO_doFirst (fun d_21 h => ⟨d_21, rfl, rfl, ?_⟩) d_15 h
        refine st_go 2 (pc' := 225) (lo' := [(0, .ref 42), (1, .int x1)]) (st' := [.int 1]) rfl ?_
        exact st_retI rfl rfl (hQ _ _ h)
      · have h := Eq.mp (if_neg hc_20) h
        refine st_if (t := 144) (b := true) rfl (decide_eq_true hc_20) rfl ?_
        refine st_go 5 (pc' := 152) (lo' := [(0, .ref 42), (1, .int x1)]) (st' := [.int 1, .int ((gF d_15 42 61) >>> ((6 : Int32) &&& 31))]) rfl ?_
        by_cases hc_22 : ((gF d_15 42 61) >>> ((6 : Int32) &&& 31)) = 1
        · have h := Eq.mp (if_pos hc_22) h
          refine st_icmp (t := 155) (b := false) rfl (decide_eq_false (fun z => z hc_22)) rfl ?_
          refine st_go 12 (pc' := 173) (lo' := [(0, .ref 42), (1, .int x1)]) (st' := [.int ((gF d_15 42 61) &&& 7), .ref 42, .int (((gF d_15 42 61) >>> ((3 : Int32) &&& 31)) &&& 7), .ref 42]) rfl ?_
          refine st_calli (k' := 378) (as := [.ref 42, .int ((gF d_15 42 61) &&& 7)]) (rest := [.int (((gF d_15 42 61) >>> ((3 : Int32) &&& 31)) &&& 7), .ref 42]) (lo' := [(0, .ref 42), (1, .int ((gF d_15 42 61) &&& 7))]) (wf := fun d => wR L d e) rfl rfl rfl ?_
          refine tMO_octetAt (fun r_24 d_23 h => ⟨r_24, d_23, rfl, rfl, ?_⟩) ((gF d_15 42 61) &&& 7) d_15 h
          refine st_callv (k' := 379) (as := [.ref 42, .int (((gF d_15 42 61) >>> ((3 : Int32) &&& 31)) &&& 7), .int r_24]) (rest := []) (lo' := [(0, .ref 42), (1, .int (((gF d_15 42 61) >>> ((3 : Int32) &&& 31)) &&& 7)), (2, .int r_24)]) (wf := fun d => wR L d e) rfl rfl rfl ?_
          refine tMO_setOctet (fun d_25 h => ⟨d_25, rfl, rfl, ?_⟩) (((gF d_15 42 61) >>> ((3 : Int32) &&& 31)) &&& 7) r_24 d_23 h
          refine st_go 2 (pc' := 225) (lo' := [(0, .ref 42), (1, .int x1)]) (st' := [.int 1]) rfl ?_
          exact st_retI rfl rfl (hQ _ _ h)
        · have h := Eq.mp (if_neg hc_22) h
          refine st_icmp (t := 182) (b := true) rfl (decide_eq_true hc_22) rfl ?_
          refine st_go 5 (pc' := 190) (lo' := [(0, .ref 42), (1, .int x1)]) (st' := [.int 2, .int ((gF d_15 42 61) >>> ((6 : Int32) &&& 31))]) rfl ?_
          by_cases hc_26 : ((gF d_15 42 61) >>> ((6 : Int32) &&& 31)) = 2
          · have h := Eq.mp (if_pos hc_26) h
            refine st_icmp (t := 193) (b := false) rfl (decide_eq_false (fun z => z hc_26)) rfl ?_
            refine st_go 12 (pc' := 211) (lo' := [(0, .ref 42), (1, .int x1)]) (st' := [.int ((gF d_15 42 61) &&& 7), .ref 42, .int (((gF d_15 42 61) >>> ((3 : Int32) &&& 31)) &&& 7), .ref 42]) rfl ?_
            refine st_calli (k' := 378) (as := [.ref 42, .int ((gF d_15 42 61) &&& 7)]) (rest := [.int (((gF d_15 42 61) >>> ((3 : Int32) &&& 31)) &&& 7), .ref 42]) (lo' := [(0, .ref 42), (1, .int ((gF d_15 42 61) &&& 7))]) (wf := fun d => wR L d e) rfl rfl rfl ?_
            refine tMO_octetAt (fun r_28 d_27 h => ⟨r_28, d_27, rfl, rfl, ?_⟩) ((gF d_15 42 61) &&& 7) d_15 h
            refine st_callv (k' := 372) (as := [.ref 42, .int (((gF d_15 42 61) >>> ((3 : Int32) &&& 31)) &&& 7), .int r_28]) (rest := []) (lo' := [(0, .ref 42), (1, .int (((gF d_15 42 61) >>> ((3 : Int32) &&& 31)) &&& 7)), (2, .int r_28)]) (wf := fun d => wR L d e) rfl rfl rfl ?_
            refine tMO_reckon (fun d_29 h => ⟨d_29, rfl, rfl, ?_⟩) (((gF d_15 42 61) >>> ((3 : Int32) &&& 31)) &&& 7) r_28 d_27 h
            refine st_go 2 (pc' := 225) (lo' := [(0, .ref 42), (1, .int x1)]) (st' := [.int 1]) rfl ?_
            exact st_retI rfl rfl (hQ _ _ h)
          · have h := Eq.mp (if_neg hc_26) h
            refine st_icmp (t := 220) (b := true) rfl (decide_eq_true hc_26) rfl ?_
            refine st_go 1 (pc' := 221) (lo' := [(0, .ref 42), (1, .int x1)]) (st' := [.ref 42]) rfl ?_
            refine st_callv (k' := 394) (as := [.ref 42]) (rest := []) (lo' := [(0, .ref 42)]) (wf := fun d => wR L d e) rfl rfl rfl ?_
            refine tMO_doLast (fun d_30 h => ⟨d_30, rfl, rfl, ?_⟩) d_15 h
            refine st_go 1 (pc' := 225) (lo' := [(0, .ref 42), (1, .int x1)]) (st' := [.int 1]) rfl ?_
            exact st_retI rfl rfl (hQ _ _ h)
set_option maxRecDepth 100000 in
def MO_step_42 (s0 : Int32) (d : vmD) (Q : Int32 → vmD → Prop) : Prop :=
  MO_goOn s0 d fun d_9 =>
  bnd (sF d_9 42 85 0) fun d_10 =>
  bnd (gF d_10 42 76) fun x1_11 =>
  if (gF d_10 42 59) = 0 then
  (if (gF d_10 42 60) = 0 then
  (if (gF d_10 42 61) = 118 then
  (Q 3 d_10)
  else
  (MO_step_80 x1_11 d_10 Q))
  else
  (MO_step_80 x1_11 d_10 Q))
  else
  (MO_step_80 x1_11 d_10 Q)
set_option maxRecDepth 100000 in
set_option maxHeartbeats 4000000 in
theorem tMO_step_42 {L : Nat} {e : vmD} {Qo : Option Value → vmW → Prop} {Q : Int32 → vmD → Prop} (hQ : ∀ r d, Q r d → Qo (some (.int r)) (wR L d e)) (s0 : Int32) (d : vmD) (h : MO_step_42 s0 d Q) : vmWp 384 42 [(0, .ref 42)] [.int s0, .ref 42] (wR L d e) Qo := by
  unfold MO_step_42 at h
  refine st_callv (k' := 367) (as := [.ref 42, .int s0]) (rest := []) (lo' := [(0, .ref 42), (1, .int s0)]) (wf := fun d => wR L d e) rfl rfl rfl ?_
  refine tMO_goOn (fun d_9 h => ⟨d_9, rfl, rfl, ?_⟩) s0 d h
  refine st_go 2 (pc' := 47) (lo' := [(0, .ref 42)]) (st' := [.int 0, .ref 42]) rfl ?_
  refine st_putZR (o := 42) (f := 85) rfl rfl rfl rfl (Or.inl rfl) rfl (fun d_10 hy_d_10 => ?_)
  have h := h d_10 hy_d_10
  refine st_go 3 (pc' := 55) (lo' := [(1, .int (gF d_10 42 76)), (0, .ref 42)]) (st' := []) rfl ?_
  refine st_locI (fun x1_11 hy_x1_11 => ?_)
  have h := h x1_11 hy_x1_11
  refine st_go 2 (pc' := 59) (lo' := [(1, .int x1_11), (0, .ref 42)]) (st' := [.int (gF d_10 42 59)]) rfl ?_
  by_cases hc_12 : (gF d_10 42 59) = 0
  · have h := Eq.mp (if_pos hc_12) h
    refine st_if (t := 62) (b := false) rfl (decide_eq_false (fun z => z hc_12)) rfl ?_
    refine st_go 2 (pc' := 66) (lo' := [(1, .int x1_11), (0, .ref 42)]) (st' := [.int (gF d_10 42 60)]) rfl ?_
    by_cases hc_13 : (gF d_10 42 60) = 0
    · have h := Eq.mp (if_pos hc_13) h
      refine st_if (t := 69) (b := false) rfl (decide_eq_false (fun z => z hc_13)) rfl ?_
      refine st_go 3 (pc' := 75) (lo' := [(1, .int x1_11), (0, .ref 42)]) (st' := [.int 118, .int (gF d_10 42 61)]) rfl ?_
      by_cases hc_14 : (gF d_10 42 61) = 118
      · have h := Eq.mp (if_pos hc_14) h
        refine st_icmp (t := 78) (b := false) rfl (decide_eq_false (fun z => z hc_14)) rfl ?_
        refine st_go 1 (pc' := 79) (lo' := [(1, .int x1_11), (0, .ref 42)]) (st' := [.int 3]) rfl ?_
        exact st_retI rfl rfl (hQ _ _ h)
      · have h := Eq.mp (if_neg hc_14) h
        refine st_icmp (t := 80) (b := true) rfl (decide_eq_true hc_14) rfl ?_
        refine vmWp.sub (lo' := [(0, .ref 42), (1, .int x1_11)]) ⟨rfl, rfl, trivial⟩ ?_
        exact tMO_step_80 hQ x1_11 d_10 h
    · have h := Eq.mp (if_neg hc_13) h
      refine st_if (t := 80) (b := true) rfl (decide_eq_true hc_13) rfl ?_
      refine vmWp.sub (lo' := [(0, .ref 42), (1, .int x1_11)]) ⟨rfl, rfl, trivial⟩ ?_
      exact tMO_step_80 hQ x1_11 d_10 h
  · have h := Eq.mp (if_neg hc_12) h
    refine st_if (t := 80) (b := true) rfl (decide_eq_true hc_12) rfl ?_
    refine vmWp.sub (lo' := [(0, .ref 42), (1, .int x1_11)]) ⟨rfl, rfl, trivial⟩ ?_
    exact tMO_step_80 hQ x1_11 d_10 h
set_option maxRecDepth 100000 in
def MO_step_41 (d : vmD) (Q : Int32 → vmD → Prop) : Prop :=
  MO_step_42 2 d Q
set_option maxRecDepth 100000 in
set_option maxHeartbeats 4000000 in
theorem tMO_step_41 {L : Nat} {e : vmD} {Qo : Option Value → vmW → Prop} {Q : Int32 → vmD → Prop} (hQ : ∀ r d, Q r d → Qo (some (.int r)) (wR L d e)) (d : vmD) (h : MO_step_41 d Q) : vmWp 384 41 [(0, .ref 42)] [.ref 42] (wR L d e) Qo := by
  unfold MO_step_41 at h
  refine st_go 1 (pc' := 42) (lo' := [(0, .ref 42)]) (st' := [.int 2, .ref 42]) rfl ?_
  refine vmWp.sub (lo' := [(0, .ref 42)]) ⟨rfl, trivial⟩ ?_
  exact tMO_step_42 hQ 2 d h
set_option maxRecDepth 100000 in
def MO_step (d : vmD) (Q : Int32 → vmD → Prop) : Prop :=
  MO_takeRequest d fun r_2 d_1 =>
  if r_2 = 0 then
  (MO_decode (gF d_1 42 76) d_1 fun r_5 d_4 =>
  if r_5 = 0 then
  (Q 0 d_4)
  else
  (if (gF d_4 42 59) = 0 then
  (if (gF d_4 42 60) = 0 then
  (MO_step_42 1 d_4 Q)
  else
  (MO_step_41 d_4 Q))
  else
  (MO_step_41 d_4 Q)))
  else
  (Q 2 d_1)
set_option maxRecDepth 100000 in
set_option maxHeartbeats 4000000 in
theorem tMO_step {L : Nat} {e : vmD} {Qo : Option Value → vmW → Prop} {Q : Int32 → vmD → Prop} (hQ : ∀ r d, Q r d → Qo (some (.int r)) (wR L d e)) (d : vmD) (h : MO_step d Q) : vmWp 384 0 [(0, .ref 42)] [] (wR L d e) Qo := by
  unfold MO_step at h
  refine st_go 1 (pc' := 1) (lo' := [(0, .ref 42)]) (st' := [.ref 42]) rfl ?_
  refine st_calli (k' := 383) (as := [.ref 42]) (rest := []) (lo' := [(0, .ref 42)]) (wf := fun d => wR L d e) rfl rfl rfl ?_
  refine tMO_takeRequest (fun r_2 d_1 h => ⟨r_2, d_1, rfl, rfl, ?_⟩) d h
  by_cases hc_3 : r_2 = 0
  · have h := Eq.mp (if_pos hc_3) h
    refine st_if (t := 9) (b := true) rfl (decide_eq_true hc_3) rfl ?_
    refine st_go 3 (pc' := 14) (lo' := [(0, .ref 42)]) (st' := [.int (gF d_1 42 76), .ref 42]) rfl ?_
    refine st_calli (k' := 327) (as := [.ref 42, .int (gF d_1 42 76)]) (rest := []) (lo' := [(0, .ref 42), (1, .int (gF d_1 42 76))]) (wf := fun d => wR L d e) rfl rfl rfl ?_
    refine tMO_decode (fun r_5 d_4 h => ⟨r_5, d_4, rfl, rfl, ?_⟩) (gF d_1 42 76) d_1 h
    by_cases hc_6 : r_5 = 0
    · have h := Eq.mp (if_pos hc_6) h
      refine st_if (t := 20) (b := false) rfl (decide_eq_false (fun z => z hc_6)) rfl ?_
      refine st_go 1 (pc' := 21) (lo' := [(0, .ref 42)]) (st' := [.int 0]) rfl ?_
      exact st_retI rfl rfl (hQ _ _ h)
    · have h := Eq.mp (if_neg hc_6) h
      refine st_if (t := 22) (b := true) rfl (decide_eq_true hc_6) rfl ?_
      refine st_go 3 (pc' := 27) (lo' := [(0, .ref 42)]) (st' := [.int (gF d_4 42 59), .ref 42]) rfl ?_
      by_cases hc_7 : (gF d_4 42 59) = 0
      · have h := Eq.mp (if_pos hc_7) h
        refine st_if (t := 30) (b := false) rfl (decide_eq_false (fun z => z hc_7)) rfl ?_
        refine st_go 2 (pc' := 34) (lo' := [(0, .ref 42)]) (st' := [.int (gF d_4 42 60), .ref 42]) rfl ?_
        by_cases hc_8 : (gF d_4 42 60) = 0
        · have h := Eq.mp (if_pos hc_8) h
          refine st_if (t := 37) (b := false) rfl (decide_eq_false (fun z => z hc_8)) rfl ?_
          refine st_go 2 (pc' := 42) (lo' := [(0, .ref 42)]) (st' := [.int 1, .ref 42]) rfl ?_
          refine vmWp.sub (lo' := [(0, .ref 42)]) ⟨rfl, trivial⟩ ?_
          exact tMO_step_42 hQ 1 d_4 h
        · have h := Eq.mp (if_neg hc_8) h
          refine st_if (t := 41) (b := true) rfl (decide_eq_true hc_8) rfl ?_
          refine vmWp.sub (lo' := [(0, .ref 42)]) ⟨rfl, trivial⟩ ?_
          exact tMO_step_41 hQ d_4 h
      · have h := Eq.mp (if_neg hc_7) h
        refine st_if (t := 41) (b := true) rfl (decide_eq_true hc_7) rfl ?_
        refine vmWp.sub (lo' := [(0, .ref 42)]) ⟨rfl, trivial⟩ ?_
        exact tMO_step_41 hQ d_4 h
  · have h := Eq.mp (if_neg hc_3) h
    refine st_if (t := 7) (b := false) rfl (decide_eq_false hc_3) rfl ?_
    refine st_go 1 (pc' := 8) (lo' := [(0, .ref 42)]) (st' := [.int 2]) rfl ?_
    exact st_retI rfl rfl (hQ _ _ h)
set_option maxRecDepth 100000 in
def MO_run_16 (Q : Int32 → vmD → Prop) : Nat → Int32 → Int32 → vmD → Prop
  | 0, _, _, _ => False
  | n + 1, x1, x2, d => if x2 < x1 then
  (MO_step d fun r_5 d_4 =>
  bnd (x2 + 1) fun x2_6 =>
  if r_5 = 3 then
  (Q x2_6 d_4)
  else
  (if r_5 = 0 then
  (Q x2_6 d_4)
  else
  ((MO_run_16 Q n) x1 x2_6 d_4)))
  else
  (Q x2 d)
set_option maxRecDepth 100000 in
set_option maxHeartbeats 4000000 in
theorem tMO_run_16 {L : Nat} {e : vmD} {Qo : Option Value → vmW → Prop} {Q : Int32 → vmD → Prop} (hQ : ∀ r d, Q r d → Qo (some (.int r)) (wR L d e)) : ∀ (n : Nat) (x1 : Int32) (x2 : Int32) (d : vmD), MO_run_16 Q n x1 x2 d → vmWp 385 16 [(0, .ref 42), (1, .int x1), (2, .int x2)] [] (wR L d e) Qo := by
  intro n
  induction n with
  | zero => intro x1 x2 d h; exact h.elim
  | succ n ih =>
    intro x1 x2 d h
    unfold MO_run_16 at h
    refine st_go 2 (pc' := 18) (lo' := [(0, .ref 42), (1, .int x1), (2, .int x2)]) (st' := [.int x1, .int x2]) rfl ?_
    by_cases hc_3 : x2 < x1
    · have h := Eq.mp (if_pos hc_3) h
      refine st_icmp (t := 21) (b := false) rfl (decide_eq_false (Int32.not_le.mpr hc_3)) rfl ?_
      refine st_go 1 (pc' := 22) (lo' := [(0, .ref 42), (1, .int x1), (2, .int x2)]) (st' := [.ref 42]) rfl ?_
      refine st_calli (k' := 384) (as := [.ref 42]) (rest := []) (lo' := [(0, .ref 42)]) (wf := fun d => wR L d e) rfl rfl rfl ?_
      refine tMO_step (fun r_5 d_4 h => ⟨r_5, d_4, rfl, rfl, ?_⟩) d h
      refine st_go 2 (pc' := 29) (lo' := [(2, .int (x2 + 1)), (3, .int r_5), (0, .ref 42), (1, .int x1)]) (st' := []) rfl ?_
      refine st_locI (fun x2_6 hy_x2_6 => ?_)
      have h := h x2_6 hy_x2_6
      refine st_go 2 (pc' := 31) (lo' := [(2, .int x2_6), (3, .int r_5), (0, .ref 42), (1, .int x1)]) (st' := [.int 3, .int r_5]) rfl ?_
      by_cases hc_7 : r_5 = 3
      · have h := Eq.mp (if_pos hc_7) h
        refine st_icmp (t := 38) (b := true) rfl (decide_eq_true hc_7) rfl ?_
        refine st_go 1 (pc' := 39) (lo' := [(2, .int x2_6), (3, .int r_5), (0, .ref 42), (1, .int x1)]) (st' := [.int x2_6]) rfl ?_
        exact st_retI rfl rfl (hQ _ _ h)
      · have h := Eq.mp (if_neg hc_7) h
        refine st_icmp (t := 34) (b := false) rfl (decide_eq_false hc_7) rfl ?_
        refine st_go 1 (pc' := 35) (lo' := [(2, .int x2_6), (3, .int r_5), (0, .ref 42), (1, .int x1)]) (st' := [.int r_5]) rfl ?_
        by_cases hc_8 : r_5 = 0
        · have h := Eq.mp (if_pos hc_8) h
          refine st_if (t := 38) (b := false) rfl (decide_eq_false (fun z => z hc_8)) rfl ?_
          refine st_go 1 (pc' := 39) (lo' := [(2, .int x2_6), (3, .int r_5), (0, .ref 42), (1, .int x1)]) (st' := [.int x2_6]) rfl ?_
          exact st_retI rfl rfl (hQ _ _ h)
        · have h := Eq.mp (if_neg hc_8) h
          refine st_if (t := 40) (b := true) rfl (decide_eq_true hc_8) rfl ?_
          refine st_go 1 (pc' := 16) (lo' := [(2, .int x2_6), (3, .int r_5), (0, .ref 42), (1, .int x1)]) (st' := []) rfl ?_
          refine vmWp.sub (lo' := [(0, .ref 42), (1, .int x1), (2, .int x2_6)]) ⟨rfl, rfl, rfl, trivial⟩ ?_
          exact ih x1 x2_6 d_4 h
    · have h := Eq.mp (if_neg hc_3) h
      refine st_icmp (t := 43) (b := true) rfl (decide_eq_true (Int32.not_lt.mp hc_3)) rfl ?_
      refine st_go 1 (pc' := 44) (lo' := [(0, .ref 42), (1, .int x1), (2, .int x2)]) (st' := [.int x2]) rfl ?_
      exact st_retI rfl rfl (hQ _ _ h)
set_option maxRecDepth 100000 in
def MO_run (x1 : Int32) (d : vmD) (Q : Int32 → vmD → Prop) : Prop :=
  if x1 < 0 then
  (Q (-2) d)
  else
  (if (20000 : Int32) < x1 then
  (Q (-2) d)
  else
  (∃ m16, MO_run_16 Q m16 x1 0 d))
set_option maxRecDepth 100000 in
set_option maxHeartbeats 4000000 in
theorem tMO_run {L : Nat} {e : vmD} {Qo : Option Value → vmW → Prop} {Q : Int32 → vmD → Prop} (hQ : ∀ r d, Q r d → Qo (some (.int r)) (wR L d e)) (x1 : Int32) (d : vmD) (h : MO_run x1 d Q) : vmWp 385 0 [(0, .ref 42), (1, .int x1)] [] (wR L d e) Qo := by
  unfold MO_run at h
  refine st_go 1 (pc' := 1) (lo' := [(0, .ref 42), (1, .int x1)]) (st' := [.int x1]) rfl ?_
  by_cases hc_1 : x1 < 0
  · have h := Eq.mp (if_pos hc_1) h
    refine st_if (t := 11) (b := true) rfl (decide_eq_true hc_1) rfl ?_
    refine st_go 1 (pc' := 13) (lo' := [(0, .ref 42), (1, .int x1)]) (st' := [.int (-2)]) rfl ?_
    exact st_retI rfl rfl (hQ _ _ h)
  · have h := Eq.mp (if_neg hc_1) h
    refine st_if (t := 4) (b := false) rfl (decide_eq_false hc_1) rfl ?_
    refine st_go 2 (pc' := 8) (lo' := [(0, .ref 42), (1, .int x1)]) (st' := [.int 20000, .int x1]) rfl ?_
    by_cases hc_2 : (20000 : Int32) < x1
    · have h := Eq.mp (if_pos hc_2) h
      refine st_icmp (t := 11) (b := false) rfl (decide_eq_false (Int32.not_le.mpr hc_2)) rfl ?_
      refine st_go 1 (pc' := 13) (lo' := [(0, .ref 42), (1, .int x1)]) (st' := [.int (-2)]) rfl ?_
      exact st_retI rfl rfl (hQ _ _ h)
    · have h := Eq.mp (if_neg hc_2) h
      refine st_icmp (t := 14) (b := true) rfl (decide_eq_true (Int32.not_lt.mp hc_2)) rfl ?_
      refine st_go 2 (pc' := 16) (lo' := [(2, .int 0), (0, .ref 42), (1, .int x1)]) (st' := []) rfl ?_
      obtain ⟨m16, h⟩ := h
      refine vmWp.sub (lo' := [(0, .ref 42), (1, .int x1), (2, .int 0)]) ⟨rfl, rfl, rfl, trivial⟩ ?_
      exact tMO_run_16 hQ m16 x1 0 d h
