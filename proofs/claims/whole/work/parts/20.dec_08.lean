/-! The decompiled program, 4.8 -/
set_option maxRecDepth 100000 in
def MO_labelSign (x1 : Int32) (x2 : Int32) (d : vmD) (Q : Int32 → vmD → Prop) : Prop :=
  if x1 < 0 then
  (Q (-1) d)
  else
  (if x1 < (gF d 42 51) then
  (if x2 < 0 then
  (Q (-1) d)
  else
  (ixOk x1 200 ∧
  bnd (gA d 60 x1.toNatClampNeg) fun y_5 =>
  if x2 < y_5 then
  (ixOk (((12 : Int32) * x1) + x2) 2400 ∧
  bnd (gA d 59 (((12 : Int32) * x1) + x2).toNatClampNeg) fun y_8 =>
  Q y_8 d)
  else
  (Q (-1) d)))
  else
  (Q (-1) d))
set_option maxRecDepth 100000 in
set_option maxHeartbeats 4000000 in
theorem tMO_labelSign {L : Nat} {e : vmD} {Qo : Option Value → vmW → Prop} {Q : Int32 → vmD → Prop} (hQ : ∀ r d, Q r d → Qo (some (.int r)) (wR L d e)) (x1 : Int32) (x2 : Int32) (d : vmD) (h : MO_labelSign x1 x2 d Q) : vmWp 319 0 [(0, .ref 42), (1, .int x1), (2, .int x2)] [] (wR L d e) Qo := by
  unfold MO_labelSign at h
  refine st_go 1 (pc' := 1) (lo' := [(0, .ref 42), (1, .int x1), (2, .int x2)]) (st' := [.int x1]) rfl ?_
  by_cases hc_1 : x1 < 0
  · have h := Eq.mp (if_pos hc_1) h
    refine st_if (t := 40) (b := true) rfl (decide_eq_true hc_1) rfl ?_
    refine st_go 1 (pc' := 41) (lo' := [(0, .ref 42), (1, .int x1), (2, .int x2)]) (st' := [.int (-1)]) rfl ?_
    exact st_retI rfl rfl (hQ _ _ h)
  · have h := Eq.mp (if_neg hc_1) h
    refine st_if (t := 4) (b := false) rfl (decide_eq_false hc_1) rfl ?_
    refine st_go 3 (pc' := 9) (lo' := [(0, .ref 42), (1, .int x1), (2, .int x2)]) (st' := [.int (gF d 42 51), .int x1]) rfl ?_
    by_cases hc_2 : x1 < (gF d 42 51)
    · have h := Eq.mp (if_pos hc_2) h
      refine st_icmp (t := 12) (b := false) rfl (decide_eq_false (Int32.not_le.mpr hc_2)) rfl ?_
      refine st_go 1 (pc' := 13) (lo' := [(0, .ref 42), (1, .int x1), (2, .int x2)]) (st' := [.int x2]) rfl ?_
      by_cases hc_3 : x2 < 0
      · have h := Eq.mp (if_pos hc_3) h
        refine st_if (t := 40) (b := true) rfl (decide_eq_true hc_3) rfl ?_
        refine st_go 1 (pc' := 41) (lo' := [(0, .ref 42), (1, .int x1), (2, .int x2)]) (st' := [.int (-1)]) rfl ?_
        exact st_retI rfl rfl (hQ _ _ h)
      · have h := Eq.mp (if_neg hc_3) h
        refine st_if (t := 16) (b := false) rfl (decide_eq_false hc_3) rfl ?_
        refine st_go 4 (pc' := 22) (lo' := [(0, .ref 42), (1, .int x1), (2, .int x2)]) (st' := [.int x1, .ref 60, .int x2]) rfl ?_
        obtain ⟨hj_4, h⟩ := h
        refine st_ialdR (o := 60) rfl rfl hj_4 rfl (fun y_5 hy_y_5 => ?_)
        have h := h y_5 hy_y_5
        by_cases hc_6 : x2 < y_5
        · have h := Eq.mp (if_pos hc_6) h
          refine st_icmp (t := 26) (b := false) rfl (decide_eq_false (Int32.not_le.mpr hc_6)) rfl ?_
          refine st_go 7 (pc' := 36) (lo' := [(0, .ref 42), (1, .int x1), (2, .int x2)]) (st' := [.int (((12 : Int32) * x1) + x2), .ref 59]) rfl ?_
          obtain ⟨hj_7, h⟩ := h
          refine st_ialdR (o := 59) rfl rfl hj_7 rfl (fun y_8 hy_y_8 => ?_)
          have h := h y_8 hy_y_8
          refine st_go 1 (pc' := 41) (lo' := [(0, .ref 42), (1, .int x1), (2, .int x2)]) (st' := [.int y_8]) rfl ?_
          exact st_retI rfl rfl (hQ _ _ h)
        · have h := Eq.mp (if_neg hc_6) h
          refine st_icmp (t := 40) (b := true) rfl (decide_eq_true (Int32.not_lt.mp hc_6)) rfl ?_
          refine st_go 1 (pc' := 41) (lo' := [(0, .ref 42), (1, .int x1), (2, .int x2)]) (st' := [.int (-1)]) rfl ?_
          exact st_retI rfl rfl (hQ _ _ h)
    · have h := Eq.mp (if_neg hc_2) h
      refine st_icmp (t := 40) (b := true) rfl (decide_eq_true (Int32.not_lt.mp hc_2)) rfl ?_
      refine st_go 1 (pc' := 41) (lo' := [(0, .ref 42), (1, .int x1), (2, .int x2)]) (st' := [.int (-1)]) rfl ?_
      exact st_retI rfl rfl (hQ _ _ h)
set_option maxRecDepth 100000 in
def MO_peek (x1 : Int32) (d : vmD) (Q : Int32 → vmD → Prop) : Prop :=
  ixOk (x1 &&& 65535) 65536 ∧
  bnd (gA d 55 (x1 &&& 65535).toNatClampNeg) fun y_2 =>
  Q y_2 d
set_option maxRecDepth 100000 in
set_option maxHeartbeats 4000000 in
theorem tMO_peek {L : Nat} {e : vmD} {Qo : Option Value → vmW → Prop} {Q : Int32 → vmD → Prop} (hQ : ∀ r d, Q r d → Qo (some (.int r)) (wR L d e)) (x1 : Int32) (d : vmD) (h : MO_peek x1 d Q) : vmWp 320 0 [(0, .ref 42), (1, .int x1)] [] (wR L d e) Qo := by
  unfold MO_peek at h
  refine st_go 5 (pc' := 8) (lo' := [(0, .ref 42), (1, .int x1)]) (st' := [.int (x1 &&& 65535), .ref 55]) rfl ?_
  obtain ⟨hj_1, h⟩ := h
  refine st_ialdR (o := 55) rfl rfl hj_1 rfl (fun y_2 hy_y_2 => ?_)
  have h := h y_2 hy_y_2
  exact st_retI rfl rfl (hQ _ _ h)
set_option maxRecDepth 100000 in
def MO_plainLength (x1 : Int32) (d : vmD) (Q : Int32 → vmD → Prop) : Prop :=
  bnd ((x1 >>> ((3 : Int32) &&& 31)) &&& 7) fun x2_1 =>
  bnd (x1 &&& 7) fun x3_2 =>
  bnd (x2_1 &&& 1) fun x4_3 =>
  if (x1 >>> ((6 : Int32) &&& 31)) = 0 then
  (if x3_2 = 0 then
  (if x2_1 < 2 then
  (Q 1 d)
  else
  (Q 2 d))
  else
  (if x3_2 = 1 then
  (if x4_3 = 0 then
  (Q 3 d)
  else
  (Q 1 d))
  else
  (if x3_2 = 2 then
  (if (3 : Int32) < x2_1 then
  (Q 3 d)
  else
  (Q 1 d))
  else
  (if x3_2 = 6 then
  (Q 2 d)
  else
  (Q 1 d)))))
  else
  if (x1 >>> ((6 : Int32) &&& 31)) = 3 then
  (if x3_2 = 2 then
  (Q 3 d)
  else
  (if x3_2 = 4 then
  (Q 3 d)
  else
  (if x3_2 = 3 then
  (if x2_1 = 0 then
  (Q 3 d)
  else
  (if x2_1 = 2 then
  (Q 2 d)
  else
  (if x2_1 = 3 then
  (Q 2 d)
  else
  (Q 1 d))))
  else
  (if x3_2 = 5 then
  (if x2_1 = 1 then
  (Q 3 d)
  else
  (Q 1 d))
  else
  (if x3_2 = 6 then
  (Q 2 d)
  else
  (Q 1 d))))))
  else
  (Q 1 d)
set_option maxRecDepth 100000 in
set_option maxHeartbeats 4000000 in
theorem tMO_plainLength {L : Nat} {e : vmD} {Qo : Option Value → vmW → Prop} {Q : Int32 → vmD → Prop} (hQ : ∀ r d, Q r d → Qo (some (.int r)) (wR L d e)) (x1 : Int32) (d : vmD) (h : MO_plainLength x1 d Q) : vmWp 323 0 [(0, .ref 42), (1, .int x1)] [] (wR L d e) Qo := by
  unfold MO_plainLength at h
  refine st_go 6 (pc' := 7) (lo' := [(2, .int ((x1 >>> ((3 : Int32) &&& 31)) &&& 7)), (0, .ref 42), (1, .int x1)]) (st' := []) rfl ?_
  refine st_locI (fun x2_1 hy_x2_1 => ?_)
  have h := h x2_1 hy_x2_1
  refine st_go 4 (pc' := 12) (lo' := [(3, .int (x1 &&& 7)), (2, .int x2_1), (0, .ref 42), (1, .int x1)]) (st' := []) rfl ?_
  refine st_locI (fun x3_2 hy_x3_2 => ?_)
  have h := h x3_2 hy_x3_2
  refine st_go 4 (pc' := 17) (lo' := [(4, .int (x2_1 &&& 1)), (3, .int x3_2), (2, .int x2_1), (0, .ref 42), (1, .int x1)]) (st' := []) rfl ?_
  refine st_locI (fun x4_3 hy_x4_3 => ?_)
  have h := h x4_3 hy_x4_3
  refine st_go 3 (pc' := 21) (lo' := [(4, .int x4_3), (3, .int x3_2), (2, .int x2_1), (0, .ref 42), (1, .int x1)]) (st' := [.int (x1 >>> ((6 : Int32) &&& 31))]) rfl ?_
  by_cases hc_4 : (x1 >>> ((6 : Int32) &&& 31)) = 0
  · have h := Eq.mp (if_pos hc_4) h
    refine st_look (t := 48) rfl (by rw [hc_4]; rfl) ?_
    refine st_go 1 (pc' := 49) (lo' := [(4, .int x4_3), (3, .int x3_2), (2, .int x2_1), (0, .ref 42), (1, .int x1)]) (st' := [.int x3_2]) rfl ?_
    by_cases hc_5 : x3_2 = 0
    · have h := Eq.mp (if_pos hc_5) h
      refine st_if (t := 52) (b := false) rfl (decide_eq_false (fun z => z hc_5)) rfl ?_
      refine st_go 2 (pc' := 54) (lo' := [(4, .int x4_3), (3, .int x3_2), (2, .int x2_1), (0, .ref 42), (1, .int x1)]) (st' := [.int 2, .int x2_1]) rfl ?_
      by_cases hc_6 : x2_1 < 2
      · have h := Eq.mp (if_pos hc_6) h
        refine st_icmp (t := 57) (b := false) rfl (decide_eq_false (Int32.not_le.mpr hc_6)) rfl ?_
        refine st_go 2 (pc' := 112) (lo' := [(4, .int x4_3), (3, .int x3_2), (2, .int x2_1), (0, .ref 42), (1, .int x1)]) (st' := [.int 1]) rfl ?_
        exact st_retI rfl rfl (hQ _ _ h)
      · have h := Eq.mp (if_neg hc_6) h
        refine st_icmp (t := 61) (b := true) rfl (decide_eq_true (Int32.not_lt.mp hc_6)) rfl ?_
        refine st_go 2 (pc' := 112) (lo' := [(4, .int x4_3), (3, .int x3_2), (2, .int x2_1), (0, .ref 42), (1, .int x1)]) (st' := [.int 2]) rfl ?_
        exact st_retI rfl rfl (hQ _ _ h)
    · have h := Eq.mp (if_neg hc_5) h
      refine st_if (t := 65) (b := true) rfl (decide_eq_true hc_5) rfl ?_
      refine st_go 2 (pc' := 67) (lo' := [(4, .int x4_3), (3, .int x3_2), (2, .int x2_1), (0, .ref 42), (1, .int x1)]) (st' := [.int 1, .int x3_2]) rfl ?_
      by_cases hc_7 : x3_2 = 1
      · have h := Eq.mp (if_pos hc_7) h
        refine st_icmp (t := 70) (b := false) rfl (decide_eq_false (fun z => z hc_7)) rfl ?_
        refine st_go 1 (pc' := 72) (lo' := [(4, .int x4_3), (3, .int x3_2), (2, .int x2_1), (0, .ref 42), (1, .int x1)]) (st' := [.int x4_3]) rfl ?_
        by_cases hc_8 : x4_3 = 0
        · have h := Eq.mp (if_pos hc_8) h
          refine st_if (t := 75) (b := false) rfl (decide_eq_false (fun z => z hc_8)) rfl ?_
          refine st_go 2 (pc' := 112) (lo' := [(4, .int x4_3), (3, .int x3_2), (2, .int x2_1), (0, .ref 42), (1, .int x1)]) (st' := [.int 3]) rfl ?_
          exact st_retI rfl rfl (hQ _ _ h)
        · have h := Eq.mp (if_neg hc_8) h
          refine st_if (t := 79) (b := true) rfl (decide_eq_true hc_8) rfl ?_
          refine st_go 2 (pc' := 112) (lo' := [(4, .int x4_3), (3, .int x3_2), (2, .int x2_1), (0, .ref 42), (1, .int x1)]) (st' := [.int 1]) rfl ?_
          exact st_retI rfl rfl (hQ _ _ h)
      · have h := Eq.mp (if_neg hc_7) h
        refine st_icmp (t := 83) (b := true) rfl (decide_eq_true hc_7) rfl ?_
        refine st_go 2 (pc' := 85) (lo' := [(4, .int x4_3), (3, .int x3_2), (2, .int x2_1), (0, .ref 42), (1, .int x1)]) (st' := [.int 2, .int x3_2]) rfl ?_
        by_cases hc_9 : x3_2 = 2
        · have h := Eq.mp (if_pos hc_9) h
          refine st_icmp (t := 88) (b := false) rfl (decide_eq_false (fun z => z hc_9)) rfl ?_
          refine st_go 2 (pc' := 90) (lo' := [(4, .int x4_3), (3, .int x3_2), (2, .int x2_1), (0, .ref 42), (1, .int x1)]) (st' := [.int 3, .int x2_1]) rfl ?_
          by_cases hc_10 : (3 : Int32) < x2_1
          · have h := Eq.mp (if_pos hc_10) h
            refine st_icmp (t := 93) (b := false) rfl (decide_eq_false (Int32.not_le.mpr hc_10)) rfl ?_
            refine st_go 2 (pc' := 112) (lo' := [(4, .int x4_3), (3, .int x3_2), (2, .int x2_1), (0, .ref 42), (1, .int x1)]) (st' := [.int 3]) rfl ?_
            exact st_retI rfl rfl (hQ _ _ h)
          · have h := Eq.mp (if_neg hc_10) h
            refine st_icmp (t := 97) (b := true) rfl (decide_eq_true (Int32.not_lt.mp hc_10)) rfl ?_
            refine st_go 2 (pc' := 112) (lo' := [(4, .int x4_3), (3, .int x3_2), (2, .int x2_1), (0, .ref 42), (1, .int x1)]) (st' := [.int 1]) rfl ?_
            exact st_retI rfl rfl (hQ _ _ h)
        · have h := Eq.mp (if_neg hc_9) h
          refine st_icmp (t := 101) (b := true) rfl (decide_eq_true hc_9) rfl ?_
          refine st_go 2 (pc' := 104) (lo' := [(4, .int x4_3), (3, .int x3_2), (2, .int x2_1), (0, .ref 42), (1, .int x1)]) (st' := [.int 6, .int x3_2]) rfl ?_
          by_cases hc_11 : x3_2 = 6
          · have h := Eq.mp (if_pos hc_11) h
            refine st_icmp (t := 107) (b := false) rfl (decide_eq_false (fun z => z hc_11)) rfl ?_
            refine st_go 2 (pc' := 112) (lo' := [(4, .int x4_3), (3, .int x3_2), (2, .int x2_1), (0, .ref 42), (1, .int x1)]) (st' := [.int 2]) rfl ?_
            exact st_retI rfl rfl (hQ _ _ h)
          · have h := Eq.mp (if_neg hc_11) h
            refine st_icmp (t := 111) (b := true) rfl (decide_eq_true hc_11) rfl ?_
            refine st_go 1 (pc' := 112) (lo' := [(4, .int x4_3), (3, .int x3_2), (2, .int x2_1), (0, .ref 42), (1, .int x1)]) (st' := [.int 1]) rfl ?_
            exact st_retI rfl rfl (hQ _ _ h)
  · have h := Eq.mp (if_neg hc_4) h
    by_cases hc_12 : (x1 >>> ((6 : Int32) &&& 31)) = 3
    · have h := Eq.mp (if_pos hc_12) h
      refine st_look (t := 113) rfl (by rw [hc_12]; rfl) ?_
      refine st_go 2 (pc' := 115) (lo' := [(4, .int x4_3), (3, .int x3_2), (2, .int x2_1), (0, .ref 42), (1, .int x1)]) (st' := [.int 2, .int x3_2]) rfl ?_
      by_cases hc_13 : x3_2 = 2
      · have h := Eq.mp (if_pos hc_13) h
        refine st_icmp (t := 123) (b := true) rfl (decide_eq_true hc_13) rfl ?_
        refine st_go 2 (pc' := 187) (lo' := [(4, .int x4_3), (3, .int x3_2), (2, .int x2_1), (0, .ref 42), (1, .int x1)]) (st' := [.int 3]) rfl ?_
        exact st_retI rfl rfl (hQ _ _ h)
      · have h := Eq.mp (if_neg hc_13) h
        refine st_icmp (t := 118) (b := false) rfl (decide_eq_false hc_13) rfl ?_
        refine st_go 2 (pc' := 120) (lo' := [(4, .int x4_3), (3, .int x3_2), (2, .int x2_1), (0, .ref 42), (1, .int x1)]) (st' := [.int 4, .int x3_2]) rfl ?_
        by_cases hc_14 : x3_2 = 4
        · have h := Eq.mp (if_pos hc_14) h
          refine st_icmp (t := 123) (b := false) rfl (decide_eq_false (fun z => z hc_14)) rfl ?_
          refine st_go 2 (pc' := 187) (lo' := [(4, .int x4_3), (3, .int x3_2), (2, .int x2_1), (0, .ref 42), (1, .int x1)]) (st' := [.int 3]) rfl ?_
          exact st_retI rfl rfl (hQ _ _ h)
        · have h := Eq.mp (if_neg hc_14) h
          refine st_icmp (t := 127) (b := true) rfl (decide_eq_true hc_14) rfl ?_
          refine st_go 2 (pc' := 129) (lo' := [(4, .int x4_3), (3, .int x3_2), (2, .int x2_1), (0, .ref 42), (1, .int x1)]) (st' := [.int 3, .int x3_2]) rfl ?_
          by_cases hc_15 : x3_2 = 3
          · have h := Eq.mp (if_pos hc_15) h
            refine st_icmp (t := 132) (b := false) rfl (decide_eq_false (fun z => z hc_15)) rfl ?_
            refine st_go 1 (pc' := 133) (lo' := [(4, .int x4_3), (3, .int x3_2), (2, .int x2_1), (0, .ref 42), (1, .int x1)]) (st' := [.int x2_1]) rfl ?_
            by_cases hc_16 : x2_1 = 0
            · have h := Eq.mp (if_pos hc_16) h
              refine st_if (t := 136) (b := false) rfl (decide_eq_false (fun z => z hc_16)) rfl ?_
              refine st_go 2 (pc' := 187) (lo' := [(4, .int x4_3), (3, .int x3_2), (2, .int x2_1), (0, .ref 42), (1, .int x1)]) (st' := [.int 3]) rfl ?_
              exact st_retI rfl rfl (hQ _ _ h)
            · have h := Eq.mp (if_neg hc_16) h
              refine st_if (t := 140) (b := true) rfl (decide_eq_true hc_16) rfl ?_
              refine st_go 2 (pc' := 142) (lo' := [(4, .int x4_3), (3, .int x3_2), (2, .int x2_1), (0, .ref 42), (1, .int x1)]) (st' := [.int 2, .int x2_1]) rfl ?_
              by_cases hc_17 : x2_1 = 2
              · have h := Eq.mp (if_pos hc_17) h
                refine st_icmp (t := 150) (b := true) rfl (decide_eq_true hc_17) rfl ?_
                refine st_go 2 (pc' := 187) (lo' := [(4, .int x4_3), (3, .int x3_2), (2, .int x2_1), (0, .ref 42), (1, .int x1)]) (st' := [.int 2]) rfl ?_
                exact st_retI rfl rfl (hQ _ _ h)
              · have h := Eq.mp (if_neg hc_17) h
                refine st_icmp (t := 145) (b := false) rfl (decide_eq_false hc_17) rfl ?_
                refine st_go 2 (pc' := 147) (lo' := [(4, .int x4_3), (3, .int x3_2), (2, .int x2_1), (0, .ref 42), (1, .int x1)]) (st' := [.int 3, .int x2_1]) rfl ?_
                by_cases hc_18 : x2_1 = 3
                · have h := Eq.mp (if_pos hc_18) h
                  refine st_icmp (t := 150) (b := false) rfl (decide_eq_false (fun z => z hc_18)) rfl ?_
                  refine st_go 2 (pc' := 187) (lo' := [(4, .int x4_3), (3, .int x3_2), (2, .int x2_1), (0, .ref 42), (1, .int x1)]) (st' := [.int 2]) rfl ?_
                  exact st_retI rfl rfl (hQ _ _ h)
                · have h := Eq.mp (if_neg hc_18) h
                  refine st_icmp (t := 154) (b := true) rfl (decide_eq_true hc_18) rfl ?_
                  refine st_go 2 (pc' := 187) (lo' := [(4, .int x4_3), (3, .int x3_2), (2, .int x2_1), (0, .ref 42), (1, .int x1)]) (st' := [.int 1]) rfl ?_
                  exact st_retI rfl rfl (hQ _ _ h)
          · have h := Eq.mp (if_neg hc_15) h
            refine st_icmp (t := 158) (b := true) rfl (decide_eq_true hc_15) rfl ?_
            refine st_go 2 (pc' := 160) (lo' := [(4, .int x4_3), (3, .int x3_2), (2, .int x2_1), (0, .ref 42), (1, .int x1)]) (st' := [.int 5, .int x3_2]) rfl ?_
            by_cases hc_19 : x3_2 = 5
            · have h := Eq.mp (if_pos hc_19) h
              refine st_icmp (t := 163) (b := false) rfl (decide_eq_false (fun z => z hc_19)) rfl ?_
              refine st_go 2 (pc' := 165) (lo' := [(4, .int x4_3), (3, .int x3_2), (2, .int x2_1), (0, .ref 42), (1, .int x1)]) (st' := [.int 1, .int x2_1]) rfl ?_
              by_cases hc_20 : x2_1 = 1
              · have h := Eq.mp (if_pos hc_20) h
                refine st_icmp (t := 168) (b := false) rfl (decide_eq_false (fun z => z hc_20)) rfl ?_
                refine st_go 2 (pc' := 187) (lo' := [(4, .int x4_3), (3, .int x3_2), (2, .int x2_1), (0, .ref 42), (1, .int x1)]) (st' := [.int 3]) rfl ?_
                exact st_retI rfl rfl (hQ _ _ h)
              · have h := Eq.mp (if_neg hc_20) h
                refine st_icmp (t := 172) (b := true) rfl (decide_eq_true hc_20) rfl ?_
                refine st_go 2 (pc' := 187) (lo' := [(4, .int x4_3), (3, .int x3_2), (2, .int x2_1), (0, .ref 42), (1, .int x1)]) (st' := [.int 1]) rfl ?_
                exact st_retI rfl rfl (hQ _ _ h)
            · have h := Eq.mp (if_neg hc_19) h
              refine st_icmp (t := 176) (b := true) rfl (decide_eq_true hc_19) rfl ?_
              refine st_go 2 (pc' := 179) (lo' := [(4, .int x4_3), (3, .int x3_2), (2, .int x2_1), (0, .ref 42), (1, .int x1)]) (st' := [.int 6, .int x3_2]) rfl ?_
              by_cases hc_21 : x3_2 = 6
              · have h := Eq.mp (if_pos hc_21) h
                refine st_icmp (t := 182) (b := false) rfl (decide_eq_false (fun z => z hc_21)) rfl ?_
                refine st_go 2 (pc' := 187) (lo' := [(4, .int x4_3), (3, .int x3_2), (2, .int x2_1), (0, .ref 42), (1, .int x1)]) (st' := [.int 2]) rfl ?_
                exact st_retI rfl rfl (hQ _ _ h)
              · have h := Eq.mp (if_neg hc_21) h
                refine st_icmp (t := 186) (b := true) rfl (decide_eq_true hc_21) rfl ?_
                refine st_go 1 (pc' := 187) (lo' := [(4, .int x4_3), (3, .int x3_2), (2, .int x2_1), (0, .ref 42), (1, .int x1)]) (st' := [.int 1]) rfl ?_
                exact st_retI rfl rfl (hQ _ _ h)
    · have h := Eq.mp (if_neg hc_12) h
      refine st_look (t := 188) rfl (look_def (by
        intro q hq hx
        simp only [List.mem_cons, List.not_mem_nil, or_false] at hq
        rcases hq with rfl | rfl <;> first | rfl | exact absurd (Int32.toInt_inj.mp hx.symm) hc_4 | exact absurd (Int32.toInt_inj.mp hx.symm) hc_12) rfl) ?_
      refine st_go 1 (pc' := 189) (lo' := [(4, .int x4_3), (3, .int x3_2), (2, .int x2_1), (0, .ref 42), (1, .int x1)]) (st' := [.int 1]) rfl ?_
      exact st_retI rfl rfl (hQ _ _ h)
set_option maxRecDepth 100000 in
def MO_isBehind237 (x1 : Int32) (d : vmD) (Q : Int32 → vmD → Prop) : Prop :=
  bnd ((x1 >>> ((3 : Int32) &&& 31)) &&& 7) fun x2_1 =>
  bnd (x1 &&& 7) fun x3_2 =>
  if (x1 >>> ((6 : Int32) &&& 31)) = 2 then
  (if (3 : Int32) < x2_1 then
  (if x3_2 < 4 then
  (Q 1 d)
  else
  (Q 0 d))
  else
  (Q 0 d))
  else
  (if (x1 >>> ((6 : Int32) &&& 31)) = 1 then
  (if x3_2 = 0 then
  (if x2_1 = 6 then
  (Q 0 d)
  else
  (Q 1 d))
  else
  if x3_2 = 1 then
  (if x2_1 = 6 then
  (Q 0 d)
  else
  (Q 1 d))
  else
  if x3_2 = 2 then
  (Q 1 d)
  else
  if x3_2 = 3 then
  (if (x2_1 >>> ((1 : Int32) &&& 31)) = 2 then
  (Q 0 d)
  else
  (Q 1 d))
  else
  if x3_2 = 4 then
  (if x2_1 = 0 then
  (Q 1 d)
  else
  (Q 0 d))
  else
  if x3_2 = 5 then
  (if x2_1 < 2 then
  (Q 1 d)
  else
  (Q 0 d))
  else
  if x3_2 = 6 then
  (if x2_1 = 0 then
  (Q 1 d)
  else
  (if x2_1 = 2 then
  (Q 1 d)
  else
  (if x2_1 = 3 then
  (Q 1 d)
  else
  (Q 0 d))))
  else
  (if x2_1 < 6 then
  (Q 1 d)
  else
  (Q 0 d)))
  else
  (Q 0 d))
set_option maxRecDepth 100000 in
set_option maxHeartbeats 4000000 in
theorem tMO_isBehind237 {L : Nat} {e : vmD} {Qo : Option Value → vmW → Prop} {Q : Int32 → vmD → Prop} (hQ : ∀ r d, Q r d → Qo (some (.int r)) (wR L d e)) (x1 : Int32) (d : vmD) (h : MO_isBehind237 x1 d Q) : vmWp 326 0 [(0, .ref 42), (1, .int x1)] [] (wR L d e) Qo := by
  unfold MO_isBehind237 at h
  refine st_go 6 (pc' := 7) (lo' := [(2, .int ((x1 >>> ((3 : Int32) &&& 31)) &&& 7)), (0, .ref 42), (1, .int x1)]) (st' := []) rfl ?_
  refine st_locI (fun x2_1 hy_x2_1 => ?_)
  have h := h x2_1 hy_x2_1
  refine st_go 4 (pc' := 12) (lo' := [(3, .int (x1 &&& 7)), (2, .int x2_1), (0, .ref 42), (1, .int x1)]) (st' := []) rfl ?_
  refine st_locI (fun x3_2 hy_x3_2 => ?_)
  have h := h x3_2 hy_x3_2
  refine st_go 4 (pc' := 17) (lo' := [(3, .int x3_2), (2, .int x2_1), (0, .ref 42), (1, .int x1)]) (st' := [.int 2, .int (x1 >>> ((6 : Int32) &&& 31))]) rfl ?_
  by_cases hc_3 : (x1 >>> ((6 : Int32) &&& 31)) = 2
  · have h := Eq.mp (if_pos hc_3) h
    refine st_icmp (t := 20) (b := false) rfl (decide_eq_false (fun z => z hc_3)) rfl ?_
    refine st_go 2 (pc' := 22) (lo' := [(3, .int x3_2), (2, .int x2_1), (0, .ref 42), (1, .int x1)]) (st' := [.int 3, .int x2_1]) rfl ?_
    by_cases hc_4 : (3 : Int32) < x2_1
    · have h := Eq.mp (if_pos hc_4) h
      refine st_icmp (t := 25) (b := false) rfl (decide_eq_false (Int32.not_le.mpr hc_4)) rfl ?_
      refine st_go 2 (pc' := 27) (lo' := [(3, .int x3_2), (2, .int x2_1), (0, .ref 42), (1, .int x1)]) (st' := [.int 4, .int x3_2]) rfl ?_
      by_cases hc_5 : x3_2 < 4
      · have h := Eq.mp (if_pos hc_5) h
        refine st_icmp (t := 30) (b := false) rfl (decide_eq_false (Int32.not_le.mpr hc_5)) rfl ?_
        refine st_go 2 (pc' := 35) (lo' := [(3, .int x3_2), (2, .int x2_1), (0, .ref 42), (1, .int x1)]) (st' := [.int 1]) rfl ?_
        exact st_retZ rfl rfl (Or.inr rfl) (hQ _ _ h)
      · have h := Eq.mp (if_neg hc_5) h
        refine st_icmp (t := 34) (b := true) rfl (decide_eq_true (Int32.not_lt.mp hc_5)) rfl ?_
        refine st_go 1 (pc' := 35) (lo' := [(3, .int x3_2), (2, .int x2_1), (0, .ref 42), (1, .int x1)]) (st' := [.int 0]) rfl ?_
        exact st_retZ rfl rfl (Or.inl rfl) (hQ _ _ h)
    · have h := Eq.mp (if_neg hc_4) h
      refine st_icmp (t := 34) (b := true) rfl (decide_eq_true (Int32.not_lt.mp hc_4)) rfl ?_
      refine st_go 1 (pc' := 35) (lo' := [(3, .int x3_2), (2, .int x2_1), (0, .ref 42), (1, .int x1)]) (st' := [.int 0]) rfl ?_
      exact st_retZ rfl rfl (Or.inl rfl) (hQ _ _ h)
  · have h := Eq.mp (if_neg hc_3) h
    refine st_icmp (t := 36) (b := true) rfl (decide_eq_true hc_3) rfl ?_
    refine st_go 4 (pc' := 41) (lo' := [(3, .int x3_2), (2, .int x2_1), (0, .ref 42), (1, .int x1)]) (st' := [.int 1, .int (x1 >>> ((6 : Int32) &&& 31))]) rfl ?_
    by_cases hc_6 : (x1 >>> ((6 : Int32) &&& 31)) = 1
    · have h := Eq.mp (if_pos hc_6) h
      refine st_icmp (t := 46) (b := true) rfl (decide_eq_true hc_6) rfl ?_
      refine st_go 1 (pc' := 47) (lo' := [(3, .int x3_2), (2, .int x2_1), (0, .ref 42), (1, .int x1)]) (st' := [.int x3_2]) rfl ?_
      by_cases hc_7 : x3_2 = 0
      · have h := Eq.mp (if_pos hc_7) h
        refine st_tab (t := 88) rfl (by rw [hc_7]; rfl) ?_
        refine st_go 2 (pc' := 91) (lo' := [(3, .int x3_2), (2, .int x2_1), (0, .ref 42), (1, .int x1)]) (st' := [.int 6, .int x2_1]) rfl ?_
        by_cases hc_8 : x2_1 = 6
        · have h := Eq.mp (if_pos hc_8) h
          refine st_icmp (t := 98) (b := true) rfl (decide_eq_true hc_8) rfl ?_
          refine st_go 1 (pc' := 99) (lo' := [(3, .int x3_2), (2, .int x2_1), (0, .ref 42), (1, .int x1)]) (st' := [.int 0]) rfl ?_
          exact st_retZ rfl rfl (Or.inl rfl) (hQ _ _ h)
        · have h := Eq.mp (if_neg hc_8) h
          refine st_icmp (t := 94) (b := false) rfl (decide_eq_false hc_8) rfl ?_
          refine st_go 2 (pc' := 99) (lo' := [(3, .int x3_2), (2, .int x2_1), (0, .ref 42), (1, .int x1)]) (st' := [.int 1]) rfl ?_
          exact st_retZ rfl rfl (Or.inr rfl) (hQ _ _ h)
      · have h := Eq.mp (if_neg hc_7) h
        by_cases hc_9 : x3_2 = 1
        · have h := Eq.mp (if_pos hc_9) h
          refine st_tab (t := 88) rfl (by rw [hc_9]; rfl) ?_
          refine st_go 2 (pc' := 91) (lo' := [(3, .int x3_2), (2, .int x2_1), (0, .ref 42), (1, .int x1)]) (st' := [.int 6, .int x2_1]) rfl ?_
          by_cases hc_10 : x2_1 = 6
          · have h := Eq.mp (if_pos hc_10) h
            refine st_icmp (t := 98) (b := true) rfl (decide_eq_true hc_10) rfl ?_
            refine st_go 1 (pc' := 99) (lo' := [(3, .int x3_2), (2, .int x2_1), (0, .ref 42), (1, .int x1)]) (st' := [.int 0]) rfl ?_
            exact st_retZ rfl rfl (Or.inl rfl) (hQ _ _ h)
          · have h := Eq.mp (if_neg hc_10) h
            refine st_icmp (t := 94) (b := false) rfl (decide_eq_false hc_10) rfl ?_
            refine st_go 2 (pc' := 99) (lo' := [(3, .int x3_2), (2, .int x2_1), (0, .ref 42), (1, .int x1)]) (st' := [.int 1]) rfl ?_
            exact st_retZ rfl rfl (Or.inr rfl) (hQ _ _ h)
        · have h := Eq.mp (if_neg hc_9) h
          by_cases hc_11 : x3_2 = 2
          · have h := Eq.mp (if_pos hc_11) h
            refine st_tab (t := 100) rfl (by rw [hc_11]; rfl) ?_
            refine st_go 1 (pc' := 101) (lo' := [(3, .int x3_2), (2, .int x2_1), (0, .ref 42), (1, .int x1)]) (st' := [.int 1]) rfl ?_
            exact st_retZ rfl rfl (Or.inr rfl) (hQ _ _ h)
          · have h := Eq.mp (if_neg hc_11) h
            by_cases hc_12 : x3_2 = 3
            · have h := Eq.mp (if_pos hc_12) h
              refine st_tab (t := 102) rfl (by rw [hc_12]; rfl) ?_
              refine st_go 4 (pc' := 106) (lo' := [(3, .int x3_2), (2, .int x2_1), (0, .ref 42), (1, .int x1)]) (st' := [.int 2, .int (x2_1 >>> ((1 : Int32) &&& 31))]) rfl ?_
              by_cases hc_13 : (x2_1 >>> ((1 : Int32) &&& 31)) = 2
              · have h := Eq.mp (if_pos hc_13) h
                refine st_icmp (t := 113) (b := true) rfl (decide_eq_true hc_13) rfl ?_
                refine st_go 1 (pc' := 114) (lo' := [(3, .int x3_2), (2, .int x2_1), (0, .ref 42), (1, .int x1)]) (st' := [.int 0]) rfl ?_
                exact st_retZ rfl rfl (Or.inl rfl) (hQ _ _ h)
              · have h := Eq.mp (if_neg hc_13) h
                refine st_icmp (t := 109) (b := false) rfl (decide_eq_false hc_13) rfl ?_
                refine st_go 2 (pc' := 114) (lo' := [(3, .int x3_2), (2, .int x2_1), (0, .ref 42), (1, .int x1)]) (st' := [.int 1]) rfl ?_
                exact st_retZ rfl rfl (Or.inr rfl) (hQ _ _ h)
            · have h := Eq.mp (if_neg hc_12) h
              by_cases hc_14 : x3_2 = 4
              · have h := Eq.mp (if_pos hc_14) h
                refine st_tab (t := 115) rfl (by rw [hc_14]; rfl) ?_
                refine st_go 1 (pc' := 116) (lo' := [(3, .int x3_2), (2, .int x2_1), (0, .ref 42), (1, .int x1)]) (st' := [.int x2_1]) rfl ?_
                by_cases hc_15 : x2_1 = 0
                · have h := Eq.mp (if_pos hc_15) h
                  refine st_if (t := 119) (b := false) rfl (decide_eq_false (fun z => z hc_15)) rfl ?_
                  refine st_go 2 (pc' := 124) (lo' := [(3, .int x3_2), (2, .int x2_1), (0, .ref 42), (1, .int x1)]) (st' := [.int 1]) rfl ?_
                  exact st_retZ rfl rfl (Or.inr rfl) (hQ _ _ h)
                · have h := Eq.mp (if_neg hc_15) h
                  refine st_if (t := 123) (b := true) rfl (decide_eq_true hc_15) rfl ?_
                  refine st_go 1 (pc' := 124) (lo' := [(3, .int x3_2), (2, .int x2_1), (0, .ref 42), (1, .int x1)]) (st' := [.int 0]) rfl ?_
                  exact st_retZ rfl rfl (Or.inl rfl) (hQ _ _ h)
              · have h := Eq.mp (if_neg hc_14) h
                by_cases hc_16 : x3_2 = 5
                · have h := Eq.mp (if_pos hc_16) h
                  refine st_tab (t := 125) rfl (by rw [hc_16]; rfl) ?_
                  refine st_go 2 (pc' := 127) (lo' := [(3, .int x3_2), (2, .int x2_1), (0, .ref 42), (1, .int x1)]) (st' := [.int 2, .int x2_1]) rfl ?_
                  by_cases hc_17 : x2_1 < 2
                  · have h := Eq.mp (if_pos hc_17) h
                    refine st_icmp (t := 130) (b := false) rfl (decide_eq_false (Int32.not_le.mpr hc_17)) rfl ?_
                    refine st_go 2 (pc' := 135) (lo' := [(3, .int x3_2), (2, .int x2_1), (0, .ref 42), (1, .int x1)]) (st' := [.int 1]) rfl ?_
                    exact st_retZ rfl rfl (Or.inr rfl) (hQ _ _ h)
                  · have h := Eq.mp (if_neg hc_17) h
                    refine st_icmp (t := 134) (b := true) rfl (decide_eq_true (Int32.not_lt.mp hc_17)) rfl ?_
                    refine st_go 1 (pc' := 135) (lo' := [(3, .int x3_2), (2, .int x2_1), (0, .ref 42), (1, .int x1)]) (st' := [.int 0]) rfl ?_
                    exact st_retZ rfl rfl (Or.inl rfl) (hQ _ _ h)
                · have h := Eq.mp (if_neg hc_16) h
                  by_cases hc_18 : x3_2 = 6
                  · have h := Eq.mp (if_pos hc_18) h
                    refine st_tab (t := 136) rfl (by rw [hc_18]; rfl) ?_
                    refine st_go 1 (pc' := 137) (lo' := [(3, .int x3_2), (2, .int x2_1), (0, .ref 42), (1, .int x1)]) (st' := [.int x2_1]) rfl ?_
                    by_cases hc_19 : x2_1 = 0
                    · have h := Eq.mp (if_pos hc_19) h
                      refine st_if (t := 150) (b := true) rfl (decide_eq_true hc_19) rfl ?_
                      refine st_go 2 (pc' := 155) (lo' := [(3, .int x3_2), (2, .int x2_1), (0, .ref 42), (1, .int x1)]) (st' := [.int 1]) rfl ?_
                      exact st_retZ rfl rfl (Or.inr rfl) (hQ _ _ h)
                    · have h := Eq.mp (if_neg hc_19) h
                      refine st_if (t := 140) (b := false) rfl (decide_eq_false hc_19) rfl ?_
                      refine st_go 2 (pc' := 142) (lo' := [(3, .int x3_2), (2, .int x2_1), (0, .ref 42), (1, .int x1)]) (st' := [.int 2, .int x2_1]) rfl ?_
                      by_cases hc_20 : x2_1 = 2
                      · have h := Eq.mp (if_pos hc_20) h
                        refine st_icmp (t := 150) (b := true) rfl (decide_eq_true hc_20) rfl ?_
                        refine st_go 2 (pc' := 155) (lo' := [(3, .int x3_2), (2, .int x2_1), (0, .ref 42), (1, .int x1)]) (st' := [.int 1]) rfl ?_
                        exact st_retZ rfl rfl (Or.inr rfl) (hQ _ _ h)
                      · have h := Eq.mp (if_neg hc_20) h
                        refine st_icmp (t := 145) (b := false) rfl (decide_eq_false hc_20) rfl ?_
                        refine st_go 2 (pc' := 147) (lo' := [(3, .int x3_2), (2, .int x2_1), (0, .ref 42), (1, .int x1)]) (st' := [.int 3, .int x2_1]) rfl ?_
                        by_cases hc_21 : x2_1 = 3
                        · have h := Eq.mp (if_pos hc_21) h
                          refine st_icmp (t := 150) (b := false) rfl (decide_eq_false (fun z => z hc_21)) rfl ?_
                          refine st_go 2 (pc' := 155) (lo' := [(3, .int x3_2), (2, .int x2_1), (0, .ref 42), (1, .int x1)]) (st' := [.int 1]) rfl ?_
                          exact st_retZ rfl rfl (Or.inr rfl) (hQ _ _ h)
                        · have h := Eq.mp (if_neg hc_21) h
                          refine st_icmp (t := 154) (b := true) rfl (decide_eq_true hc_21) rfl ?_
                          refine st_go 1 (pc' := 155) (lo' := [(3, .int x3_2), (2, .int x2_1), (0, .ref 42), (1, .int x1)]) (st' := [.int 0]) rfl ?_
                          exact st_retZ rfl rfl (Or.inl rfl) (hQ _ _ h)
                  · have h := Eq.mp (if_neg hc_18) h
                    refine st_tab (t := 156) rfl (tab_def rfl (by decide) rfl (by
                      intro j hj hx
                      have hj : j < 7 := hj
                      rcases (j = 0 ∨ j = 1 ∨ j = 2 ∨ j = 3 ∨ j = 4 ∨ j = 5 ∨ j = 6 : Prop) |> fun _ => (show j = 0 ∨ j = 1 ∨ j = 2 ∨ j = 3 ∨ j = 4 ∨ j = 5 ∨ j = 6 by omega) with rfl | rfl | rfl | rfl | rfl | rfl | rfl <;> first | rfl | exact absurd hx hc_7 | exact absurd hx hc_9 | exact absurd hx hc_11 | exact absurd hx hc_12 | exact absurd hx hc_14 | exact absurd hx hc_16 | exact absurd hx hc_18)) ?_
                    refine st_go 2 (pc' := 159) (lo' := [(3, .int x3_2), (2, .int x2_1), (0, .ref 42), (1, .int x1)]) (st' := [.int 6, .int x2_1]) rfl ?_
                    by_cases hc_22 : x2_1 < 6
                    · have h := Eq.mp (if_pos hc_22) h
                      refine st_icmp (t := 162) (b := false) rfl (decide_eq_false (Int32.not_le.mpr hc_22)) rfl ?_
                      refine st_go 2 (pc' := 167) (lo' := [(3, .int x3_2), (2, .int x2_1), (0, .ref 42), (1, .int x1)]) (st' := [.int 1]) rfl ?_
                      exact st_retZ rfl rfl (Or.inr rfl) (hQ _ _ h)
                    · have h := Eq.mp (if_neg hc_22) h
                      refine st_icmp (t := 166) (b := true) rfl (decide_eq_true (Int32.not_lt.mp hc_22)) rfl ?_
                      refine st_go 1 (pc' := 167) (lo' := [(3, .int x3_2), (2, .int x2_1), (0, .ref 42), (1, .int x1)]) (st' := [.int 0]) rfl ?_
                      exact st_retZ rfl rfl (Or.inl rfl) (hQ _ _ h)
    · have h := Eq.mp (if_neg hc_6) h
      refine st_icmp (t := 44) (b := false) rfl (decide_eq_false hc_6) rfl ?_
      refine st_go 1 (pc' := 45) (lo' := [(3, .int x3_2), (2, .int x2_1), (0, .ref 42), (1, .int x1)]) (st' := [.int 0]) rfl ?_
      exact st_retZ rfl rfl (Or.inl rfl) (hQ _ _ h)
set_option maxRecDepth 100000 in
def MO_signed (x1 : Int32) (d : vmD) (Q : Int32 → vmD → Prop) : Prop :=
  if (127 : Int32) < x1 then
  (Q (x1 - 256) d)
  else
  (Q x1 d)
set_option maxRecDepth 100000 in
set_option maxHeartbeats 4000000 in
theorem tMO_signed {L : Nat} {e : vmD} {Qo : Option Value → vmW → Prop} {Q : Int32 → vmD → Prop} (hQ : ∀ r d, Q r d → Qo (some (.int r)) (wR L d e)) (x1 : Int32) (d : vmD) (h : MO_signed x1 d Q) : vmWp 322 0 [(0, .ref 42), (1, .int x1)] [] (wR L d e) Qo := by
  unfold MO_signed at h
  refine st_go 2 (pc' := 3) (lo' := [(0, .ref 42), (1, .int x1)]) (st' := [.int 127, .int x1]) rfl ?_
  by_cases hc_1 : (127 : Int32) < x1
  · have h := Eq.mp (if_pos hc_1) h
    refine st_icmp (t := 6) (b := false) rfl (decide_eq_false (Int32.not_le.mpr hc_1)) rfl ?_
    refine st_go 4 (pc' := 15) (lo' := [(0, .ref 42), (1, .int x1)]) (st' := [.int (x1 - 256)]) rfl ?_
    exact st_retI rfl rfl (hQ _ _ h)
  · have h := Eq.mp (if_neg hc_1) h
    refine st_icmp (t := 14) (b := true) rfl (decide_eq_true (Int32.not_lt.mp hc_1)) rfl ?_
    refine st_go 1 (pc' := 15) (lo' := [(0, .ref 42), (1, .int x1)]) (st' := [.int x1]) rfl ?_
    exact st_retI rfl rfl (hQ _ _ h)
set_option maxRecDepth 100000 in
def MO_hasPlace_54 (x2 : Int32) (x3 : Int32) (x4 : Int32) (d : vmD) (Q : Int32 → vmD → Prop) : Prop :=
  if x4 = 0 then
  (if x2 = 6 then
  (if (3 : Int32) < x3 then
  (if x3 < 7 then
  (Q 1 d)
  else
  (Q 0 d))
  else
  (Q 0 d))
  else
  (Q 0 d))
  else
  (Q 0 d)
set_option maxRecDepth 100000 in
set_option maxHeartbeats 4000000 in
theorem tMO_hasPlace_54 {L : Nat} {e : vmD} {Qo : Option Value → vmW → Prop} {Q : Int32 → vmD → Prop} (hQ : ∀ r d, Q r d → Qo (some (.int r)) (wR L d e)) (x2 : Int32) (x3 : Int32) (x4 : Int32) (d : vmD) (h : MO_hasPlace_54 x2 x3 x4 d Q) : vmWp 324 54 [(2, .int x2), (3, .int x3), (4, .int x4)] [] (wR L d e) Qo := by
  unfold MO_hasPlace_54 at h
  refine st_go 1 (pc' := 56) (lo' := [(2, .int x2), (3, .int x3), (4, .int x4)]) (st' := [.int x4]) rfl ?_
  by_cases hc_9 : x4 = 0
  · have h := Eq.mp (if_pos hc_9) h
    refine st_if (t := 59) (b := false) rfl (decide_eq_false (fun z => z hc_9)) rfl ?_
    refine st_go 2 (pc' := 62) (lo' := [(2, .int x2), (3, .int x3), (4, .int x4)]) (st' := [.int 6, .int x2]) rfl ?_
    by_cases hc_10 : x2 = 6
    · have h := Eq.mp (if_pos hc_10) h
      refine st_icmp (t := 65) (b := false) rfl (decide_eq_false (fun z => z hc_10)) rfl ?_
      refine st_go 2 (pc' := 67) (lo' := [(2, .int x2), (3, .int x3), (4, .int x4)]) (st' := [.int 3, .int x3]) rfl ?_
      by_cases hc_11 : (3 : Int32) < x3
      · have h := Eq.mp (if_pos hc_11) h
        refine st_icmp (t := 70) (b := false) rfl (decide_eq_false (Int32.not_le.mpr hc_11)) rfl ?_
        refine st_go 2 (pc' := 73) (lo' := [(2, .int x2), (3, .int x3), (4, .int x4)]) (st' := [.int 7, .int x3]) rfl ?_
        by_cases hc_12 : x3 < 7
        · have h := Eq.mp (if_pos hc_12) h
          refine st_icmp (t := 76) (b := false) rfl (decide_eq_false (Int32.not_le.mpr hc_12)) rfl ?_
          refine st_go 2 (pc' := 81) (lo' := [(2, .int x2), (3, .int x3), (4, .int x4)]) (st' := [.int 1]) rfl ?_
          exact st_retZ rfl rfl (Or.inr rfl) (hQ _ _ h)
        · have h := Eq.mp (if_neg hc_12) h
          refine st_icmp (t := 80) (b := true) rfl (decide_eq_true (Int32.not_lt.mp hc_12)) rfl ?_
          refine st_go 1 (pc' := 81) (lo' := [(2, .int x2), (3, .int x3), (4, .int x4)]) (st' := [.int 0]) rfl ?_
          exact st_retZ rfl rfl (Or.inl rfl) (hQ _ _ h)
      · have h := Eq.mp (if_neg hc_11) h
        refine st_icmp (t := 80) (b := true) rfl (decide_eq_true (Int32.not_lt.mp hc_11)) rfl ?_
        refine st_go 1 (pc' := 81) (lo' := [(2, .int x2), (3, .int x3), (4, .int x4)]) (st' := [.int 0]) rfl ?_
        exact st_retZ rfl rfl (Or.inl rfl) (hQ _ _ h)
    · have h := Eq.mp (if_neg hc_10) h
      refine st_icmp (t := 80) (b := true) rfl (decide_eq_true hc_10) rfl ?_
      refine st_go 1 (pc' := 81) (lo' := [(2, .int x2), (3, .int x3), (4, .int x4)]) (st' := [.int 0]) rfl ?_
      exact st_retZ rfl rfl (Or.inl rfl) (hQ _ _ h)
  · have h := Eq.mp (if_neg hc_9) h
    refine st_if (t := 80) (b := true) rfl (decide_eq_true hc_9) rfl ?_
    refine st_go 1 (pc' := 81) (lo' := [(2, .int x2), (3, .int x3), (4, .int x4)]) (st' := [.int 0]) rfl ?_
    exact st_retZ rfl rfl (Or.inl rfl) (hQ _ _ h)
set_option maxRecDepth 100000 in
def MO_hasPlace_42 (x2 : Int32) (x3 : Int32) (x4 : Int32) (d : vmD) (Q : Int32 → vmD → Prop) : Prop :=
  if x4 = 2 then
  (if x3 = 6 then
  (Q 1 d)
  else
  (MO_hasPlace_54 x2 x3 x4 d Q))
  else
  (MO_hasPlace_54 x2 x3 x4 d Q)
set_option maxRecDepth 100000 in
set_option maxHeartbeats 4000000 in
theorem tMO_hasPlace_42 {L : Nat} {e : vmD} {Qo : Option Value → vmW → Prop} {Q : Int32 → vmD → Prop} (hQ : ∀ r d, Q r d → Qo (some (.int r)) (wR L d e)) (x2 : Int32) (x3 : Int32) (x4 : Int32) (d : vmD) (h : MO_hasPlace_42 x2 x3 x4 d Q) : vmWp 324 42 [(2, .int x2), (3, .int x3), (4, .int x4)] [] (wR L d e) Qo := by
  unfold MO_hasPlace_42 at h
  refine st_go 2 (pc' := 45) (lo' := [(2, .int x2), (3, .int x3), (4, .int x4)]) (st' := [.int 2, .int x4]) rfl ?_
  by_cases hc_7 : x4 = 2
  · have h := Eq.mp (if_pos hc_7) h
    refine st_icmp (t := 48) (b := false) rfl (decide_eq_false (fun z => z hc_7)) rfl ?_
    refine st_go 2 (pc' := 51) (lo' := [(2, .int x2), (3, .int x3), (4, .int x4)]) (st' := [.int 6, .int x3]) rfl ?_
    by_cases hc_8 : x3 = 6
    · have h := Eq.mp (if_pos hc_8) h
      refine st_icmp (t := 76) (b := true) rfl (decide_eq_true hc_8) rfl ?_
      refine st_go 2 (pc' := 81) (lo' := [(2, .int x2), (3, .int x3), (4, .int x4)]) (st' := [.int 1]) rfl ?_
      exact st_retZ rfl rfl (Or.inr rfl) (hQ _ _ h)
    · have h := Eq.mp (if_neg hc_8) h
      refine st_icmp (t := 54) (b := false) rfl (decide_eq_false hc_8) rfl ?_
      refine vmWp.sub (lo' := [(2, .int x2), (3, .int x3), (4, .int x4)]) ⟨rfl, rfl, rfl, trivial⟩ ?_
      exact tMO_hasPlace_54 hQ x2 x3 x4 d h
  · have h := Eq.mp (if_neg hc_7) h
    refine st_icmp (t := 54) (b := true) rfl (decide_eq_true hc_7) rfl ?_
    refine vmWp.sub (lo' := [(2, .int x2), (3, .int x3), (4, .int x4)]) ⟨rfl, rfl, rfl, trivial⟩ ?_
    exact tMO_hasPlace_54 hQ x2 x3 x4 d h
set_option maxRecDepth 100000 in
def MO_hasPlace_36 (x1 : Int32) (x2 : Int32) (x3 : Int32) (x4 : Int32) (d : vmD) (Q : Int32 → vmD → Prop) : Prop :=
  if x1 = 118 then
  (MO_hasPlace_42 x2 x3 x4 d Q)
  else
  (Q 1 d)
set_option maxRecDepth 100000 in
set_option maxHeartbeats 4000000 in
theorem tMO_hasPlace_36 {L : Nat} {e : vmD} {Qo : Option Value → vmW → Prop} {Q : Int32 → vmD → Prop} (hQ : ∀ r d, Q r d → Qo (some (.int r)) (wR L d e)) (x1 : Int32) (x2 : Int32) (x3 : Int32) (x4 : Int32) (d : vmD) (h : MO_hasPlace_36 x1 x2 x3 x4 d Q) : vmWp 324 36 [(1, .int x1), (2, .int x2), (3, .int x3), (4, .int x4)] [] (wR L d e) Qo := by
  unfold MO_hasPlace_36 at h
  refine st_go 2 (pc' := 39) (lo' := [(1, .int x1), (2, .int x2), (3, .int x3), (4, .int x4)]) (st' := [.int 118, .int x1]) rfl ?_
  by_cases hc_6 : x1 = 118
  · have h := Eq.mp (if_pos hc_6) h
    refine st_icmp (t := 42) (b := false) rfl (decide_eq_false (fun z => z hc_6)) rfl ?_
    refine vmWp.sub (lo' := [(2, .int x2), (3, .int x3), (4, .int x4)]) ⟨rfl, rfl, rfl, trivial⟩ ?_
    exact tMO_hasPlace_42 hQ x2 x3 x4 d h
  · have h := Eq.mp (if_neg hc_6) h
    refine st_icmp (t := 76) (b := true) rfl (decide_eq_true hc_6) rfl ?_
    refine st_go 2 (pc' := 81) (lo' := [(1, .int x1), (2, .int x2), (3, .int x3), (4, .int x4)]) (st' := [.int 1]) rfl ?_
    exact st_retZ rfl rfl (Or.inr rfl) (hQ _ _ h)
set_option maxRecDepth 100000 in
def MO_hasPlace (x1 : Int32) (d : vmD) (Q : Int32 → vmD → Prop) : Prop :=
  bnd ((x1 >>> ((3 : Int32) &&& 31)) &&& 7) fun x2_1 =>
  bnd (x1 &&& 7) fun x3_2 =>
  bnd (x1 >>> ((6 : Int32) &&& 31)) fun x4_3 =>
  if x4_3 = 1 then
  (if x2_1 = 6 then
  (MO_hasPlace_36 x1 x2_1 x3_2 x4_3 d Q)
  else
  (if x3_2 = 6 then
  (MO_hasPlace_36 x1 x2_1 x3_2 x4_3 d Q)
  else
  (MO_hasPlace_42 x2_1 x3_2 x4_3 d Q)))
  else
  (MO_hasPlace_42 x2_1 x3_2 x4_3 d Q)
set_option maxRecDepth 100000 in
set_option maxHeartbeats 4000000 in
theorem tMO_hasPlace {L : Nat} {e : vmD} {Qo : Option Value → vmW → Prop} {Q : Int32 → vmD → Prop} (hQ : ∀ r d, Q r d → Qo (some (.int r)) (wR L d e)) (x1 : Int32) (d : vmD) (h : MO_hasPlace x1 d Q) : vmWp 324 0 [(0, .ref 42), (1, .int x1)] [] (wR L d e) Qo := by
  unfold MO_hasPlace at h
  refine st_go 6 (pc' := 7) (lo' := [(2, .int ((x1 >>> ((3 : Int32) &&& 31)) &&& 7)), (0, .ref 42), (1, .int x1)]) (st' := []) rfl ?_
  refine st_locI (fun x2_1 hy_x2_1 => ?_)
  have h := h x2_1 hy_x2_1
  refine st_go 4 (pc' := 12) (lo' := [(3, .int (x1 &&& 7)), (2, .int x2_1), (0, .ref 42), (1, .int x1)]) (st' := []) rfl ?_
  refine st_locI (fun x3_2 hy_x3_2 => ?_)
  have h := h x3_2 hy_x3_2
  refine st_go 4 (pc' := 18) (lo' := [(4, .int (x1 >>> ((6 : Int32) &&& 31))), (3, .int x3_2), (2, .int x2_1), (0, .ref 42), (1, .int x1)]) (st' := []) rfl ?_
  refine st_locI (fun x4_3 hy_x4_3 => ?_)
  have h := h x4_3 hy_x4_3
  refine st_go 2 (pc' := 21) (lo' := [(4, .int x4_3), (3, .int x3_2), (2, .int x2_1), (0, .ref 42), (1, .int x1)]) (st' := [.int 1, .int x4_3]) rfl ?_
  by_cases hc_4 : x4_3 = 1
  · have h := Eq.mp (if_pos hc_4) h
    refine st_icmp (t := 24) (b := false) rfl (decide_eq_false (fun z => z hc_4)) rfl ?_
    refine st_go 2 (pc' := 27) (lo' := [(4, .int x4_3), (3, .int x3_2), (2, .int x2_1), (0, .ref 42), (1, .int x1)]) (st' := [.int 6, .int x2_1]) rfl ?_
    by_cases hc_5 : x2_1 = 6
    · have h := Eq.mp (if_pos hc_5) h
      refine st_icmp (t := 36) (b := true) rfl (decide_eq_true hc_5) rfl ?_
      refine vmWp.sub (lo' := [(1, .int x1), (2, .int x2_1), (3, .int x3_2), (4, .int x4_3)]) ⟨rfl, rfl, rfl, rfl, trivial⟩ ?_
      exact tMO_hasPlace_36 hQ x1 x2_1 x3_2 x4_3 d h
    · have h := Eq.mp (if_neg hc_5) h
      refine st_icmp (t := 30) (b := false) rfl (decide_eq_false hc_5) rfl ?_
      refine st_go 2 (pc' := 33) (lo' := [(4, .int x4_3), (3, .int x3_2), (2, .int x2_1), (0, .ref 42), (1, .int x1)]) (st' := [.int 6, .int x3_2]) rfl ?_
      by_cases hc_13 : x3_2 = 6
      · have h := Eq.mp (if_pos hc_13) h
        refine st_icmp (t := 36) (b := false) rfl (decide_eq_false (fun z => z hc_13)) rfl ?_
        refine vmWp.sub (lo' := [(1, .int x1), (2, .int x2_1), (3, .int x3_2), (4, .int x4_3)]) ⟨rfl, rfl, rfl, rfl, trivial⟩ ?_
        exact tMO_hasPlace_36 hQ x1 x2_1 x3_2 x4_3 d h
      · have h := Eq.mp (if_neg hc_13) h
        refine st_icmp (t := 42) (b := true) rfl (decide_eq_true hc_13) rfl ?_
        refine vmWp.sub (lo' := [(2, .int x2_1), (3, .int x3_2), (4, .int x4_3)]) ⟨rfl, rfl, rfl, trivial⟩ ?_
        exact tMO_hasPlace_42 hQ x2_1 x3_2 x4_3 d h
  · have h := Eq.mp (if_neg hc_4) h
    refine st_icmp (t := 42) (b := true) rfl (decide_eq_true hc_4) rfl ?_
    refine vmWp.sub (lo' := [(2, .int x2_1), (3, .int x3_2), (4, .int x4_3)]) ⟨rfl, rfl, rfl, trivial⟩ ?_
    exact tMO_hasPlace_42 hQ x2_1 x3_2 x4_3 d h
set_option maxRecDepth 100000 in
def MO_hasHL_51 (x2 : Int32) (x3 : Int32) (d : vmD) (Q : Int32 → vmD → Prop) : Prop :=
  if x3 = 3 then
  (if x2 = 4 then
  (Q 1 d)
  else
  (if x2 = 5 then
  (Q 1 d)
  else
  (Q 0 d)))
  else
  (Q 0 d)
set_option maxRecDepth 100000 in
set_option maxHeartbeats 4000000 in
theorem tMO_hasHL_51 {L : Nat} {e : vmD} {Qo : Option Value → vmW → Prop} {Q : Int32 → vmD → Prop} (hQ : ∀ r d, Q r d → Qo (some (.int r)) (wR L d e)) (x2 : Int32) (x3 : Int32) (d : vmD) (h : MO_hasHL_51 x2 x3 d Q) : vmWp 325 51 [(2, .int x2), (3, .int x3)] [] (wR L d e) Qo := by
  unfold MO_hasHL_51 at h
  refine st_go 2 (pc' := 53) (lo' := [(2, .int x2), (3, .int x3)]) (st' := [.int 3, .int x3]) rfl ?_
  by_cases hc_10 : x3 = 3
  · have h := Eq.mp (if_pos hc_10) h
    refine st_icmp (t := 56) (b := false) rfl (decide_eq_false (fun z => z hc_10)) rfl ?_
    refine st_go 2 (pc' := 58) (lo' := [(2, .int x2), (3, .int x3)]) (st' := [.int 4, .int x2]) rfl ?_
    by_cases hc_11 : x2 = 4
    · have h := Eq.mp (if_pos hc_11) h
      refine st_icmp (t := 66) (b := true) rfl (decide_eq_true hc_11) rfl ?_
      refine st_go 2 (pc' := 71) (lo' := [(2, .int x2), (3, .int x3)]) (st' := [.int 1]) rfl ?_
      exact st_retZ rfl rfl (Or.inr rfl) (hQ _ _ h)
    · have h := Eq.mp (if_neg hc_11) h
      refine st_icmp (t := 61) (b := false) rfl (decide_eq_false hc_11) rfl ?_
      refine st_go 2 (pc' := 63) (lo' := [(2, .int x2), (3, .int x3)]) (st' := [.int 5, .int x2]) rfl ?_
      by_cases hc_12 : x2 = 5
      · have h := Eq.mp (if_pos hc_12) h
        refine st_icmp (t := 66) (b := false) rfl (decide_eq_false (fun z => z hc_12)) rfl ?_
        refine st_go 2 (pc' := 71) (lo' := [(2, .int x2), (3, .int x3)]) (st' := [.int 1]) rfl ?_
        exact st_retZ rfl rfl (Or.inr rfl) (hQ _ _ h)
      · have h := Eq.mp (if_neg hc_12) h
        refine st_icmp (t := 70) (b := true) rfl (decide_eq_true hc_12) rfl ?_
        refine st_go 1 (pc' := 71) (lo' := [(2, .int x2), (3, .int x3)]) (st' := [.int 0]) rfl ?_
        exact st_retZ rfl rfl (Or.inl rfl) (hQ _ _ h)
  · have h := Eq.mp (if_neg hc_10) h
    refine st_icmp (t := 70) (b := true) rfl (decide_eq_true hc_10) rfl ?_
    refine st_go 1 (pc' := 71) (lo' := [(2, .int x2), (3, .int x3)]) (st' := [.int 0]) rfl ?_
    exact st_retZ rfl rfl (Or.inl rfl) (hQ _ _ h)
set_option maxRecDepth 100000 in
def MO_hasHL_36 (x2 : Int32) (x3 : Int32) (d : vmD) (Q : Int32 → vmD → Prop) : Prop :=
  if x3 = 2 then
  (if x2 = 4 then
  (Q 1 d)
  else
  (if x2 = 5 then
  (Q 1 d)
  else
  (MO_hasHL_51 x2 x3 d Q)))
  else
  (MO_hasHL_51 x2 x3 d Q)
set_option maxRecDepth 100000 in
set_option maxHeartbeats 4000000 in
theorem tMO_hasHL_36 {L : Nat} {e : vmD} {Qo : Option Value → vmW → Prop} {Q : Int32 → vmD → Prop} (hQ : ∀ r d, Q r d → Qo (some (.int r)) (wR L d e)) (x2 : Int32) (x3 : Int32) (d : vmD) (h : MO_hasHL_36 x2 x3 d Q) : vmWp 325 36 [(2, .int x2), (3, .int x3)] [] (wR L d e) Qo := by
  unfold MO_hasHL_36 at h
  refine st_go 2 (pc' := 38) (lo' := [(2, .int x2), (3, .int x3)]) (st' := [.int 2, .int x3]) rfl ?_
  by_cases hc_7 : x3 = 2
  · have h := Eq.mp (if_pos hc_7) h
    refine st_icmp (t := 41) (b := false) rfl (decide_eq_false (fun z => z hc_7)) rfl ?_
    refine st_go 2 (pc' := 43) (lo' := [(2, .int x2), (3, .int x3)]) (st' := [.int 4, .int x2]) rfl ?_
    by_cases hc_8 : x2 = 4
    · have h := Eq.mp (if_pos hc_8) h
      refine st_icmp (t := 66) (b := true) rfl (decide_eq_true hc_8) rfl ?_
      refine st_go 2 (pc' := 71) (lo' := [(2, .int x2), (3, .int x3)]) (st' := [.int 1]) rfl ?_
      exact st_retZ rfl rfl (Or.inr rfl) (hQ _ _ h)
    · have h := Eq.mp (if_neg hc_8) h
      refine st_icmp (t := 46) (b := false) rfl (decide_eq_false hc_8) rfl ?_
      refine st_go 2 (pc' := 48) (lo' := [(2, .int x2), (3, .int x3)]) (st' := [.int 5, .int x2]) rfl ?_
      by_cases hc_9 : x2 = 5
      · have h := Eq.mp (if_pos hc_9) h
        refine st_icmp (t := 66) (b := true) rfl (decide_eq_true hc_9) rfl ?_
        refine st_go 2 (pc' := 71) (lo' := [(2, .int x2), (3, .int x3)]) (st' := [.int 1]) rfl ?_
        exact st_retZ rfl rfl (Or.inr rfl) (hQ _ _ h)
      · have h := Eq.mp (if_neg hc_9) h
        refine st_icmp (t := 51) (b := false) rfl (decide_eq_false hc_9) rfl ?_
        refine vmWp.sub (lo' := [(2, .int x2), (3, .int x3)]) ⟨rfl, rfl, trivial⟩ ?_
        exact tMO_hasHL_51 hQ x2 x3 d h
  · have h := Eq.mp (if_neg hc_7) h
    refine st_icmp (t := 51) (b := true) rfl (decide_eq_true hc_7) rfl ?_
    refine vmWp.sub (lo' := [(2, .int x2), (3, .int x3)]) ⟨rfl, rfl, trivial⟩ ?_
    exact tMO_hasHL_51 hQ x2 x3 d h
set_option maxRecDepth 100000 in
def MO_hasHL_111 (x2 : Int32) (x3 : Int32) (d : vmD) (Q : Int32 → vmD → Prop) : Prop :=
  if x3 = 5 then
  (if x2 = 4 then
  (Q 1 d)
  else
  (Q 0 d))
  else
  (Q 0 d)
set_option maxRecDepth 100000 in
set_option maxHeartbeats 4000000 in
theorem tMO_hasHL_111 {L : Nat} {e : vmD} {Qo : Option Value → vmW → Prop} {Q : Int32 → vmD → Prop} (hQ : ∀ r d, Q r d → Qo (some (.int r)) (wR L d e)) (x2 : Int32) (x3 : Int32) (d : vmD) (h : MO_hasHL_111 x2 x3 d Q) : vmWp 325 111 [(2, .int x2), (3, .int x3)] [] (wR L d e) Qo := by
  unfold MO_hasHL_111 at h
  refine st_go 2 (pc' := 113) (lo' := [(2, .int x2), (3, .int x3)]) (st' := [.int 5, .int x3]) rfl ?_
  by_cases hc_20 : x3 = 5
  · have h := Eq.mp (if_pos hc_20) h
    refine st_icmp (t := 116) (b := false) rfl (decide_eq_false (fun z => z hc_20)) rfl ?_
    refine st_go 2 (pc' := 118) (lo' := [(2, .int x2), (3, .int x3)]) (st' := [.int 4, .int x2]) rfl ?_
    by_cases hc_21 : x2 = 4
    · have h := Eq.mp (if_pos hc_21) h
      refine st_icmp (t := 121) (b := false) rfl (decide_eq_false (fun z => z hc_21)) rfl ?_
      refine st_go 2 (pc' := 126) (lo' := [(2, .int x2), (3, .int x3)]) (st' := [.int 1]) rfl ?_
      exact st_retZ rfl rfl (Or.inr rfl) (hQ _ _ h)
    · have h := Eq.mp (if_neg hc_21) h
      refine st_icmp (t := 125) (b := true) rfl (decide_eq_true hc_21) rfl ?_
      refine st_go 1 (pc' := 126) (lo' := [(2, .int x2), (3, .int x3)]) (st' := [.int 0]) rfl ?_
      exact st_retZ rfl rfl (Or.inl rfl) (hQ _ _ h)
  · have h := Eq.mp (if_neg hc_20) h
    refine st_icmp (t := 125) (b := true) rfl (decide_eq_true hc_20) rfl ?_
    refine st_go 1 (pc' := 126) (lo' := [(2, .int x2), (3, .int x3)]) (st' := [.int 0]) rfl ?_
    exact st_retZ rfl rfl (Or.inl rfl) (hQ _ _ h)
set_option maxRecDepth 100000 in
def MO_hasHL_101 (x2 : Int32) (x3 : Int32) (d : vmD) (Q : Int32 → vmD → Prop) : Prop :=
  if x3 = 3 then
  (if x2 = 4 then
  (Q 1 d)
  else
  (MO_hasHL_111 x2 x3 d Q))
  else
  (MO_hasHL_111 x2 x3 d Q)
set_option maxRecDepth 100000 in
set_option maxHeartbeats 4000000 in
theorem tMO_hasHL_101 {L : Nat} {e : vmD} {Qo : Option Value → vmW → Prop} {Q : Int32 → vmD → Prop} (hQ : ∀ r d, Q r d → Qo (some (.int r)) (wR L d e)) (x2 : Int32) (x3 : Int32) (d : vmD) (h : MO_hasHL_101 x2 x3 d Q) : vmWp 325 101 [(2, .int x2), (3, .int x3)] [] (wR L d e) Qo := by
  unfold MO_hasHL_101 at h
  refine st_go 2 (pc' := 103) (lo' := [(2, .int x2), (3, .int x3)]) (st' := [.int 3, .int x3]) rfl ?_
  by_cases hc_18 : x3 = 3
  · have h := Eq.mp (if_pos hc_18) h
    refine st_icmp (t := 106) (b := false) rfl (decide_eq_false (fun z => z hc_18)) rfl ?_
    refine st_go 2 (pc' := 108) (lo' := [(2, .int x2), (3, .int x3)]) (st' := [.int 4, .int x2]) rfl ?_
    by_cases hc_19 : x2 = 4
    · have h := Eq.mp (if_pos hc_19) h
      refine st_icmp (t := 121) (b := true) rfl (decide_eq_true hc_19) rfl ?_
      refine st_go 2 (pc' := 126) (lo' := [(2, .int x2), (3, .int x3)]) (st' := [.int 1]) rfl ?_
      exact st_retZ rfl rfl (Or.inr rfl) (hQ _ _ h)
    · have h := Eq.mp (if_neg hc_19) h
      refine st_icmp (t := 111) (b := false) rfl (decide_eq_false hc_19) rfl ?_
      refine vmWp.sub (lo' := [(2, .int x2), (3, .int x3)]) ⟨rfl, rfl, trivial⟩ ?_
      exact tMO_hasHL_111 hQ x2 x3 d h
  · have h := Eq.mp (if_neg hc_18) h
    refine st_icmp (t := 111) (b := true) rfl (decide_eq_true hc_18) rfl ?_
    refine vmWp.sub (lo' := [(2, .int x2), (3, .int x3)]) ⟨rfl, rfl, trivial⟩ ?_
    exact tMO_hasHL_111 hQ x2 x3 d h
set_option maxRecDepth 100000 in
def MO_hasHL (x1 : Int32) (d : vmD) (Q : Int32 → vmD → Prop) : Prop :=
  bnd ((x1 >>> ((3 : Int32) &&& 31)) &&& 7) fun x2_1 =>
  bnd (x1 &&& 7) fun x3_2 =>
  if (x1 >>> ((6 : Int32) &&& 31)) = 0 then
  (if x3_2 = 1 then
  (if x2_1 = 4 then
  (Q 1 d)
  else
  (if (x2_1 &&& 1) = 1 then
  (Q 1 d)
  else
  (MO_hasHL_36 x2_1 x3_2 d Q)))
  else
  (MO_hasHL_36 x2_1 x3_2 d Q))
  else
  (if (x1 >>> ((6 : Int32) &&& 31)) = 3 then
  (if x3_2 = 1 then
  (if x2_1 = 4 then
  (Q 1 d)
  else
  (if x2_1 = 5 then
  (Q 1 d)
  else
  (if x2_1 = 7 then
  (Q 1 d)
  else
  (MO_hasHL_101 x2_1 x3_2 d Q))))
  else
  (MO_hasHL_101 x2_1 x3_2 d Q))
  else
  (Q 0 d))
set_option maxRecDepth 100000 in
set_option maxHeartbeats 4000000 in
theorem tMO_hasHL {L : Nat} {e : vmD} {Qo : Option Value → vmW → Prop} {Q : Int32 → vmD → Prop} (hQ : ∀ r d, Q r d → Qo (some (.int r)) (wR L d e)) (x1 : Int32) (d : vmD) (h : MO_hasHL x1 d Q) : vmWp 325 0 [(0, .ref 42), (1, .int x1)] [] (wR L d e) Qo := by
  unfold MO_hasHL at h
  refine st_go 6 (pc' := 7) (lo' := [(2, .int ((x1 >>> ((3 : Int32) &&& 31)) &&& 7)), (0, .ref 42), (1, .int x1)]) (st' := []) rfl ?_
  refine st_locI (fun x2_1 hy_x2_1 => ?_)
  have h := h x2_1 hy_x2_1
  refine st_go 4 (pc' := 12) (lo' := [(3, .int (x1 &&& 7)), (2, .int x2_1), (0, .ref 42), (1, .int x1)]) (st' := []) rfl ?_
  refine st_locI (fun x3_2 hy_x3_2 => ?_)
  have h := h x3_2 hy_x3_2
  refine st_go 3 (pc' := 16) (lo' := [(3, .int x3_2), (2, .int x2_1), (0, .ref 42), (1, .int x1)]) (st' := [.int (x1 >>> ((6 : Int32) &&& 31))]) rfl ?_
  by_cases hc_3 : (x1 >>> ((6 : Int32) &&& 31)) = 0
  · have h := Eq.mp (if_pos hc_3) h
    refine st_if (t := 19) (b := false) rfl (decide_eq_false (fun z => z hc_3)) rfl ?_
    refine st_go 2 (pc' := 21) (lo' := [(3, .int x3_2), (2, .int x2_1), (0, .ref 42), (1, .int x1)]) (st' := [.int 1, .int x3_2]) rfl ?_
    by_cases hc_4 : x3_2 = 1
    · have h := Eq.mp (if_pos hc_4) h
      refine st_icmp (t := 24) (b := false) rfl (decide_eq_false (fun z => z hc_4)) rfl ?_
      refine st_go 2 (pc' := 26) (lo' := [(3, .int x3_2), (2, .int x2_1), (0, .ref 42), (1, .int x1)]) (st' := [.int 4, .int x2_1]) rfl ?_
      by_cases hc_5 : x2_1 = 4
      · have h := Eq.mp (if_pos hc_5) h
        refine st_icmp (t := 66) (b := true) rfl (decide_eq_true hc_5) rfl ?_
        refine st_go 2 (pc' := 71) (lo' := [(3, .int x3_2), (2, .int x2_1), (0, .ref 42), (1, .int x1)]) (st' := [.int 1]) rfl ?_
        exact st_retZ rfl rfl (Or.inr rfl) (hQ _ _ h)
      · have h := Eq.mp (if_neg hc_5) h
        refine st_icmp (t := 29) (b := false) rfl (decide_eq_false hc_5) rfl ?_
        refine st_go 4 (pc' := 33) (lo' := [(3, .int x3_2), (2, .int x2_1), (0, .ref 42), (1, .int x1)]) (st' := [.int 1, .int (x2_1 &&& 1)]) rfl ?_
        by_cases hc_6 : (x2_1 &&& 1) = 1
        · have h := Eq.mp (if_pos hc_6) h
          refine st_icmp (t := 66) (b := true) rfl (decide_eq_true hc_6) rfl ?_
          refine st_go 2 (pc' := 71) (lo' := [(3, .int x3_2), (2, .int x2_1), (0, .ref 42), (1, .int x1)]) (st' := [.int 1]) rfl ?_
          exact st_retZ rfl rfl (Or.inr rfl) (hQ _ _ h)
        · have h := Eq.mp (if_neg hc_6) h
          refine st_icmp (t := 36) (b := false) rfl (decide_eq_false hc_6) rfl ?_
          refine vmWp.sub (lo' := [(2, .int x2_1), (3, .int x3_2)]) ⟨rfl, rfl, trivial⟩ ?_
          exact tMO_hasHL_36 hQ x2_1 x3_2 d h
    · have h := Eq.mp (if_neg hc_4) h
      refine st_icmp (t := 36) (b := true) rfl (decide_eq_true hc_4) rfl ?_
      refine vmWp.sub (lo' := [(2, .int x2_1), (3, .int x3_2)]) ⟨rfl, rfl, trivial⟩ ?_
      exact tMO_hasHL_36 hQ x2_1 x3_2 d h
  · have h := Eq.mp (if_neg hc_3) h
    refine st_if (t := 72) (b := true) rfl (decide_eq_true hc_3) rfl ?_
    refine st_go 4 (pc' := 77) (lo' := [(3, .int x3_2), (2, .int x2_1), (0, .ref 42), (1, .int x1)]) (st' := [.int 3, .int (x1 >>> ((6 : Int32) &&& 31))]) rfl ?_
    by_cases hc_13 : (x1 >>> ((6 : Int32) &&& 31)) = 3
    · have h := Eq.mp (if_pos hc_13) h
      refine st_icmp (t := 80) (b := false) rfl (decide_eq_false (fun z => z hc_13)) rfl ?_
      refine st_go 2 (pc' := 82) (lo' := [(3, .int x3_2), (2, .int x2_1), (0, .ref 42), (1, .int x1)]) (st' := [.int 1, .int x3_2]) rfl ?_
      by_cases hc_14 : x3_2 = 1
      · have h := Eq.mp (if_pos hc_14) h
        refine st_icmp (t := 85) (b := false) rfl (decide_eq_false (fun z => z hc_14)) rfl ?_
        refine st_go 2 (pc' := 87) (lo' := [(3, .int x3_2), (2, .int x2_1), (0, .ref 42), (1, .int x1)]) (st' := [.int 4, .int x2_1]) rfl ?_
        by_cases hc_15 : x2_1 = 4
        · have h := Eq.mp (if_pos hc_15) h
          refine st_icmp (t := 121) (b := true) rfl (decide_eq_true hc_15) rfl ?_
          refine st_go 2 (pc' := 126) (lo' := [(3, .int x3_2), (2, .int x2_1), (0, .ref 42), (1, .int x1)]) (st' := [.int 1]) rfl ?_
          exact st_retZ rfl rfl (Or.inr rfl) (hQ _ _ h)
        · have h := Eq.mp (if_neg hc_15) h
          refine st_icmp (t := 90) (b := false) rfl (decide_eq_false hc_15) rfl ?_
          refine st_go 2 (pc' := 92) (lo' := [(3, .int x3_2), (2, .int x2_1), (0, .ref 42), (1, .int x1)]) (st' := [.int 5, .int x2_1]) rfl ?_
          by_cases hc_16 : x2_1 = 5
          · have h := Eq.mp (if_pos hc_16) h
            refine st_icmp (t := 121) (b := true) rfl (decide_eq_true hc_16) rfl ?_
            refine st_go 2 (pc' := 126) (lo' := [(3, .int x3_2), (2, .int x2_1), (0, .ref 42), (1, .int x1)]) (st' := [.int 1]) rfl ?_
            exact st_retZ rfl rfl (Or.inr rfl) (hQ _ _ h)
          · have h := Eq.mp (if_neg hc_16) h
            refine st_icmp (t := 95) (b := false) rfl (decide_eq_false hc_16) rfl ?_
            refine st_go 2 (pc' := 98) (lo' := [(3, .int x3_2), (2, .int x2_1), (0, .ref 42), (1, .int x1)]) (st' := [.int 7, .int x2_1]) rfl ?_
            by_cases hc_17 : x2_1 = 7
            · have h := Eq.mp (if_pos hc_17) h
              refine st_icmp (t := 121) (b := true) rfl (decide_eq_true hc_17) rfl ?_
              refine st_go 2 (pc' := 126) (lo' := [(3, .int x3_2), (2, .int x2_1), (0, .ref 42), (1, .int x1)]) (st' := [.int 1]) rfl ?_
              exact st_retZ rfl rfl (Or.inr rfl) (hQ _ _ h)
            · have h := Eq.mp (if_neg hc_17) h
              refine st_icmp (t := 101) (b := false) rfl (decide_eq_false hc_17) rfl ?_
              refine vmWp.sub (lo' := [(2, .int x2_1), (3, .int x3_2)]) ⟨rfl, rfl, trivial⟩ ?_
              exact tMO_hasHL_101 hQ x2_1 x3_2 d h
      · have h := Eq.mp (if_neg hc_14) h
        refine st_icmp (t := 101) (b := true) rfl (decide_eq_true hc_14) rfl ?_
        refine vmWp.sub (lo' := [(2, .int x2_1), (3, .int x3_2)]) ⟨rfl, rfl, trivial⟩ ?_
        exact tMO_hasHL_101 hQ x2_1 x3_2 d h
    · have h := Eq.mp (if_neg hc_13) h
      refine st_icmp (t := 125) (b := true) rfl (decide_eq_true hc_13) rfl ?_
      refine st_go 1 (pc' := 126) (lo' := [(3, .int x3_2), (2, .int x2_1), (0, .ref 42), (1, .int x1)]) (st' := [.int 0]) rfl ?_
      exact st_retZ rfl rfl (Or.inl rfl) (hQ _ _ h)
set_option maxRecDepth 100000 in
def MO_decode_145 (s0 : Int32) (d : vmD) (Q : Int32 → vmD → Prop) : Prop :=
  bnd (sF d 42 63 s0) fun d_26 =>
  MO_isBehind237 (gF d_26 42 61) d_26 fun r_28 d_27 =>
  (r_28 = 0 ∨ r_28 = 1) ∧ Q r_28 d_27
set_option maxRecDepth 100000 in
set_option maxHeartbeats 4000000 in
theorem tMO_decode_145 {L : Nat} {e : vmD} {Qo : Option Value → vmW → Prop} {Q : Int32 → vmD → Prop} (hQ : ∀ r d, Q r d → Qo (some (.int r)) (wR L d e)) (s0 : Int32) (d : vmD) (h : MO_decode_145 s0 d Q) : vmWp 327 145 [(0, .ref 42)] [.int s0, .ref 42] (wR L d e) Qo := by
  unfold MO_decode_145 at h
  refine st_putIR (o := 42) (f := 63) rfl rfl rfl rfl rfl (fun d_26 hy_d_26 => ?_)
  have h := h d_26 hy_d_26
  refine st_go 3 (pc' := 153) (lo' := [(0, .ref 42)]) (st' := [.int (gF d_26 42 61), .ref 42]) rfl ?_
  refine st_calli (k' := 326) (as := [.ref 42, .int (gF d_26 42 61)]) (rest := []) (lo' := [(0, .ref 42), (1, .int (gF d_26 42 61))]) (wf := fun d => wR L d e) rfl rfl rfl ?_
  refine tMO_isBehind237 (fun r_28 d_27 h => ⟨r_28, d_27, rfl, rfl, ?_⟩) (gF d_26 42 61) d_26 h
  exact st_retZ rfl rfl h.1 (hQ _ _ h.2)
set_option maxRecDepth 100000 in
def MO_decode_144 (d : vmD) (Q : Int32 → vmD → Prop) : Prop :=
  MO_decode_145 2 d Q
set_option maxRecDepth 100000 in
set_option maxHeartbeats 4000000 in
theorem tMO_decode_144 {L : Nat} {e : vmD} {Qo : Option Value → vmW → Prop} {Q : Int32 → vmD → Prop} (hQ : ∀ r d, Q r d → Qo (some (.int r)) (wR L d e)) (d : vmD) (h : MO_decode_144 d Q) : vmWp 327 144 [(0, .ref 42)] [.ref 42] (wR L d e) Qo := by
  unfold MO_decode_144 at h
  refine st_go 1 (pc' := 145) (lo' := [(0, .ref 42)]) (st' := [.int 2, .ref 42]) rfl ?_
  refine vmWp.sub (lo' := [(0, .ref 42)]) ⟨rfl, trivial⟩ ?_
  exact tMO_decode_145 hQ 2 d h
set_option maxRecDepth 100000 in
def MO_decode_186 (x1 : Int32) (s0 : Int32) (d : vmD) (Q : Int32 → vmD → Prop) : Prop :=
  bnd (sF d 42 60 s0) fun d_31 =>
  MO_peek (x1 + 1) d_31 fun r_33 d_32 =>
  bnd (sF d_32 42 61 r_33) fun d_34 =>
  if (gF d_34 42 61) = 203 then
  (bnd (sF d_34 42 59 1) fun d_36 =>
  MO_peek (x1 + 2) d_36 fun r_38 d_37 =>
  MO_signed r_38 d_37 fun r_40 d_39 =>
  bnd (sF d_39 42 62 r_40) fun d_41 =>
  MO_peek (x1 + 3) d_41 fun r_43 d_42 =>
  bnd (sF d_42 42 61 r_43) fun d_44 =>
  bnd (sF d_44 42 63 4) fun d_45 =>
  if ((gF d_45 42 61) &&& 7) = 6 then
  (if ((gF d_45 42 61) >>> ((3 : Int32) &&& 31)) = 6 then
  (Q 0 d_45)
  else
  (Q 1 d_45))
  else
  (Q 0 d_45))
  else
  (bnd (sF d_34 42 64 (x1 + 2)) fun d_48 =>
  MO_plainLength (gF d_48 42 61) d_48 fun r_50 d_49 =>
  bnd (sF d_49 42 63 ((1 : Int32) + r_50)) fun d_51 =>
  MO_hasPlace (gF d_51 42 61) d_51 fun r_53 d_52 =>
  if r_53 = 0 then
  (MO_hasHL (gF d_52 42 61) d_52 fun r_56 d_55 =>
  (r_56 = 0 ∨ r_56 = 1) ∧ Q r_56 d_55)
  else
  (MO_peek (x1 + 2) d_52 fun r_58 d_57 =>
  MO_signed r_58 d_57 fun r_60 d_59 =>
  bnd (sF d_59 42 62 r_60) fun d_61 =>
  bnd (sF d_61 42 64 (x1 + 3)) fun d_62 =>
  bnd (sF d_62 42 63 ((gF d_62 42 63) + 1)) fun d_63 =>
  Q 1 d_63))
set_option maxRecDepth 100000 in
set_option maxHeartbeats 4000000 in
theorem tMO_decode_186 {L : Nat} {e : vmD} {Qo : Option Value → vmW → Prop} {Q : Int32 → vmD → Prop} (hQ : ∀ r d, Q r d → Qo (some (.int r)) (wR L d e)) (x1 : Int32) (s0 : Int32) (d : vmD) (h : MO_decode_186 x1 s0 d Q) : vmWp 327 186 [(0, .ref 42), (1, .int x1)] [.int s0, .ref 42] (wR L d e) Qo := by
  unfold MO_decode_186 at h
  refine st_putIR (o := 42) (f := 60) rfl rfl rfl rfl rfl (fun d_31 hy_d_31 => ?_)
  have h := h d_31 hy_d_31
  refine st_go 5 (pc' := 194) (lo' := [(0, .ref 42), (1, .int x1)]) (st' := [.int (x1 + 1), .ref 42, .ref 42]) rfl ?_
  refine st_calli (k' := 320) (as := [.ref 42, .int (x1 + 1)]) (rest := [.ref 42]) (lo' := [(0, .ref 42), (1, .int (x1 + 1))]) (wf := fun d => wR L d e) rfl rfl rfl ?_
  refine tMO_peek (fun r_33 d_32 h => ⟨r_33, d_32, rfl, rfl, ?_⟩) (x1 + 1) d_31 h
  refine st_putIR (o := 42) (f := 61) rfl rfl rfl rfl rfl (fun d_34 hy_d_34 => ?_)
  have h := h d_34 hy_d_34
  refine st_go 3 (pc' := 207) (lo' := [(0, .ref 42), (1, .int x1)]) (st' := [.int 203, .int (gF d_34 42 61)]) rfl ?_
  by_cases hc_35 : (gF d_34 42 61) = 203
  · have h := Eq.mp (if_pos hc_35) h
    refine st_icmp (t := 210) (b := false) rfl (decide_eq_false (fun z => z hc_35)) rfl ?_
    refine st_go 2 (pc' := 212) (lo' := [(0, .ref 42), (1, .int x1)]) (st' := [.int 1, .ref 42]) rfl ?_
    refine st_putIR (o := 42) (f := 59) rfl rfl rfl rfl rfl (fun d_36 hy_d_36 => ?_)
    have h := h d_36 hy_d_36
    refine st_go 6 (pc' := 221) (lo' := [(0, .ref 42), (1, .int x1)]) (st' := [.int (x1 + 2), .ref 42, .ref 42, .ref 42]) rfl ?_
    refine st_calli (k' := 320) (as := [.ref 42, .int (x1 + 2)]) (rest := [.ref 42, .ref 42]) (lo' := [(0, .ref 42), (1, .int (x1 + 2))]) (wf := fun d => wR L d e) rfl rfl rfl ?_
    refine tMO_peek (fun r_38 d_37 h => ⟨r_38, d_37, rfl, rfl, ?_⟩) (x1 + 2) d_36 h
    refine st_calli (k' := 322) (as := [.ref 42, .int r_38]) (rest := [.ref 42]) (lo' := [(0, .ref 42), (1, .int r_38)]) (wf := fun d => wR L d e) rfl rfl rfl ?_
    refine tMO_signed (fun r_40 d_39 h => ⟨r_40, d_39, rfl, rfl, ?_⟩) r_38 d_37 h
    refine st_putIR (o := 42) (f := 62) rfl rfl rfl rfl rfl (fun d_41 hy_d_41 => ?_)
    have h := h d_41 hy_d_41
    refine st_go 5 (pc' := 235) (lo' := [(0, .ref 42), (1, .int x1)]) (st' := [.int (x1 + 3), .ref 42, .ref 42]) rfl ?_
    refine st_calli (k' := 320) (as := [.ref 42, .int (x1 + 3)]) (rest := [.ref 42]) (lo' := [(0, .ref 42), (1, .int (x1 + 3))]) (wf := fun d => wR L d e) rfl rfl rfl ?_
    refine tMO_peek (fun r_43 d_42 h => ⟨r_43, d_42, rfl, rfl, ?_⟩) (x1 + 3) d_41 h
    refine st_putIR (o := 42) (f := 61) rfl rfl rfl rfl rfl (fun d_44 hy_d_44 => ?_)
    have h := h d_44 hy_d_44
    refine st_go 2 (pc' := 243) (lo' := [(0, .ref 42), (1, .int x1)]) (st' := [.int 4, .ref 42]) rfl ?_
    refine st_putIR (o := 42) (f := 63) rfl rfl rfl rfl rfl (fun d_45 hy_d_45 => ?_)
    have h := h d_45 hy_d_45
    refine st_go 5 (pc' := 255) (lo' := [(0, .ref 42), (1, .int x1)]) (st' := [.int 6, .int ((gF d_45 42 61) &&& 7)]) rfl ?_
    by_cases hc_46 : ((gF d_45 42 61) &&& 7) = 6
    · have h := Eq.mp (if_pos hc_46) h
      refine st_icmp (t := 258) (b := false) rfl (decide_eq_false (fun z => z hc_46)) rfl ?_
      refine st_go 5 (pc' := 266) (lo' := [(0, .ref 42), (1, .int x1)]) (st' := [.int 6, .int ((gF d_45 42 61) >>> ((3 : Int32) &&& 31))]) rfl ?_
      by_cases hc_47 : ((gF d_45 42 61) >>> ((3 : Int32) &&& 31)) = 6
      · have h := Eq.mp (if_pos hc_47) h
        refine st_icmp (t := 273) (b := true) rfl (decide_eq_true hc_47) rfl ?_
        refine st_go 1 (pc' := 274) (lo' := [(0, .ref 42), (1, .int x1)]) (st' := [.int 0]) rfl ?_
        exact st_retZ rfl rfl (Or.inl rfl) (hQ _ _ h)
      · have h := Eq.mp (if_neg hc_47) h
        refine st_icmp (t := 269) (b := false) rfl (decide_eq_false hc_47) rfl ?_
        refine st_go 2 (pc' := 274) (lo' := [(0, .ref 42), (1, .int x1)]) (st' := [.int 1]) rfl ?_
        exact st_retZ rfl rfl (Or.inr rfl) (hQ _ _ h)
    · have h := Eq.mp (if_neg hc_46) h
      refine st_icmp (t := 273) (b := true) rfl (decide_eq_true hc_46) rfl ?_
      refine st_go 1 (pc' := 274) (lo' := [(0, .ref 42), (1, .int x1)]) (st' := [.int 0]) rfl ?_
      exact st_retZ rfl rfl (Or.inl rfl) (hQ _ _ h)
  · have h := Eq.mp (if_neg hc_35) h
    refine st_icmp (t := 275) (b := true) rfl (decide_eq_true hc_35) rfl ?_
    refine st_go 4 (pc' := 279) (lo' := [(0, .ref 42), (1, .int x1)]) (st' := [.int (x1 + 2), .ref 42]) rfl ?_
    refine st_putIR (o := 42) (f := 64) rfl rfl rfl rfl rfl (fun d_48 hy_d_48 => ?_)
    have h := h d_48 hy_d_48
    refine st_go 5 (pc' := 289) (lo' := [(0, .ref 42), (1, .int x1)]) (st' := [.int (gF d_48 42 61), .ref 42, .int 1, .ref 42]) rfl ?_
    refine st_calli (k' := 323) (as := [.ref 42, .int (gF d_48 42 61)]) (rest := [.int 1, .ref 42]) (lo' := [(0, .ref 42), (1, .int (gF d_48 42 61))]) (wf := fun d => wR L d e) rfl rfl rfl ?_
    refine tMO_plainLength (fun r_50 d_49 h => ⟨r_50, d_49, rfl, rfl, ?_⟩) (gF d_48 42 61) d_48 h
    refine st_go 1 (pc' := 293) (lo' := [(0, .ref 42), (1, .int x1)]) (st' := [.int ((1 : Int32) + r_50), .ref 42]) rfl ?_
    refine st_putIR (o := 42) (f := 63) rfl rfl rfl rfl rfl (fun d_51 hy_d_51 => ?_)
    have h := h d_51 hy_d_51
    refine st_go 3 (pc' := 301) (lo' := [(0, .ref 42), (1, .int x1)]) (st' := [.int (gF d_51 42 61), .ref 42]) rfl ?_
    refine st_calli (k' := 324) (as := [.ref 42, .int (gF d_51 42 61)]) (rest := []) (lo' := [(0, .ref 42), (1, .int (gF d_51 42 61))]) (wf := fun d => wR L d e) rfl rfl rfl ?_
    refine tMO_hasPlace (fun r_53 d_52 h => ⟨r_53, d_52, rfl, rfl, ?_⟩) (gF d_51 42 61) d_51 h
    by_cases hc_54 : r_53 = 0
    · have h := Eq.mp (if_pos hc_54) h
      refine st_if (t := 341) (b := true) rfl (decide_eq_true hc_54) rfl ?_
      refine st_go 3 (pc' := 346) (lo' := [(0, .ref 42), (1, .int x1)]) (st' := [.int (gF d_52 42 61), .ref 42]) rfl ?_
      refine st_calli (k' := 325) (as := [.ref 42, .int (gF d_52 42 61)]) (rest := []) (lo' := [(0, .ref 42), (1, .int (gF d_52 42 61))]) (wf := fun d => wR L d e) rfl rfl rfl ?_
      refine tMO_hasHL (fun r_56 d_55 h => ⟨r_56, d_55, rfl, rfl, ?_⟩) (gF d_52 42 61) d_52 h
      exact st_retZ rfl rfl h.1 (hQ _ _ h.2)
    · have h := Eq.mp (if_neg hc_54) h
      refine st_if (t := 307) (b := false) rfl (decide_eq_false hc_54) rfl ?_
      refine st_go 6 (pc' := 313) (lo' := [(0, .ref 42), (1, .int x1)]) (st' := [.int (x1 + 2), .ref 42, .ref 42, .ref 42]) rfl ?_
      refine st_calli (k' := 320) (as := [.ref 42, .int (x1 + 2)]) (rest := [.ref 42, .ref 42]) (lo' := [(0, .ref 42), (1, .int (x1 + 2))]) (wf := fun d => wR L d e) rfl rfl rfl ?_
      refine tMO_peek (fun r_58 d_57 h => ⟨r_58, d_57, rfl, rfl, ?_⟩) (x1 + 2) d_52 h
      refine st_calli (k' := 322) (as := [.ref 42, .int r_58]) (rest := [.ref 42]) (lo' := [(0, .ref 42), (1, .int r_58)]) (wf := fun d => wR L d e) rfl rfl rfl ?_
      refine tMO_signed (fun r_60 d_59 h => ⟨r_60, d_59, rfl, rfl, ?_⟩) r_58 d_57 h
      refine st_putIR (o := 42) (f := 62) rfl rfl rfl rfl rfl (fun d_61 hy_d_61 => ?_)
      have h := h d_61 hy_d_61
      refine st_go 4 (pc' := 326) (lo' := [(0, .ref 42), (1, .int x1)]) (st' := [.int (x1 + 3), .ref 42]) rfl ?_
      refine st_putIR (o := 42) (f := 64) rfl rfl rfl rfl rfl (fun d_62 hy_d_62 => ?_)
      have h := h d_62 hy_d_62
      refine st_go 5 (pc' := 336) (lo' := [(0, .ref 42), (1, .int x1)]) (st' := [.int ((gF d_62 42 63) + 1), .ref 42]) rfl ?_
      refine st_putIR (o := 42) (f := 63) rfl rfl rfl rfl rfl (fun d_63 hy_d_63 => ?_)
      have h := h d_63 hy_d_63
      refine st_go 1 (pc' := 340) (lo' := [(0, .ref 42), (1, .int x1)]) (st' := [.int 1]) rfl ?_
      exact st_retZ rfl rfl (Or.inr rfl) (hQ _ _ h)
set_option maxRecDepth 100000 in
def MO_decode_173 (x1 : Int32) (x2 : Int32) (d : vmD) (Q : Int32 → vmD → Prop) : Prop :=
  if x2 = 221 then
  (MO_decode_186 x1 1 d Q)
  else
  (MO_decode_186 x1 2 d Q)
set_option maxRecDepth 100000 in
set_option maxHeartbeats 4000000 in
theorem tMO_decode_173 {L : Nat} {e : vmD} {Qo : Option Value → vmW → Prop} {Q : Int32 → vmD → Prop} (hQ : ∀ r d, Q r d → Qo (some (.int r)) (wR L d e)) (x1 : Int32) (x2 : Int32) (d : vmD) (h : MO_decode_173 x1 x2 d Q) : vmWp 327 173 [(0, .ref 42), (1, .int x1), (2, .int x2)] [] (wR L d e) Qo := by
  unfold MO_decode_173 at h
  refine st_go 3 (pc' := 178) (lo' := [(0, .ref 42), (1, .int x1), (2, .int x2)]) (st' := [.int 221, .int x2, .ref 42]) rfl ?_
  by_cases hc_30 : x2 = 221
  · have h := Eq.mp (if_pos hc_30) h
    refine st_icmp (t := 181) (b := false) rfl (decide_eq_false (fun z => z hc_30)) rfl ?_
    refine st_go 2 (pc' := 186) (lo' := [(0, .ref 42), (1, .int x1), (2, .int x2)]) (st' := [.int 1, .ref 42]) rfl ?_
    refine vmWp.sub (lo' := [(0, .ref 42), (1, .int x1)]) ⟨rfl, rfl, trivial⟩ ?_
    exact tMO_decode_186 hQ x1 1 d h
  · have h := Eq.mp (if_neg hc_30) h
    refine st_icmp (t := 185) (b := true) rfl (decide_eq_true hc_30) rfl ?_
    refine st_go 1 (pc' := 186) (lo' := [(0, .ref 42), (1, .int x1), (2, .int x2)]) (st' := [.int 2, .ref 42]) rfl ?_
    refine vmWp.sub (lo' := [(0, .ref 42), (1, .int x1)]) ⟨rfl, rfl, trivial⟩ ?_
    exact tMO_decode_186 hQ x1 2 d h
set_option maxRecDepth 100000 in
def MO_decode (x1 : Int32) (d : vmD) (Q : Int32 → vmD → Prop) : Prop :=
  MO_peek x1 d fun r_2 d_1 =>
  bnd (sF d_1 42 59 0) fun d_3 =>
  bnd (sF d_3 42 60 0) fun d_4 =>
  bnd (sF d_4 42 62 0) fun d_5 =>
  bnd (sF d_5 42 61 r_2) fun d_6 =>
  bnd (sF d_6 42 64 (x1 + 1)) fun d_7 =>
  MO_plainLength r_2 d_7 fun r_9 d_8 =>
  bnd (sF d_8 42 63 r_9) fun d_10 =>
  if r_2 = 203 then
  (bnd (sF d_10 42 59 1) fun d_12 =>
  MO_peek (x1 + 1) d_12 fun r_14 d_13 =>
  bnd (sF d_13 42 61 r_14) fun d_15 =>
  bnd (sF d_15 42 63 2) fun d_16 =>
  if ((gF d_16 42 61) >>> ((3 : Int32) &&& 31)) = 6 then
  (Q 0 d_16)
  else
  (Q 1 d_16))
  else
  (if r_2 = 237 then
  (bnd (sF d_10 42 59 2) fun d_19 =>
  MO_peek (x1 + 1) d_19 fun r_21 d_20 =>
  bnd (sF d_20 42 61 r_21) fun d_22 =>
  bnd (sF d_22 42 64 (x1 + 2)) fun d_23 =>
  if ((gF d_23 42 61) >>> ((6 : Int32) &&& 31)) = 1 then
  (if ((gF d_23 42 61) &&& 7) = 3 then
  (MO_decode_145 4 d_23 Q)
  else
  (MO_decode_144 d_23 Q))
  else
  (MO_decode_144 d_23 Q))
  else
  (if r_2 = 221 then
  (MO_decode_173 x1 r_2 d_10 Q)
  else
  (if r_2 = 253 then
  (MO_decode_173 x1 r_2 d_10 Q)
  else
  (Q 1 d_10))))
set_option maxRecDepth 100000 in
set_option maxHeartbeats 4000000 in
theorem tMO_decode {L : Nat} {e : vmD} {Qo : Option Value → vmW → Prop} {Q : Int32 → vmD → Prop} (hQ : ∀ r d, Q r d → Qo (some (.int r)) (wR L d e)) (x1 : Int32) (d : vmD) (h : MO_decode x1 d Q) : vmWp 327 0 [(0, .ref 42), (1, .int x1)] [] (wR L d e) Qo := by
  unfold MO_decode at h
  refine st_go 2 (pc' := 2) (lo' := [(0, .ref 42), (1, .int x1)]) (st' := [.int x1, .ref 42]) rfl ?_
  refine st_calli (k' := 320) (as := [.ref 42, .int x1]) (rest := []) (lo' := [(0, .ref 42), (1, .int x1)]) (wf := fun d => wR L d e) rfl rfl rfl ?_
  refine tMO_peek (fun r_2 d_1 h => ⟨r_2, d_1, rfl, rfl, ?_⟩) x1 d h
  refine st_go 3 (pc' := 8) (lo' := [(2, .int r_2), (0, .ref 42), (1, .int x1)]) (st' := [.int 0, .ref 42]) rfl ?_
  refine st_putIR (o := 42) (f := 59) rfl rfl rfl rfl rfl (fun d_3 hy_d_3 => ?_)
  have h := h d_3 hy_d_3
  refine st_go 2 (pc' := 13) (lo' := [(2, .int r_2), (0, .ref 42), (1, .int x1)]) (st' := [.int 0, .ref 42]) rfl ?_
  refine st_putIR (o := 42) (f := 60) rfl rfl rfl rfl rfl (fun d_4 hy_d_4 => ?_)
  have h := h d_4 hy_d_4
  refine st_go 2 (pc' := 18) (lo' := [(2, .int r_2), (0, .ref 42), (1, .int x1)]) (st' := [.int 0, .ref 42]) rfl ?_
  refine st_putIR (o := 42) (f := 62) rfl rfl rfl rfl rfl (fun d_5 hy_d_5 => ?_)
  have h := h d_5 hy_d_5
  refine st_go 2 (pc' := 23) (lo' := [(2, .int r_2), (0, .ref 42), (1, .int x1)]) (st' := [.int r_2, .ref 42]) rfl ?_
  refine st_putIR (o := 42) (f := 61) rfl rfl rfl rfl rfl (fun d_6 hy_d_6 => ?_)
  have h := h d_6 hy_d_6
  refine st_go 4 (pc' := 30) (lo' := [(2, .int r_2), (0, .ref 42), (1, .int x1)]) (st' := [.int (x1 + 1), .ref 42]) rfl ?_
  refine st_putIR (o := 42) (f := 64) rfl rfl rfl rfl rfl (fun d_7 hy_d_7 => ?_)
  have h := h d_7 hy_d_7
  refine st_go 3 (pc' := 36) (lo' := [(2, .int r_2), (0, .ref 42), (1, .int x1)]) (st' := [.int r_2, .ref 42, .ref 42]) rfl ?_
  refine st_calli (k' := 323) (as := [.ref 42, .int r_2]) (rest := [.ref 42]) (lo' := [(0, .ref 42), (1, .int r_2)]) (wf := fun d => wR L d e) rfl rfl rfl ?_
  refine tMO_plainLength (fun r_9 d_8 h => ⟨r_9, d_8, rfl, rfl, ?_⟩) r_2 d_7 h
  refine st_putIR (o := 42) (f := 63) rfl rfl rfl rfl rfl (fun d_10 hy_d_10 => ?_)
  have h := h d_10 hy_d_10
  refine st_go 2 (pc' := 46) (lo' := [(2, .int r_2), (0, .ref 42), (1, .int x1)]) (st' := [.int 203, .int r_2]) rfl ?_
  by_cases hc_11 : r_2 = 203
  · have h := Eq.mp (if_pos hc_11) h
    refine st_icmp (t := 49) (b := false) rfl (decide_eq_false (fun z => z hc_11)) rfl ?_
    refine st_go 2 (pc' := 51) (lo' := [(2, .int r_2), (0, .ref 42), (1, .int x1)]) (st' := [.int 1, .ref 42]) rfl ?_
    refine st_putIR (o := 42) (f := 59) rfl rfl rfl rfl rfl (fun d_12 hy_d_12 => ?_)
    have h := h d_12 hy_d_12
    refine st_go 5 (pc' := 59) (lo' := [(2, .int r_2), (0, .ref 42), (1, .int x1)]) (st' := [.int (x1 + 1), .ref 42, .ref 42]) rfl ?_
    refine st_calli (k' := 320) (as := [.ref 42, .int (x1 + 1)]) (rest := [.ref 42]) (lo' := [(0, .ref 42), (1, .int (x1 + 1))]) (wf := fun d => wR L d e) rfl rfl rfl ?_
    refine tMO_peek (fun r_14 d_13 h => ⟨r_14, d_13, rfl, rfl, ?_⟩) (x1 + 1) d_12 h
    refine st_putIR (o := 42) (f := 61) rfl rfl rfl rfl rfl (fun d_15 hy_d_15 => ?_)
    have h := h d_15 hy_d_15
    refine st_go 2 (pc' := 67) (lo' := [(2, .int r_2), (0, .ref 42), (1, .int x1)]) (st' := [.int 2, .ref 42]) rfl ?_
    refine st_putIR (o := 42) (f := 63) rfl rfl rfl rfl rfl (fun d_16 hy_d_16 => ?_)
    have h := h d_16 hy_d_16
    refine st_go 5 (pc' := 78) (lo' := [(2, .int r_2), (0, .ref 42), (1, .int x1)]) (st' := [.int 6, .int ((gF d_16 42 61) >>> ((3 : Int32) &&& 31))]) rfl ?_
    by_cases hc_17 : ((gF d_16 42 61) >>> ((3 : Int32) &&& 31)) = 6
    · have h := Eq.mp (if_pos hc_17) h
      refine st_icmp (t := 85) (b := true) rfl (decide_eq_true hc_17) rfl ?_
      refine st_go 1 (pc' := 86) (lo' := [(2, .int r_2), (0, .ref 42), (1, .int x1)]) (st' := [.int 0]) rfl ?_
      exact st_retZ rfl rfl (Or.inl rfl) (hQ _ _ h)
    · have h := Eq.mp (if_neg hc_17) h
      refine st_icmp (t := 81) (b := false) rfl (decide_eq_false hc_17) rfl ?_
      refine st_go 2 (pc' := 86) (lo' := [(2, .int r_2), (0, .ref 42), (1, .int x1)]) (st' := [.int 1]) rfl ?_
      exact st_retZ rfl rfl (Or.inr rfl) (hQ _ _ h)
  · have h := Eq.mp (if_neg hc_11) h
    refine st_icmp (t := 87) (b := true) rfl (decide_eq_true hc_11) rfl ?_
    refine st_go 2 (pc' := 91) (lo' := [(2, .int r_2), (0, .ref 42), (1, .int x1)]) (st' := [.int 237, .int r_2]) rfl ?_
    by_cases hc_18 : r_2 = 237
    · have h := Eq.mp (if_pos hc_18) h
      refine st_icmp (t := 94) (b := false) rfl (decide_eq_false (fun z => z hc_18)) rfl ?_
      refine st_go 2 (pc' := 96) (lo' := [(2, .int r_2), (0, .ref 42), (1, .int x1)]) (st' := [.int 2, .ref 42]) rfl ?_
      refine st_putIR (o := 42) (f := 59) rfl rfl rfl rfl rfl (fun d_19 hy_d_19 => ?_)
      have h := h d_19 hy_d_19
      refine st_go 5 (pc' := 104) (lo' := [(2, .int r_2), (0, .ref 42), (1, .int x1)]) (st' := [.int (x1 + 1), .ref 42, .ref 42]) rfl ?_
      refine st_calli (k' := 320) (as := [.ref 42, .int (x1 + 1)]) (rest := [.ref 42]) (lo' := [(0, .ref 42), (1, .int (x1 + 1))]) (wf := fun d => wR L d e) rfl rfl rfl ?_
      refine tMO_peek (fun r_21 d_20 h => ⟨r_21, d_20, rfl, rfl, ?_⟩) (x1 + 1) d_19 h
      refine st_putIR (o := 42) (f := 61) rfl rfl rfl rfl rfl (fun d_22 hy_d_22 => ?_)
      have h := h d_22 hy_d_22
      refine st_go 4 (pc' := 114) (lo' := [(2, .int r_2), (0, .ref 42), (1, .int x1)]) (st' := [.int (x1 + 2), .ref 42]) rfl ?_
      refine st_putIR (o := 42) (f := 64) rfl rfl rfl rfl rfl (fun d_23 hy_d_23 => ?_)
      have h := h d_23 hy_d_23
      refine st_go 6 (pc' := 126) (lo' := [(2, .int r_2), (0, .ref 42), (1, .int x1)]) (st' := [.int 1, .int ((gF d_23 42 61) >>> ((6 : Int32) &&& 31)), .ref 42]) rfl ?_
      by_cases hc_24 : ((gF d_23 42 61) >>> ((6 : Int32) &&& 31)) = 1
      · have h := Eq.mp (if_pos hc_24) h
        refine st_icmp (t := 129) (b := false) rfl (decide_eq_false (fun z => z hc_24)) rfl ?_
        refine st_go 5 (pc' := 137) (lo' := [(2, .int r_2), (0, .ref 42), (1, .int x1)]) (st' := [.int 3, .int ((gF d_23 42 61) &&& 7), .ref 42]) rfl ?_
        by_cases hc_25 : ((gF d_23 42 61) &&& 7) = 3
        · have h := Eq.mp (if_pos hc_25) h
          refine st_icmp (t := 140) (b := false) rfl (decide_eq_false (fun z => z hc_25)) rfl ?_
          refine st_go 2 (pc' := 145) (lo' := [(2, .int r_2), (0, .ref 42), (1, .int x1)]) (st' := [.int 4, .ref 42]) rfl ?_
          refine vmWp.sub (lo' := [(0, .ref 42)]) ⟨rfl, trivial⟩ ?_
          exact tMO_decode_145 hQ 4 d_23 h
        · have h := Eq.mp (if_neg hc_25) h
          refine st_icmp (t := 144) (b := true) rfl (decide_eq_true hc_25) rfl ?_
          refine vmWp.sub (lo' := [(0, .ref 42)]) ⟨rfl, trivial⟩ ?_
          exact tMO_decode_144 hQ d_23 h
      · have h := Eq.mp (if_neg hc_24) h
        refine st_icmp (t := 144) (b := true) rfl (decide_eq_true hc_24) rfl ?_
        refine vmWp.sub (lo' := [(0, .ref 42)]) ⟨rfl, trivial⟩ ?_
        exact tMO_decode_144 hQ d_23 h
    · have h := Eq.mp (if_neg hc_18) h
      refine st_icmp (t := 157) (b := true) rfl (decide_eq_true hc_18) rfl ?_
      refine st_go 2 (pc' := 161) (lo' := [(2, .int r_2), (0, .ref 42), (1, .int x1)]) (st' := [.int 221, .int r_2]) rfl ?_
      by_cases hc_29 : r_2 = 221
      · have h := Eq.mp (if_pos hc_29) h
        refine st_icmp (t := 173) (b := true) rfl (decide_eq_true hc_29) rfl ?_
        refine vmWp.sub (lo' := [(0, .ref 42), (1, .int x1), (2, .int r_2)]) ⟨rfl, rfl, rfl, trivial⟩ ?_
        exact tMO_decode_173 hQ x1 r_2 d_10 h
      · have h := Eq.mp (if_neg hc_29) h
        refine st_icmp (t := 164) (b := false) rfl (decide_eq_false hc_29) rfl ?_
        refine st_go 2 (pc' := 168) (lo' := [(2, .int r_2), (0, .ref 42), (1, .int x1)]) (st' := [.int 253, .int r_2]) rfl ?_
        by_cases hc_64 : r_2 = 253
        · have h := Eq.mp (if_pos hc_64) h
          refine st_icmp (t := 173) (b := true) rfl (decide_eq_true hc_64) rfl ?_
          refine vmWp.sub (lo' := [(0, .ref 42), (1, .int x1), (2, .int r_2)]) ⟨rfl, rfl, rfl, trivial⟩ ?_
          exact tMO_decode_173 hQ x1 r_2 d_10 h
        · have h := Eq.mp (if_neg hc_64) h
          refine st_icmp (t := 171) (b := false) rfl (decide_eq_false hc_64) rfl ?_
          refine st_go 1 (pc' := 172) (lo' := [(2, .int r_2), (0, .ref 42), (1, .int x1)]) (st' := [.int 1]) rfl ?_
          exact st_retZ rfl rfl (Or.inr rfl) (hQ _ _ h)
set_option maxRecDepth 100000 in
def MO_one (x1 : Int32) (d : vmD) (Q : vmD → Prop) : Prop :=
  ixOk (gF d 42 66) 40 ∧
  bnd (sA d 62 (gF d 42 66).toNatClampNeg x1) fun d_2 =>
  bnd (sF d_2 42 66 ((gF d_2 42 66) + 1)) fun d_3 =>
  Q d_3
set_option maxRecDepth 100000 in
set_option maxHeartbeats 4000000 in
theorem tMO_one {L : Nat} {e : vmD} {Qo : Option Value → vmW → Prop} {Q : vmD → Prop} (hQ : ∀ d, Q d → Qo none (wR L d e)) (x1 : Int32) (d : vmD) (h : MO_one x1 d Q) : vmWp 328 0 [(0, .ref 42), (1, .int x1)] [] (wR L d e) Qo := by
  unfold MO_one at h
  refine st_go 5 (pc' := 9) (lo' := [(0, .ref 42), (1, .int x1)]) (st' := [.int x1, .int (gF d 42 66), .ref 62]) rfl ?_
  obtain ⟨hj_1, h⟩ := h
  refine st_iastR (o := 62) rfl rfl hj_1 rfl (fun d_2 hy_d_2 => ?_)
  have h := h d_2 hy_d_2
  refine st_go 5 (pc' := 17) (lo' := [(0, .ref 42), (1, .int x1)]) (st' := [.int ((gF d_2 42 66) + 1), .ref 42]) rfl ?_
  refine st_putIR (o := 42) (f := 66) rfl rfl rfl rfl rfl (fun d_3 hy_d_3 => ?_)
  have h := h d_3 hy_d_3
  exact st_retV rfl rfl (hQ _ h)
set_option maxRecDepth 100000 in
def MO_say_28 (b3 : Int64 → Int32 → vmD → Prop) (x1 : Int64) (x3 : Int32) (d : vmD) (Q : vmD → Prop) : Prop :=
  bnd (x3 + (-8)) fun x3_5 =>
  b3 x1 x3_5 d
set_option maxRecDepth 100000 in
set_option maxHeartbeats 4000000 in
theorem tMO_say_28 {L : Nat} {e : vmD} {Qo : Option Value → vmW → Prop} {b3 : Int64 → Int32 → vmD → Prop} {Q : vmD → Prop} (hb3 : ∀ x1 x3 d, b3 x1 x3 d → vmWp 329 3 [(0, .ref 42), (1, .long x1), (3, .int x3)] [] (wR L d e) Qo) (hQ : ∀ d, Q d → Qo none (wR L d e)) (x1 : Int64) (x3 : Int32) (d : vmD) (h : MO_say_28 b3 x1 x3 d Q) : vmWp 329 28 [(0, .ref 42), (1, .long x1), (3, .int x3)] [] (wR L d e) Qo := by
  unfold MO_say_28 at h
  refine st_go 1 (pc' := 31) (lo' := [(3, .int (x3 + (-8))), (0, .ref 42), (1, .long x1)]) (st' := []) rfl ?_
  refine st_locI (fun x3_5 hy_x3_5 => ?_)
  have h := h x3_5 hy_x3_5
  refine st_go 1 (pc' := 3) (lo' := [(3, .int x3_5), (0, .ref 42), (1, .long x1)]) (st' := []) rfl ?_
  refine vmWp.sub (lo' := [(0, .ref 42), (1, .long x1), (3, .int x3_5)]) ⟨rfl, rfl, rfl, trivial⟩ ?_
  exact hb3 x1 x3_5 d h
set_option maxRecDepth 100000 in
def MO_say_3 (Q : vmD → Prop) : Nat → Int64 → Int32 → vmD → Prop
  | 0, _, _, _ => False
  | n + 1, x1, x3, d => if x3 < 0 then
  (Q d)
  else
  (bnd (Int64.toInt32 ((x1 >>> ((Int32.toInt64 x3) &&& 63)) &&& 255)) fun x4_2 =>
  if (0 : Int32) < x4_2 then
  (MO_one x4_2 d fun d_4 =>
  MO_say_28 (MO_say_3 Q n) x1 x3 d_4 Q)
  else
  (MO_say_28 (MO_say_3 Q n) x1 x3 d Q))
set_option maxRecDepth 100000 in
set_option maxHeartbeats 4000000 in
theorem tMO_say_3 {L : Nat} {e : vmD} {Qo : Option Value → vmW → Prop} {Q : vmD → Prop} (hQ : ∀ d, Q d → Qo none (wR L d e)) : ∀ (n : Nat) (x1 : Int64) (x3 : Int32) (d : vmD), MO_say_3 Q n x1 x3 d → vmWp 329 3 [(0, .ref 42), (1, .long x1), (3, .int x3)] [] (wR L d e) Qo := by
  intro n
  induction n with
  | zero => intro x1 x3 d h; exact h.elim
  | succ n ih =>
    intro x1 x3 d h
    unfold MO_say_3 at h
    refine st_go 1 (pc' := 4) (lo' := [(0, .ref 42), (1, .long x1), (3, .int x3)]) (st' := [.int x3]) rfl ?_
    by_cases hc_1 : x3 < 0
    · have h := Eq.mp (if_pos hc_1) h
      refine st_if (t := 34) (b := true) rfl (decide_eq_true hc_1) rfl ?_
      exact st_retV rfl rfl (hQ _ h)
    · have h := Eq.mp (if_neg hc_1) h
      refine st_if (t := 7) (b := false) rfl (decide_eq_false hc_1) rfl ?_
      refine st_go 7 (pc' := 17) (lo' := [(4, .int (Int64.toInt32 ((x1 >>> ((Int32.toInt64 x3) &&& 63)) &&& 255))), (0, .ref 42), (1, .long x1), (3, .int x3)]) (st' := []) rfl ?_
      refine st_locI (fun x4_2 hy_x4_2 => ?_)
      have h := h x4_2 hy_x4_2
      refine st_go 1 (pc' := 19) (lo' := [(4, .int x4_2), (0, .ref 42), (1, .long x1), (3, .int x3)]) (st' := [.int x4_2]) rfl ?_
      by_cases hc_3 : (0 : Int32) < x4_2
      · have h := Eq.mp (if_pos hc_3) h
        refine st_if (t := 22) (b := false) rfl (decide_eq_false (Int32.not_le.mpr hc_3)) rfl ?_
        refine st_go 2 (pc' := 25) (lo' := [(4, .int x4_2), (0, .ref 42), (1, .long x1), (3, .int x3)]) (st' := [.int x4_2, .ref 42]) rfl ?_
        refine st_callv (k' := 328) (as := [.ref 42, .int x4_2]) (rest := []) (lo' := [(0, .ref 42), (1, .int x4_2)]) (wf := fun d => wR L d e) rfl rfl rfl ?_
        refine tMO_one (fun d_4 h => ⟨d_4, rfl, rfl, ?_⟩) x4_2 d h
        refine vmWp.sub (lo' := [(0, .ref 42), (1, .long x1), (3, .int x3)]) ⟨rfl, rfl, rfl, trivial⟩ ?_
        exact tMO_say_28 ih hQ x1 x3 d_4 h
      · have h := Eq.mp (if_neg hc_3) h
        refine st_if (t := 28) (b := true) rfl (decide_eq_true (Int32.not_lt.mp hc_3)) rfl ?_
        refine vmWp.sub (lo' := [(0, .ref 42), (1, .long x1), (3, .int x3)]) ⟨rfl, rfl, rfl, trivial⟩ ?_
        exact tMO_say_28 ih hQ x1 x3 d h
set_option maxRecDepth 100000 in
def MO_say (x1 : Int64) (d : vmD) (Q : vmD → Prop) : Prop :=
  ∃ m3, MO_say_3 Q m3 x1 56 d
set_option maxRecDepth 100000 in
set_option maxHeartbeats 4000000 in
theorem tMO_say {L : Nat} {e : vmD} {Qo : Option Value → vmW → Prop} {Q : vmD → Prop} (hQ : ∀ d, Q d → Qo none (wR L d e)) (x1 : Int64) (d : vmD) (h : MO_say x1 d Q) : vmWp 329 0 [(0, .ref 42), (1, .long x1)] [] (wR L d e) Qo := by
  unfold MO_say at h
  refine st_go 2 (pc' := 3) (lo' := [(3, .int 56), (0, .ref 42), (1, .long x1)]) (st' := []) rfl ?_
  obtain ⟨m3, h⟩ := h
  refine vmWp.sub (lo' := [(0, .ref 42), (1, .long x1), (3, .int 56)]) ⟨rfl, rfl, rfl, trivial⟩ ?_
  exact tMO_say_3 hQ m3 x1 56 d h
set_option maxRecDepth 100000 in
def MO_number_18 (Q : vmD → Prop) : Nat → Int32 → Int32 → vmD → Prop
  | 0, _, _, _ => False
  | n + 1, x1, x2, d => if (0 : Int32) < x2 then
  (¬ x2 = 0 ∧
  MO_one ((48 : Int32) + ((x1 / x2) - (x1 / x2) / 10 * 10)) d fun d_6 =>
  bnd (x2 / 10) fun x2_7 =>
  (MO_number_18 Q n) x1 x2_7 d_6)
  else
  (Q d)
set_option maxRecDepth 100000 in
set_option maxHeartbeats 4000000 in
theorem tMO_number_18 {L : Nat} {e : vmD} {Qo : Option Value → vmW → Prop} {Q : vmD → Prop} (hQ : ∀ d, Q d → Qo none (wR L d e)) : ∀ (n : Nat) (x1 : Int32) (x2 : Int32) (d : vmD), MO_number_18 Q n x1 x2 d → vmWp 330 18 [(0, .ref 42), (1, .int x1), (2, .int x2)] [] (wR L d e) Qo := by
  intro n
  induction n with
  | zero => intro x1 x2 d h; exact h.elim
  | succ n ih =>
    intro x1 x2 d h
    unfold MO_number_18 at h
    refine st_go 1 (pc' := 19) (lo' := [(0, .ref 42), (1, .int x1), (2, .int x2)]) (st' := [.int x2]) rfl ?_
    by_cases hc_4 : (0 : Int32) < x2
    · have h := Eq.mp (if_pos hc_4) h
      refine st_if (t := 22) (b := false) rfl (decide_eq_false (Int32.not_le.mpr hc_4)) rfl ?_
      refine st_go 4 (pc' := 27) (lo' := [(0, .ref 42), (1, .int x1), (2, .int x2)]) (st' := [.int x2, .int x1, .int 48, .ref 42]) rfl ?_
      obtain ⟨hz_5, h⟩ := h
      refine st_idiv rfl hz_5 ?_
      refine st_go 1 (pc' := 30) (lo' := [(0, .ref 42), (1, .int x1), (2, .int x2)]) (st' := [.int 10, .int (x1 / x2), .int 48, .ref 42]) rfl ?_
      refine st_irem rfl (by decide) ?_
      refine st_go 1 (pc' := 32) (lo' := [(0, .ref 42), (1, .int x1), (2, .int x2)]) (st' := [.int ((48 : Int32) + ((x1 / x2) - (x1 / x2) / 10 * 10)), .ref 42]) rfl ?_
      refine st_callv (k' := 328) (as := [.ref 42, .int ((48 : Int32) + ((x1 / x2) - (x1 / x2) / 10 * 10))]) (rest := []) (lo' := [(0, .ref 42), (1, .int ((48 : Int32) + ((x1 / x2) - (x1 / x2) / 10 * 10)))]) (wf := fun d => wR L d e) rfl rfl rfl ?_
      refine tMO_one (fun d_6 h => ⟨d_6, rfl, rfl, ?_⟩) ((48 : Int32) + ((x1 / x2) - (x1 / x2) / 10 * 10)) d h
      refine st_go 2 (pc' := 38) (lo' := [(0, .ref 42), (1, .int x1), (2, .int x2)]) (st' := [.int 10, .int x2]) rfl ?_
      refine st_idiv rfl (by decide) ?_
      refine st_go 1 (pc' := 40) (lo' := [(2, .int (x2 / 10)), (0, .ref 42), (1, .int x1)]) (st' := []) rfl ?_
      refine st_locI (fun x2_7 hy_x2_7 => ?_)
      have h := h x2_7 hy_x2_7
      refine st_go 1 (pc' := 18) (lo' := [(2, .int x2_7), (0, .ref 42), (1, .int x1)]) (st' := []) rfl ?_
      refine vmWp.sub (lo' := [(0, .ref 42), (1, .int x1), (2, .int x2_7)]) ⟨rfl, rfl, rfl, trivial⟩ ?_
      exact ih x1 x2_7 d_6 h
    · have h := Eq.mp (if_neg hc_4) h
      refine st_if (t := 43) (b := true) rfl (decide_eq_true (Int32.not_lt.mp hc_4)) rfl ?_
      exact st_retV rfl rfl (hQ _ h)
set_option maxRecDepth 100000 in
def MO_number_2 (Q : vmD → Prop) : Nat → Int32 → Int32 → vmD → Prop
  | 0, _, _, _ => False
  | n + 1, x1, x2, d => ¬ x2 = 0 ∧
  if (9 : Int32) < (x1 / x2) then
  (bnd (x2 * 10) fun x2_3 =>
  (MO_number_2 Q n) x1 x2_3 d)
  else
  (∃ m18, MO_number_18 Q m18 x1 x2 d)
set_option maxRecDepth 100000 in
set_option maxHeartbeats 4000000 in
theorem tMO_number_2 {L : Nat} {e : vmD} {Qo : Option Value → vmW → Prop} {Q : vmD → Prop} (hQ : ∀ d, Q d → Qo none (wR L d e)) : ∀ (n : Nat) (x1 : Int32) (x2 : Int32) (d : vmD), MO_number_2 Q n x1 x2 d → vmWp 330 2 [(0, .ref 42), (1, .int x1), (2, .int x2)] [] (wR L d e) Qo := by
  intro n
  induction n with
  | zero => intro x1 x2 d h; exact h.elim
  | succ n ih =>
    intro x1 x2 d h
    unfold MO_number_2 at h
    refine st_go 2 (pc' := 4) (lo' := [(0, .ref 42), (1, .int x1), (2, .int x2)]) (st' := [.int x2, .int x1]) rfl ?_
    obtain ⟨hz_1, h⟩ := h
    refine st_idiv rfl hz_1 ?_
    refine st_go 1 (pc' := 7) (lo' := [(0, .ref 42), (1, .int x1), (2, .int x2)]) (st' := [.int 9, .int (x1 / x2)]) rfl ?_
    by_cases hc_2 : (9 : Int32) < (x1 / x2)
    · have h := Eq.mp (if_pos hc_2) h
      refine st_icmp (t := 10) (b := false) rfl (decide_eq_false (Int32.not_le.mpr hc_2)) rfl ?_
      refine st_go 4 (pc' := 15) (lo' := [(2, .int (x2 * 10)), (0, .ref 42), (1, .int x1)]) (st' := []) rfl ?_
      refine st_locI (fun x2_3 hy_x2_3 => ?_)
      have h := h x2_3 hy_x2_3
      refine st_go 1 (pc' := 2) (lo' := [(2, .int x2_3), (0, .ref 42), (1, .int x1)]) (st' := []) rfl ?_
      refine vmWp.sub (lo' := [(0, .ref 42), (1, .int x1), (2, .int x2_3)]) ⟨rfl, rfl, rfl, trivial⟩ ?_
      exact ih x1 x2_3 d h
    · have h := Eq.mp (if_neg hc_2) h
      refine st_icmp (t := 18) (b := true) rfl (decide_eq_true (Int32.not_lt.mp hc_2)) rfl ?_
      obtain ⟨m18, h⟩ := h
      refine vmWp.sub (lo' := [(0, .ref 42), (1, .int x1), (2, .int x2)]) ⟨rfl, rfl, rfl, trivial⟩ ?_
      exact tMO_number_18 hQ m18 x1 x2 d h
set_option maxRecDepth 100000 in
def MO_number (x1 : Int32) (d : vmD) (Q : vmD → Prop) : Prop :=
  ∃ m2, MO_number_2 Q m2 x1 1 d
set_option maxRecDepth 100000 in
set_option maxHeartbeats 4000000 in
theorem tMO_number {L : Nat} {e : vmD} {Qo : Option Value → vmW → Prop} {Q : vmD → Prop} (hQ : ∀ d, Q d → Qo none (wR L d e)) (x1 : Int32) (d : vmD) (h : MO_number x1 d Q) : vmWp 330 0 [(0, .ref 42), (1, .int x1)] [] (wR L d e) Qo := by
  unfold MO_number at h
  refine st_go 2 (pc' := 2) (lo' := [(2, .int 1), (0, .ref 42), (1, .int x1)]) (st' := []) rfl ?_
  obtain ⟨m2, h⟩ := h
  refine vmWp.sub (lo' := [(0, .ref 42), (1, .int x1), (2, .int 1)]) ⟨rfl, rfl, rfl, trivial⟩ ?_
  exact tMO_number_2 hQ m2 x1 1 d h
set_option maxRecDepth 100000 in
def MO_indexName_31 (s0 : Int64) (d : vmD) (Q : vmD → Prop) : Prop :=
  MO_say s0 d fun d_2 =>
  Q d_2
set_option maxRecDepth 100000 in
set_option maxHeartbeats 4000000 in
theorem tMO_indexName_31 {L : Nat} {e : vmD} {Qo : Option Value → vmW → Prop} {Q : vmD → Prop} (hQ : ∀ d, Q d → Qo none (wR L d e)) (s0 : Int64) (d : vmD) (h : MO_indexName_31 s0 d Q) : vmWp 332 31 [] [.long s0, .ref 42] (wR L d e) Qo := by
  unfold MO_indexName_31 at h
  refine st_callv (k' := 329) (as := [.ref 42, .long s0]) (rest := []) (lo' := [(0, .ref 42), (1, .long s0)]) (wf := fun d => wR L d e) rfl rfl rfl ?_
  refine tMO_say (fun d_2 h => ⟨d_2, rfl, rfl, ?_⟩) s0 d h
  exact st_retV rfl rfl (hQ _ h)
set_option maxRecDepth 100000 in
def MO_indexName (d : vmD) (Q : vmD → Prop) : Prop :=
  if (gF d 42 60) = 0 then
  (MO_indexName_31 18508 d Q)
  else
  (if (gF d 42 60) = 1 then
  (MO_indexName_31 18776 d Q)
  else
  (MO_indexName_31 18777 d Q))
set_option maxRecDepth 100000 in
set_option maxHeartbeats 4000000 in
theorem tMO_indexName {L : Nat} {e : vmD} {Qo : Option Value → vmW → Prop} {Q : vmD → Prop} (hQ : ∀ d, Q d → Qo none (wR L d e)) (d : vmD) (h : MO_indexName d Q) : vmWp 332 0 [(0, .ref 42)] [] (wR L d e) Qo := by
  unfold MO_indexName at h
  refine st_go 3 (pc' := 5) (lo' := [(0, .ref 42)]) (st' := [.int (gF d 42 60), .ref 42]) rfl ?_
  by_cases hc_1 : (gF d 42 60) = 0
  · have h := Eq.mp (if_pos hc_1) h
    refine st_if (t := 8) (b := false) rfl (decide_eq_false (fun z => z hc_1)) rfl ?_
    refine st_go 2 (pc' := 31) (lo' := [(0, .ref 42)]) (st' := [.long 18508, .ref 42]) rfl ?_
    refine vmWp.sub (lo' := []) trivial ?_
    exact tMO_indexName_31 hQ 18508 d h
  · have h := Eq.mp (if_neg hc_1) h
    refine st_if (t := 14) (b := true) rfl (decide_eq_true hc_1) rfl ?_
    refine st_go 3 (pc' := 19) (lo' := [(0, .ref 42)]) (st' := [.int 1, .int (gF d 42 60), .ref 42]) rfl ?_
    by_cases hc_3 : (gF d 42 60) = 1
    · have h := Eq.mp (if_pos hc_3) h
      refine st_icmp (t := 22) (b := false) rfl (decide_eq_false (fun z => z hc_3)) rfl ?_
      refine st_go 2 (pc' := 31) (lo' := [(0, .ref 42)]) (st' := [.long 18776, .ref 42]) rfl ?_
      refine vmWp.sub (lo' := []) trivial ?_
      exact tMO_indexName_31 hQ 18776 d h
    · have h := Eq.mp (if_neg hc_3) h
      refine st_icmp (t := 28) (b := true) rfl (decide_eq_true hc_3) rfl ?_
      refine st_go 1 (pc' := 31) (lo' := [(0, .ref 42)]) (st' := [.long 18777, .ref 42]) rfl ?_
      refine vmWp.sub (lo' := []) trivial ?_
      exact tMO_indexName_31 hQ 18777 d h
set_option maxRecDepth 100000 in
def MO_place_63 (s0 : Int32) (d : vmD) (Q : vmD → Prop) : Prop :=
  MO_number s0 d fun d_8 =>
  MO_one 41 d_8 fun d_9 =>
  Q d_9
set_option maxRecDepth 100000 in
set_option maxHeartbeats 4000000 in
theorem tMO_place_63 {L : Nat} {e : vmD} {Qo : Option Value → vmW → Prop} {Q : vmD → Prop} (hQ : ∀ d, Q d → Qo none (wR L d e)) (s0 : Int32) (d : vmD) (h : MO_place_63 s0 d Q) : vmWp 331 63 [(0, .ref 42)] [.int s0, .ref 42] (wR L d e) Qo := by
  unfold MO_place_63 at h
  refine st_callv (k' := 330) (as := [.ref 42, .int s0]) (rest := []) (lo' := [(0, .ref 42), (1, .int s0)]) (wf := fun d => wR L d e) rfl rfl rfl ?_
  refine tMO_number (fun d_8 h => ⟨d_8, rfl, rfl, ?_⟩) s0 d h
  refine st_go 2 (pc' := 69) (lo' := [(0, .ref 42)]) (st' := [.int 41, .ref 42]) rfl ?_
  refine st_callv (k' := 328) (as := [.ref 42, .int 41]) (rest := []) (lo' := [(0, .ref 42), (1, .int 41)]) (wf := fun d => wR L d e) rfl rfl rfl ?_
  refine tMO_one (fun d_9 h => ⟨d_9, rfl, rfl, ?_⟩) 41 d_8 h
  exact st_retV rfl rfl (hQ _ h)
set_option maxRecDepth 100000 in
def MO_place_40 (s0 : Int32) (d : vmD) (Q : vmD → Prop) : Prop :=
  MO_one s0 d fun d_6 =>
  if (gF d_6 42 62) < 0 then
  (MO_place_63 (-(gF d_6 42 62)) d_6 Q)
  else
  (MO_place_63 (gF d_6 42 62) d_6 Q)
set_option maxRecDepth 100000 in
set_option maxHeartbeats 4000000 in
theorem tMO_place_40 {L : Nat} {e : vmD} {Qo : Option Value → vmW → Prop} {Q : vmD → Prop} (hQ : ∀ d, Q d → Qo none (wR L d e)) (s0 : Int32) (d : vmD) (h : MO_place_40 s0 d Q) : vmWp 331 40 [(0, .ref 42)] [.int s0, .ref 42] (wR L d e) Qo := by
  unfold MO_place_40 at h
  refine st_callv (k' := 328) (as := [.ref 42, .int s0]) (rest := []) (lo' := [(0, .ref 42), (1, .int s0)]) (wf := fun d => wR L d e) rfl rfl rfl ?_
  refine tMO_one (fun d_6 h => ⟨d_6, rfl, rfl, ?_⟩) s0 d h
  refine st_go 3 (pc' := 48) (lo' := [(0, .ref 42)]) (st' := [.int (gF d_6 42 62), .ref 42]) rfl ?_
  by_cases hc_7 : (gF d_6 42 62) < 0
  · have h := Eq.mp (if_pos hc_7) h
    refine st_if (t := 51) (b := false) rfl (decide_eq_false (Int32.not_le.mpr hc_7)) rfl ?_
    refine st_go 4 (pc' := 63) (lo' := [(0, .ref 42)]) (st' := [.int (-(gF d_6 42 62)), .ref 42]) rfl ?_
    refine vmWp.sub (lo' := [(0, .ref 42)]) ⟨rfl, trivial⟩ ?_
    exact tMO_place_63 hQ (-(gF d_6 42 62)) d_6 h
  · have h := Eq.mp (if_neg hc_7) h
    refine st_if (t := 59) (b := true) rfl (decide_eq_true (Int32.not_lt.mp hc_7)) rfl ?_
    refine st_go 2 (pc' := 63) (lo' := [(0, .ref 42)]) (st' := [.int (gF d_6 42 62), .ref 42]) rfl ?_
    refine vmWp.sub (lo' := [(0, .ref 42)]) ⟨rfl, trivial⟩ ?_
    exact tMO_place_63 hQ (gF d_6 42 62) d_6 h
set_option maxRecDepth 100000 in
def MO_place (d : vmD) (Q : vmD → Prop) : Prop :=
  if (gF d 42 60) = 0 then
  (MO_say 675826729 d fun d_2 =>
  Q d_2)
  else
  (MO_one 40 d fun d_3 =>
  MO_indexName d_3 fun d_4 =>
  if (gF d_4 42 62) < 0 then
  (MO_place_40 45 d_4 Q)
  else
  (MO_place_40 43 d_4 Q))
set_option maxRecDepth 100000 in
set_option maxHeartbeats 4000000 in
theorem tMO_place {L : Nat} {e : vmD} {Qo : Option Value → vmW → Prop} {Q : vmD → Prop} (hQ : ∀ d, Q d → Qo none (wR L d e)) (d : vmD) (h : MO_place d Q) : vmWp 331 0 [(0, .ref 42)] [] (wR L d e) Qo := by
  unfold MO_place at h
  refine st_go 2 (pc' := 4) (lo' := [(0, .ref 42)]) (st' := [.int (gF d 42 60)]) rfl ?_
  by_cases hc_1 : (gF d 42 60) = 0
  · have h := Eq.mp (if_pos hc_1) h
    refine st_if (t := 7) (b := false) rfl (decide_eq_false (fun z => z hc_1)) rfl ?_
    refine st_go 2 (pc' := 11) (lo' := [(0, .ref 42)]) (st' := [.long 675826729, .ref 42]) rfl ?_
    refine st_callv (k' := 329) (as := [.ref 42, .long 675826729]) (rest := []) (lo' := [(0, .ref 42), (1, .long 675826729)]) (wf := fun d => wR L d e) rfl rfl rfl ?_
    refine tMO_say (fun d_2 h => ⟨d_2, rfl, rfl, ?_⟩) 675826729 d h
    exact st_retV rfl rfl (hQ _ h)
  · have h := Eq.mp (if_neg hc_1) h
    refine st_if (t := 15) (b := true) rfl (decide_eq_true hc_1) rfl ?_
    refine st_go 2 (pc' := 18) (lo' := [(0, .ref 42)]) (st' := [.int 40, .ref 42]) rfl ?_
    refine st_callv (k' := 328) (as := [.ref 42, .int 40]) (rest := []) (lo' := [(0, .ref 42), (1, .int 40)]) (wf := fun d => wR L d e) rfl rfl rfl ?_
    refine tMO_one (fun d_3 h => ⟨d_3, rfl, rfl, ?_⟩) 40 d h
    refine st_go 1 (pc' := 22) (lo' := [(0, .ref 42)]) (st' := [.ref 42]) rfl ?_
    refine st_callv (k' := 332) (as := [.ref 42]) (rest := []) (lo' := [(0, .ref 42)]) (wf := fun d => wR L d e) rfl rfl rfl ?_
    refine tMO_indexName (fun d_4 h => ⟨d_4, rfl, rfl, ?_⟩) d_3 h
    refine st_go 3 (pc' := 30) (lo' := [(0, .ref 42)]) (st' := [.int (gF d_4 42 62), .ref 42]) rfl ?_
    by_cases hc_5 : (gF d_4 42 62) < 0
    · have h := Eq.mp (if_pos hc_5) h
      refine st_if (t := 33) (b := false) rfl (decide_eq_false (Int32.not_le.mpr hc_5)) rfl ?_
      refine st_go 2 (pc' := 40) (lo' := [(0, .ref 42)]) (st' := [.int 45, .ref 42]) rfl ?_
      refine vmWp.sub (lo' := [(0, .ref 42)]) ⟨rfl, trivial⟩ ?_
      exact tMO_place_40 hQ 45 d_4 h
    · have h := Eq.mp (if_neg hc_5) h
      refine st_if (t := 38) (b := true) rfl (decide_eq_true (Int32.not_lt.mp hc_5)) rfl ?_
      refine st_go 1 (pc' := 40) (lo' := [(0, .ref 42)]) (st' := [.int 43, .ref 42]) rfl ?_
      refine vmWp.sub (lo' := [(0, .ref 42)]) ⟨rfl, trivial⟩ ?_
      exact tMO_place_40 hQ 43 d_4 h
set_option maxRecDepth 100000 in
def MO_octetName_75 (s0 : Int32) (d : vmD) (Q : vmD → Prop) : Prop :=
  MO_one s0 d fun d_4 =>
  Q d_4
set_option maxRecDepth 100000 in
set_option maxHeartbeats 4000000 in
theorem tMO_octetName_75 {L : Nat} {e : vmD} {Qo : Option Value → vmW → Prop} {Q : vmD → Prop} (hQ : ∀ d, Q d → Qo none (wR L d e)) (s0 : Int32) (d : vmD) (h : MO_octetName_75 s0 d Q) : vmWp 333 75 [] [.int s0, .ref 42] (wR L d e) Qo := by
  unfold MO_octetName_75 at h
  refine st_callv (k' := 328) (as := [.ref 42, .int s0]) (rest := []) (lo' := [(0, .ref 42), (1, .int s0)]) (wf := fun d => wR L d e) rfl rfl rfl ?_
  refine tMO_one (fun d_4 h => ⟨d_4, rfl, rfl, ?_⟩) s0 d h
  exact st_retV rfl rfl (hQ _ h)
set_option maxRecDepth 100000 in
def MO_octetName (x1 : Int32) (d : vmD) (Q : vmD → Prop) : Prop :=
  if x1 = 6 then
  (MO_place d fun d_2 =>
  Q d_2)
  else
  (if x1 = 0 then
  (MO_octetName_75 66 d Q)
  else
  (if x1 = 1 then
  (MO_octetName_75 67 d Q)
  else
  (if x1 = 2 then
  (MO_octetName_75 68 d Q)
  else
  (if x1 = 3 then
  (MO_octetName_75 69 d Q)
  else
  (if x1 = 4 then
  (MO_octetName_75 72 d Q)
  else
  (if x1 = 5 then
  (MO_octetName_75 76 d Q)
  else
  (MO_octetName_75 65 d Q)))))))
set_option maxRecDepth 100000 in
set_option maxHeartbeats 4000000 in
theorem tMO_octetName {L : Nat} {e : vmD} {Qo : Option Value → vmW → Prop} {Q : vmD → Prop} (hQ : ∀ d, Q d → Qo none (wR L d e)) (x1 : Int32) (d : vmD) (h : MO_octetName x1 d Q) : vmWp 333 0 [(0, .ref 42), (1, .int x1)] [] (wR L d e) Qo := by
  unfold MO_octetName at h
  refine st_go 2 (pc' := 3) (lo' := [(0, .ref 42), (1, .int x1)]) (st' := [.int 6, .int x1]) rfl ?_
  by_cases hc_1 : x1 = 6
  · have h := Eq.mp (if_pos hc_1) h
    refine st_icmp (t := 6) (b := false) rfl (decide_eq_false (fun z => z hc_1)) rfl ?_
    refine st_go 1 (pc' := 7) (lo' := [(0, .ref 42), (1, .int x1)]) (st' := [.ref 42]) rfl ?_
    refine st_callv (k' := 331) (as := [.ref 42]) (rest := []) (lo' := [(0, .ref 42)]) (wf := fun d => wR L d e) rfl rfl rfl ?_
    refine tMO_place (fun d_2 h => ⟨d_2, rfl, rfl, ?_⟩) d h
    refine st_go 1 (pc' := 78) (lo' := [(0, .ref 42), (1, .int x1)]) (st' := []) rfl ?_
    exact st_retV rfl rfl (hQ _ h)
  · have h := Eq.mp (if_neg hc_1) h
    refine st_icmp (t := 13) (b := true) rfl (decide_eq_true hc_1) rfl ?_
    refine st_go 2 (pc' := 15) (lo' := [(0, .ref 42), (1, .int x1)]) (st' := [.int x1, .ref 42]) rfl ?_
    by_cases hc_3 : x1 = 0
    · have h := Eq.mp (if_pos hc_3) h
      refine st_if (t := 18) (b := false) rfl (decide_eq_false (fun z => z hc_3)) rfl ?_
      refine st_go 2 (pc' := 75) (lo' := [(0, .ref 42), (1, .int x1)]) (st' := [.int 66, .ref 42]) rfl ?_
      refine vmWp.sub (lo' := []) trivial ?_
      exact tMO_octetName_75 hQ 66 d h
    · have h := Eq.mp (if_neg hc_3) h
      refine st_if (t := 23) (b := true) rfl (decide_eq_true hc_3) rfl ?_
      refine st_go 2 (pc' := 25) (lo' := [(0, .ref 42), (1, .int x1)]) (st' := [.int 1, .int x1, .ref 42]) rfl ?_
      by_cases hc_5 : x1 = 1
      · have h := Eq.mp (if_pos hc_5) h
        refine st_icmp (t := 28) (b := false) rfl (decide_eq_false (fun z => z hc_5)) rfl ?_
        refine st_go 2 (pc' := 75) (lo' := [(0, .ref 42), (1, .int x1)]) (st' := [.int 67, .ref 42]) rfl ?_
        refine vmWp.sub (lo' := []) trivial ?_
        exact tMO_octetName_75 hQ 67 d h
      · have h := Eq.mp (if_neg hc_5) h
        refine st_icmp (t := 33) (b := true) rfl (decide_eq_true hc_5) rfl ?_
        refine st_go 2 (pc' := 35) (lo' := [(0, .ref 42), (1, .int x1)]) (st' := [.int 2, .int x1, .ref 42]) rfl ?_
        by_cases hc_6 : x1 = 2
        · have h := Eq.mp (if_pos hc_6) h
          refine st_icmp (t := 38) (b := false) rfl (decide_eq_false (fun z => z hc_6)) rfl ?_
          refine st_go 2 (pc' := 75) (lo' := [(0, .ref 42), (1, .int x1)]) (st' := [.int 68, .ref 42]) rfl ?_
          refine vmWp.sub (lo' := []) trivial ?_
          exact tMO_octetName_75 hQ 68 d h
        · have h := Eq.mp (if_neg hc_6) h
          refine st_icmp (t := 43) (b := true) rfl (decide_eq_true hc_6) rfl ?_
          refine st_go 2 (pc' := 45) (lo' := [(0, .ref 42), (1, .int x1)]) (st' := [.int 3, .int x1, .ref 42]) rfl ?_
          by_cases hc_7 : x1 = 3
          · have h := Eq.mp (if_pos hc_7) h
            refine st_icmp (t := 48) (b := false) rfl (decide_eq_false (fun z => z hc_7)) rfl ?_
            refine st_go 2 (pc' := 75) (lo' := [(0, .ref 42), (1, .int x1)]) (st' := [.int 69, .ref 42]) rfl ?_
            refine vmWp.sub (lo' := []) trivial ?_
            exact tMO_octetName_75 hQ 69 d h
          · have h := Eq.mp (if_neg hc_7) h
            refine st_icmp (t := 53) (b := true) rfl (decide_eq_true hc_7) rfl ?_
            refine st_go 2 (pc' := 55) (lo' := [(0, .ref 42), (1, .int x1)]) (st' := [.int 4, .int x1, .ref 42]) rfl ?_
            by_cases hc_8 : x1 = 4
            · have h := Eq.mp (if_pos hc_8) h
              refine st_icmp (t := 58) (b := false) rfl (decide_eq_false (fun z => z hc_8)) rfl ?_
              refine st_go 2 (pc' := 75) (lo' := [(0, .ref 42), (1, .int x1)]) (st' := [.int 72, .ref 42]) rfl ?_
              refine vmWp.sub (lo' := []) trivial ?_
              exact tMO_octetName_75 hQ 72 d h
            · have h := Eq.mp (if_neg hc_8) h
              refine st_icmp (t := 63) (b := true) rfl (decide_eq_true hc_8) rfl ?_
              refine st_go 2 (pc' := 65) (lo' := [(0, .ref 42), (1, .int x1)]) (st' := [.int 5, .int x1, .ref 42]) rfl ?_
              by_cases hc_9 : x1 = 5
              · have h := Eq.mp (if_pos hc_9) h
                refine st_icmp (t := 68) (b := false) rfl (decide_eq_false (fun z => z hc_9)) rfl ?_
                refine st_go 2 (pc' := 75) (lo' := [(0, .ref 42), (1, .int x1)]) (st' := [.int 76, .ref 42]) rfl ?_
                refine vmWp.sub (lo' := []) trivial ?_
                exact tMO_octetName_75 hQ 76 d h
              · have h := Eq.mp (if_neg hc_9) h
                refine st_icmp (t := 73) (b := true) rfl (decide_eq_true hc_9) rfl ?_
                refine st_go 1 (pc' := 75) (lo' := [(0, .ref 42), (1, .int x1)]) (st' := [.int 65, .ref 42]) rfl ?_
                refine vmWp.sub (lo' := []) trivial ?_
                exact tMO_octetName_75 hQ 65 d h
set_option maxRecDepth 100000 in
def MO_write203_137 (d : vmD) (Q : vmD → Prop) : Prop :=
  MO_octetName ((gF d 42 61) &&& 7) d fun d_6 =>
  Q d_6
set_option maxRecDepth 100000 in
set_option maxHeartbeats 4000000 in
theorem tMO_write203_137 {L : Nat} {e : vmD} {Qo : Option Value → vmW → Prop} {Q : vmD → Prop} (hQ : ∀ d, Q d → Qo none (wR L d e)) (d : vmD) (h : MO_write203_137 d Q) : vmWp 346 137 [(0, .ref 42)] [] (wR L d e) Qo := by
  unfold MO_write203_137 at h
  refine st_go 5 (pc' := 145) (lo' := [(0, .ref 42)]) (st' := [.int ((gF d 42 61) &&& 7), .ref 42]) rfl ?_
  refine st_callv (k' := 333) (as := [.ref 42, .int ((gF d 42 61) &&& 7)]) (rest := []) (lo' := [(0, .ref 42), (1, .int ((gF d 42 61) &&& 7))]) (wf := fun d => wR L d e) rfl rfl rfl ?_
  refine tMO_octetName (fun d_6 h => ⟨d_6, rfl, rfl, ?_⟩) ((gF d 42 61) &&& 7) d h
  exact st_retV rfl rfl (hQ _ h)
set_option maxRecDepth 100000 in
def MO_write203_91 (s0 : Int64) (d : vmD) (Q : vmD → Prop) : Prop :=
  MO_say s0 d fun d_5 =>
  MO_write203_137 d_5 Q
set_option maxRecDepth 100000 in
set_option maxHeartbeats 4000000 in
theorem tMO_write203_91 {L : Nat} {e : vmD} {Qo : Option Value → vmW → Prop} {Q : vmD → Prop} (hQ : ∀ d, Q d → Qo none (wR L d e)) (s0 : Int64) (d : vmD) (h : MO_write203_91 s0 d Q) : vmWp 346 91 [(0, .ref 42)] [.long s0, .ref 42] (wR L d e) Qo := by
  unfold MO_write203_91 at h
  refine st_callv (k' := 329) (as := [.ref 42, .long s0]) (rest := []) (lo' := [(0, .ref 42), (1, .long s0)]) (wf := fun d => wR L d e) rfl rfl rfl ?_
  refine tMO_say (fun d_5 h => ⟨d_5, rfl, rfl, ?_⟩) s0 d h
  refine st_go 1 (pc' := 137) (lo' := [(0, .ref 42)]) (st' := []) rfl ?_
  refine vmWp.sub (lo' := [(0, .ref 42)]) ⟨rfl, trivial⟩ ?_
  exact tMO_write203_137 hQ d_5 h
set_option maxRecDepth 100000 in
def MO_write203_123 (x1 : Int32) (s0 : Int64) (d : vmD) (Q : vmD → Prop) : Prop :=
  MO_say s0 d fun d_13 =>
  MO_number x1 d_13 fun d_14 =>
  MO_one 44 d_14 fun d_15 =>
  MO_write203_137 d_15 Q
set_option maxRecDepth 100000 in
set_option maxHeartbeats 4000000 in
theorem tMO_write203_123 {L : Nat} {e : vmD} {Qo : Option Value → vmW → Prop} {Q : vmD → Prop} (hQ : ∀ d, Q d → Qo none (wR L d e)) (x1 : Int32) (s0 : Int64) (d : vmD) (h : MO_write203_123 x1 s0 d Q) : vmWp 346 123 [(0, .ref 42), (1, .int x1)] [.long s0, .ref 42] (wR L d e) Qo := by
  unfold MO_write203_123 at h
  refine st_callv (k' := 329) (as := [.ref 42, .long s0]) (rest := []) (lo' := [(0, .ref 42), (1, .long s0)]) (wf := fun d => wR L d e) rfl rfl rfl ?_
  refine tMO_say (fun d_13 h => ⟨d_13, rfl, rfl, ?_⟩) s0 d h
  refine st_go 2 (pc' := 128) (lo' := [(0, .ref 42), (1, .int x1)]) (st' := [.int x1, .ref 42]) rfl ?_
  refine st_callv (k' := 330) (as := [.ref 42, .int x1]) (rest := []) (lo' := [(0, .ref 42), (1, .int x1)]) (wf := fun d => wR L d e) rfl rfl rfl ?_
  refine tMO_number (fun d_14 h => ⟨d_14, rfl, rfl, ?_⟩) x1 d_13 h
  refine st_go 2 (pc' := 134) (lo' := [(0, .ref 42), (1, .int x1)]) (st' := [.int 44, .ref 42]) rfl ?_
  refine st_callv (k' := 328) (as := [.ref 42, .int 44]) (rest := []) (lo' := [(0, .ref 42), (1, .int 44)]) (wf := fun d => wR L d e) rfl rfl rfl ?_
  refine tMO_one (fun d_15 h => ⟨d_15, rfl, rfl, ?_⟩) 44 d_14 h
  refine vmWp.sub (lo' := [(0, .ref 42)]) ⟨rfl, trivial⟩ ?_
  exact tMO_write203_137 hQ d_15 h
set_option maxRecDepth 100000 in
def MO_write203 (d : vmD) (Q : vmD → Prop) : Prop :=
  bnd (((gF d 42 61) >>> ((3 : Int32) &&& 31)) &&& 7) fun x1_1 =>
  bnd ((gF d 42 61) >>> ((6 : Int32) &&& 31)) fun x2_2 =>
  if x2_2 = 0 then
  (if x1_1 = 0 then
  (MO_write203_91 1380729632 d Q)
  else
  (if x1_1 = 1 then
  (MO_write203_91 1381122848 d Q)
  else
  (if x1_1 = 2 then
  (MO_write203_91 5393440 d Q)
  else
  (if x1_1 = 3 then
  (MO_write203_91 5394976 d Q)
  else
  (if x1_1 = 4 then
  (MO_write203_91 1397506336 d Q)
  else
  (if x1_1 = 5 then
  (MO_write203_91 1397899552 d Q)
  else
  (MO_write203_91 1397902368 d Q)))))))
  else
  (if x2_2 = 1 then
  (MO_write203_123 x1_1 1112101920 d Q)
  else
  (if x2_2 = 2 then
  (MO_write203_123 x1_1 1380274976 d Q)
  else
  (MO_write203_123 x1_1 1397052448 d Q)))
set_option maxRecDepth 100000 in
set_option maxHeartbeats 4000000 in
theorem tMO_write203 {L : Nat} {e : vmD} {Qo : Option Value → vmW → Prop} {Q : vmD → Prop} (hQ : ∀ d, Q d → Qo none (wR L d e)) (d : vmD) (h : MO_write203 d Q) : vmWp 346 0 [(0, .ref 42)] [] (wR L d e) Qo := by
  unfold MO_write203 at h
  refine st_go 7 (pc' := 10) (lo' := [(1, .int (((gF d 42 61) >>> ((3 : Int32) &&& 31)) &&& 7)), (0, .ref 42)]) (st' := []) rfl ?_
  refine st_locI (fun x1_1 hy_x1_1 => ?_)
  have h := h x1_1 hy_x1_1
  refine st_go 5 (pc' := 18) (lo' := [(2, .int ((gF d 42 61) >>> ((6 : Int32) &&& 31))), (1, .int x1_1), (0, .ref 42)]) (st' := []) rfl ?_
  refine st_locI (fun x2_2 hy_x2_2 => ?_)
  have h := h x2_2 hy_x2_2
  refine st_go 1 (pc' := 19) (lo' := [(2, .int x2_2), (1, .int x1_1), (0, .ref 42)]) (st' := [.int x2_2]) rfl ?_
  by_cases hc_3 : x2_2 = 0
  · have h := Eq.mp (if_pos hc_3) h
    refine st_if (t := 22) (b := false) rfl (decide_eq_false (fun z => z hc_3)) rfl ?_
    refine st_go 2 (pc' := 24) (lo' := [(2, .int x2_2), (1, .int x1_1), (0, .ref 42)]) (st' := [.int x1_1, .ref 42]) rfl ?_
    by_cases hc_4 : x1_1 = 0
    · have h := Eq.mp (if_pos hc_4) h
      refine st_if (t := 27) (b := false) rfl (decide_eq_false (fun z => z hc_4)) rfl ?_
      refine st_go 2 (pc' := 91) (lo' := [(2, .int x2_2), (1, .int x1_1), (0, .ref 42)]) (st' := [.long 1380729632, .ref 42]) rfl ?_
      refine vmWp.sub (lo' := [(0, .ref 42)]) ⟨rfl, trivial⟩ ?_
      exact tMO_write203_91 hQ 1380729632 d h
    · have h := Eq.mp (if_neg hc_4) h
      refine st_if (t := 33) (b := true) rfl (decide_eq_true hc_4) rfl ?_
      refine st_go 2 (pc' := 35) (lo' := [(2, .int x2_2), (1, .int x1_1), (0, .ref 42)]) (st' := [.int 1, .int x1_1, .ref 42]) rfl ?_
      by_cases hc_7 : x1_1 = 1
      · have h := Eq.mp (if_pos hc_7) h
        refine st_icmp (t := 38) (b := false) rfl (decide_eq_false (fun z => z hc_7)) rfl ?_
        refine st_go 2 (pc' := 91) (lo' := [(2, .int x2_2), (1, .int x1_1), (0, .ref 42)]) (st' := [.long 1381122848, .ref 42]) rfl ?_
        refine vmWp.sub (lo' := [(0, .ref 42)]) ⟨rfl, trivial⟩ ?_
        exact tMO_write203_91 hQ 1381122848 d h
      · have h := Eq.mp (if_neg hc_7) h
        refine st_icmp (t := 44) (b := true) rfl (decide_eq_true hc_7) rfl ?_
        refine st_go 2 (pc' := 46) (lo' := [(2, .int x2_2), (1, .int x1_1), (0, .ref 42)]) (st' := [.int 2, .int x1_1, .ref 42]) rfl ?_
        by_cases hc_8 : x1_1 = 2
        · have h := Eq.mp (if_pos hc_8) h
          refine st_icmp (t := 49) (b := false) rfl (decide_eq_false (fun z => z hc_8)) rfl ?_
          refine st_go 2 (pc' := 91) (lo' := [(2, .int x2_2), (1, .int x1_1), (0, .ref 42)]) (st' := [.long 5393440, .ref 42]) rfl ?_
          refine vmWp.sub (lo' := [(0, .ref 42)]) ⟨rfl, trivial⟩ ?_
          exact tMO_write203_91 hQ 5393440 d h
        · have h := Eq.mp (if_neg hc_8) h
          refine st_icmp (t := 55) (b := true) rfl (decide_eq_true hc_8) rfl ?_
          refine st_go 2 (pc' := 57) (lo' := [(2, .int x2_2), (1, .int x1_1), (0, .ref 42)]) (st' := [.int 3, .int x1_1, .ref 42]) rfl ?_
          by_cases hc_9 : x1_1 = 3
          · have h := Eq.mp (if_pos hc_9) h
            refine st_icmp (t := 60) (b := false) rfl (decide_eq_false (fun z => z hc_9)) rfl ?_
            refine st_go 2 (pc' := 91) (lo' := [(2, .int x2_2), (1, .int x1_1), (0, .ref 42)]) (st' := [.long 5394976, .ref 42]) rfl ?_
            refine vmWp.sub (lo' := [(0, .ref 42)]) ⟨rfl, trivial⟩ ?_
            exact tMO_write203_91 hQ 5394976 d h
          · have h := Eq.mp (if_neg hc_9) h
            refine st_icmp (t := 66) (b := true) rfl (decide_eq_true hc_9) rfl ?_
            refine st_go 2 (pc' := 68) (lo' := [(2, .int x2_2), (1, .int x1_1), (0, .ref 42)]) (st' := [.int 4, .int x1_1, .ref 42]) rfl ?_
            by_cases hc_10 : x1_1 = 4
            · have h := Eq.mp (if_pos hc_10) h
              refine st_icmp (t := 71) (b := false) rfl (decide_eq_false (fun z => z hc_10)) rfl ?_
              refine st_go 2 (pc' := 91) (lo' := [(2, .int x2_2), (1, .int x1_1), (0, .ref 42)]) (st' := [.long 1397506336, .ref 42]) rfl ?_
              refine vmWp.sub (lo' := [(0, .ref 42)]) ⟨rfl, trivial⟩ ?_
              exact tMO_write203_91 hQ 1397506336 d h
            · have h := Eq.mp (if_neg hc_10) h
              refine st_icmp (t := 77) (b := true) rfl (decide_eq_true hc_10) rfl ?_
              refine st_go 2 (pc' := 79) (lo' := [(2, .int x2_2), (1, .int x1_1), (0, .ref 42)]) (st' := [.int 5, .int x1_1, .ref 42]) rfl ?_
              by_cases hc_11 : x1_1 = 5
              · have h := Eq.mp (if_pos hc_11) h
                refine st_icmp (t := 82) (b := false) rfl (decide_eq_false (fun z => z hc_11)) rfl ?_
                refine st_go 2 (pc' := 91) (lo' := [(2, .int x2_2), (1, .int x1_1), (0, .ref 42)]) (st' := [.long 1397899552, .ref 42]) rfl ?_
                refine vmWp.sub (lo' := [(0, .ref 42)]) ⟨rfl, trivial⟩ ?_
                exact tMO_write203_91 hQ 1397899552 d h
              · have h := Eq.mp (if_neg hc_11) h
                refine st_icmp (t := 88) (b := true) rfl (decide_eq_true hc_11) rfl ?_
                refine st_go 1 (pc' := 91) (lo' := [(2, .int x2_2), (1, .int x1_1), (0, .ref 42)]) (st' := [.long 1397902368, .ref 42]) rfl ?_
                refine vmWp.sub (lo' := [(0, .ref 42)]) ⟨rfl, trivial⟩ ?_
                exact tMO_write203_91 hQ 1397902368 d h
  · have h := Eq.mp (if_neg hc_3) h
    refine st_if (t := 97) (b := true) rfl (decide_eq_true hc_3) rfl ?_
    refine st_go 3 (pc' := 100) (lo' := [(2, .int x2_2), (1, .int x1_1), (0, .ref 42)]) (st' := [.int 1, .int x2_2, .ref 42]) rfl ?_
    by_cases hc_12 : x2_2 = 1
    · have h := Eq.mp (if_pos hc_12) h
      refine st_icmp (t := 103) (b := false) rfl (decide_eq_false (fun z => z hc_12)) rfl ?_
      refine st_go 2 (pc' := 123) (lo' := [(2, .int x2_2), (1, .int x1_1), (0, .ref 42)]) (st' := [.long 1112101920, .ref 42]) rfl ?_
      refine vmWp.sub (lo' := [(0, .ref 42), (1, .int x1_1)]) ⟨rfl, rfl, trivial⟩ ?_
      exact tMO_write203_123 hQ x1_1 1112101920 d h
    · have h := Eq.mp (if_neg hc_12) h
      refine st_icmp (t := 109) (b := true) rfl (decide_eq_true hc_12) rfl ?_
      refine st_go 2 (pc' := 111) (lo' := [(2, .int x2_2), (1, .int x1_1), (0, .ref 42)]) (st' := [.int 2, .int x2_2, .ref 42]) rfl ?_
      by_cases hc_16 : x2_2 = 2
      · have h := Eq.mp (if_pos hc_16) h
        refine st_icmp (t := 114) (b := false) rfl (decide_eq_false (fun z => z hc_16)) rfl ?_
        refine st_go 2 (pc' := 123) (lo' := [(2, .int x2_2), (1, .int x1_1), (0, .ref 42)]) (st' := [.long 1380274976, .ref 42]) rfl ?_
        refine vmWp.sub (lo' := [(0, .ref 42), (1, .int x1_1)]) ⟨rfl, rfl, trivial⟩ ?_
        exact tMO_write203_123 hQ x1_1 1380274976 d h
      · have h := Eq.mp (if_neg hc_16) h
        refine st_icmp (t := 120) (b := true) rfl (decide_eq_true hc_16) rfl ?_
        refine st_go 1 (pc' := 123) (lo' := [(2, .int x2_2), (1, .int x1_1), (0, .ref 42)]) (st' := [.long 1397052448, .ref 42]) rfl ?_
        refine vmWp.sub (lo' := [(0, .ref 42), (1, .int x1_1)]) ⟨rfl, rfl, trivial⟩ ?_
        exact tMO_write203_123 hQ x1_1 1397052448 d h
set_option maxRecDepth 100000 in
def MO_pairName_47 (s0 : Int64) (d : vmD) (Q : vmD → Prop) : Prop :=
  MO_say s0 d fun d_4 =>
  Q d_4
set_option maxRecDepth 100000 in
set_option maxHeartbeats 4000000 in
theorem tMO_pairName_47 {L : Nat} {e : vmD} {Qo : Option Value → vmW → Prop} {Q : vmD → Prop} (hQ : ∀ d, Q d → Qo none (wR L d e)) (s0 : Int64) (d : vmD) (h : MO_pairName_47 s0 d Q) : vmWp 334 47 [] [.long s0, .ref 42] (wR L d e) Qo := by
  unfold MO_pairName_47 at h
  refine st_callv (k' := 329) (as := [.ref 42, .long s0]) (rest := []) (lo' := [(0, .ref 42), (1, .long s0)]) (wf := fun d => wR L d e) rfl rfl rfl ?_
  refine tMO_say (fun d_4 h => ⟨d_4, rfl, rfl, ?_⟩) s0 d h
  exact st_retV rfl rfl (hQ _ h)
set_option maxRecDepth 100000 in
def MO_pairName (x1 : Int32) (x2 : Int32) (d : vmD) (Q : vmD → Prop) : Prop :=
  if x1 = 2 then
  (MO_indexName d fun d_2 =>
  Q d_2)
  else
  (if x1 = 0 then
  (MO_pairName_47 16963 d Q)
  else
  (if x1 = 1 then
  (MO_pairName_47 17477 d Q)
  else
  (if x2 = 0 then
  (MO_pairName_47 21328 d Q)
  else
  (MO_pairName_47 16710 d Q))))
set_option maxRecDepth 100000 in
set_option maxHeartbeats 4000000 in
theorem tMO_pairName {L : Nat} {e : vmD} {Qo : Option Value → vmW → Prop} {Q : vmD → Prop} (hQ : ∀ d, Q d → Qo none (wR L d e)) (x1 : Int32) (x2 : Int32) (d : vmD) (h : MO_pairName x1 x2 d Q) : vmWp 334 0 [(0, .ref 42), (1, .int x1), (2, .int x2)] [] (wR L d e) Qo := by
  unfold MO_pairName at h
  refine st_go 2 (pc' := 2) (lo' := [(0, .ref 42), (1, .int x1), (2, .int x2)]) (st' := [.int 2, .int x1]) rfl ?_
  by_cases hc_1 : x1 = 2
  · have h := Eq.mp (if_pos hc_1) h
    refine st_icmp (t := 5) (b := false) rfl (decide_eq_false (fun z => z hc_1)) rfl ?_
    refine st_go 1 (pc' := 6) (lo' := [(0, .ref 42), (1, .int x1), (2, .int x2)]) (st' := [.ref 42]) rfl ?_
    refine st_callv (k' := 332) (as := [.ref 42]) (rest := []) (lo' := [(0, .ref 42)]) (wf := fun d => wR L d e) rfl rfl rfl ?_
    refine tMO_indexName (fun d_2 h => ⟨d_2, rfl, rfl, ?_⟩) d h
    refine st_go 1 (pc' := 50) (lo' := [(0, .ref 42), (1, .int x1), (2, .int x2)]) (st' := []) rfl ?_
    exact st_retV rfl rfl (hQ _ h)
  · have h := Eq.mp (if_neg hc_1) h
    refine st_icmp (t := 12) (b := true) rfl (decide_eq_true hc_1) rfl ?_
    refine st_go 2 (pc' := 14) (lo' := [(0, .ref 42), (1, .int x1), (2, .int x2)]) (st' := [.int x1, .ref 42]) rfl ?_
    by_cases hc_3 : x1 = 0
    · have h := Eq.mp (if_pos hc_3) h
      refine st_if (t := 17) (b := false) rfl (decide_eq_false (fun z => z hc_3)) rfl ?_
      refine st_go 2 (pc' := 47) (lo' := [(0, .ref 42), (1, .int x1), (2, .int x2)]) (st' := [.long 16963, .ref 42]) rfl ?_
      refine vmWp.sub (lo' := []) trivial ?_
      exact tMO_pairName_47 hQ 16963 d h
    · have h := Eq.mp (if_neg hc_3) h
      refine st_if (t := 23) (b := true) rfl (decide_eq_true hc_3) rfl ?_
      refine st_go 2 (pc' := 25) (lo' := [(0, .ref 42), (1, .int x1), (2, .int x2)]) (st' := [.int 1, .int x1, .ref 42]) rfl ?_
      by_cases hc_5 : x1 = 1
      · have h := Eq.mp (if_pos hc_5) h
        refine st_icmp (t := 28) (b := false) rfl (decide_eq_false (fun z => z hc_5)) rfl ?_
        refine st_go 2 (pc' := 47) (lo' := [(0, .ref 42), (1, .int x1), (2, .int x2)]) (st' := [.long 17477, .ref 42]) rfl ?_
        refine vmWp.sub (lo' := []) trivial ?_
        exact tMO_pairName_47 hQ 17477 d h
      · have h := Eq.mp (if_neg hc_5) h
        refine st_icmp (t := 34) (b := true) rfl (decide_eq_true hc_5) rfl ?_
        refine st_go 1 (pc' := 35) (lo' := [(0, .ref 42), (1, .int x1), (2, .int x2)]) (st' := [.int x2, .ref 42]) rfl ?_
        by_cases hc_6 : x2 = 0
        · have h := Eq.mp (if_pos hc_6) h
          refine st_if (t := 44) (b := true) rfl (decide_eq_true hc_6) rfl ?_
          refine st_go 1 (pc' := 47) (lo' := [(0, .ref 42), (1, .int x1), (2, .int x2)]) (st' := [.long 21328, .ref 42]) rfl ?_
          refine vmWp.sub (lo' := []) trivial ?_
          exact tMO_pairName_47 hQ 21328 d h
        · have h := Eq.mp (if_neg hc_6) h
          refine st_if (t := 38) (b := false) rfl (decide_eq_false hc_6) rfl ?_
          refine st_go 2 (pc' := 47) (lo' := [(0, .ref 42), (1, .int x1), (2, .int x2)]) (st' := [.long 16710, .ref 42]) rfl ?_
          refine vmWp.sub (lo' := []) trivial ?_
          exact tMO_pairName_47 hQ 16710 d h
set_option maxRecDepth 100000 in
def MO_wide (x1 : Int32) (d : vmD) (Q : Int32 → vmD → Prop) : Prop :=
  MO_peek x1 d fun r_2 d_1 =>
  MO_peek (x1 + 1) d_1 fun r_4 d_3 =>
  Q (r_2 ||| (r_4 <<< ((8 : Int32) &&& 31))) d_3
set_option maxRecDepth 100000 in
set_option maxHeartbeats 4000000 in
theorem tMO_wide {L : Nat} {e : vmD} {Qo : Option Value → vmW → Prop} {Q : Int32 → vmD → Prop} (hQ : ∀ r d, Q r d → Qo (some (.int r)) (wR L d e)) (x1 : Int32) (d : vmD) (h : MO_wide x1 d Q) : vmWp 321 0 [(0, .ref 42), (1, .int x1)] [] (wR L d e) Qo := by
  unfold MO_wide at h
  refine st_go 2 (pc' := 2) (lo' := [(0, .ref 42), (1, .int x1)]) (st' := [.int x1, .ref 42]) rfl ?_
  refine st_calli (k' := 320) (as := [.ref 42, .int x1]) (rest := []) (lo' := [(0, .ref 42), (1, .int x1)]) (wf := fun d => wR L d e) rfl rfl rfl ?_
  refine tMO_peek (fun r_2 d_1 h => ⟨r_2, d_1, rfl, rfl, ?_⟩) x1 d h
  refine st_go 4 (pc' := 9) (lo' := [(0, .ref 42), (1, .int x1)]) (st' := [.int (x1 + 1), .ref 42, .int r_2]) rfl ?_
  refine st_calli (k' := 320) (as := [.ref 42, .int (x1 + 1)]) (rest := [.int r_2]) (lo' := [(0, .ref 42), (1, .int (x1 + 1))]) (wf := fun d => wR L d e) rfl rfl rfl ?_
  refine tMO_peek (fun r_4 d_3 h => ⟨r_4, d_3, rfl, rfl, ?_⟩) (x1 + 1) d_1 h
  refine st_go 3 (pc' := 16) (lo' := [(0, .ref 42), (1, .int x1)]) (st' := [.int (r_2 ||| (r_4 <<< ((8 : Int32) &&& 31)))]) rfl ?_
  exact st_retI rfl rfl (hQ _ _ h)
set_option maxRecDepth 100000 in
def MO_m (d : vmD) (Q : vmD → Prop) : Prop :=
  MO_wide (gF d 42 64) d fun r_2 d_1 =>
  MO_number r_2 d_1 fun d_3 =>
  Q d_3
set_option maxRecDepth 100000 in
set_option maxHeartbeats 4000000 in
theorem tMO_m {L : Nat} {e : vmD} {Qo : Option Value → vmW → Prop} {Q : vmD → Prop} (hQ : ∀ d, Q d → Qo none (wR L d e)) (d : vmD) (h : MO_m d Q) : vmWp 337 0 [(0, .ref 42)] [] (wR L d e) Qo := by
  unfold MO_m at h
  refine st_go 4 (pc' := 6) (lo' := [(0, .ref 42)]) (st' := [.int (gF d 42 64), .ref 42, .ref 42]) rfl ?_
  refine st_calli (k' := 321) (as := [.ref 42, .int (gF d 42 64)]) (rest := [.ref 42]) (lo' := [(0, .ref 42), (1, .int (gF d 42 64))]) (wf := fun d => wR L d e) rfl rfl rfl ?_
  refine tMO_wide (fun r_2 d_1 h => ⟨r_2, d_1, rfl, rfl, ?_⟩) (gF d 42 64) d h
  refine st_callv (k' := 330) (as := [.ref 42, .int r_2]) (rest := []) (lo' := [(0, .ref 42), (1, .int r_2)]) (wf := fun d => wR L d e) rfl rfl rfl ?_
  refine tMO_number (fun d_3 h => ⟨d_3, rfl, rfl, ?_⟩) r_2 d_1 h
  exact st_retV rfl rfl (hQ _ h)
set_option maxRecDepth 100000 in
def MO_placeM (d : vmD) (Q : vmD → Prop) : Prop :=
  MO_one 40 d fun d_1 =>
  MO_m d_1 fun d_2 =>
  MO_one 41 d_2 fun d_3 =>
  Q d_3
set_option maxRecDepth 100000 in
set_option maxHeartbeats 4000000 in
theorem tMO_placeM {L : Nat} {e : vmD} {Qo : Option Value → vmW → Prop} {Q : vmD → Prop} (hQ : ∀ d, Q d → Qo none (wR L d e)) (d : vmD) (h : MO_placeM d Q) : vmWp 338 0 [(0, .ref 42)] [] (wR L d e) Qo := by
  unfold MO_placeM at h
  refine st_go 2 (pc' := 3) (lo' := [(0, .ref 42)]) (st' := [.int 40, .ref 42]) rfl ?_
  refine st_callv (k' := 328) (as := [.ref 42, .int 40]) (rest := []) (lo' := [(0, .ref 42), (1, .int 40)]) (wf := fun d => wR L d e) rfl rfl rfl ?_
  refine tMO_one (fun d_1 h => ⟨d_1, rfl, rfl, ?_⟩) 40 d h
  refine st_go 1 (pc' := 7) (lo' := [(0, .ref 42)]) (st' := [.ref 42]) rfl ?_
  refine st_callv (k' := 337) (as := [.ref 42]) (rest := []) (lo' := [(0, .ref 42)]) (wf := fun d => wR L d e) rfl rfl rfl ?_
  refine tMO_m (fun d_2 h => ⟨d_2, rfl, rfl, ?_⟩) d_1 h
  refine st_go 2 (pc' := 13) (lo' := [(0, .ref 42)]) (st' := [.int 41, .ref 42]) rfl ?_
  refine st_callv (k' := 328) (as := [.ref 42, .int 41]) (rest := []) (lo' := [(0, .ref 42), (1, .int 41)]) (wf := fun d => wR L d e) rfl rfl rfl ?_
  refine tMO_one (fun d_3 h => ⟨d_3, rfl, rfl, ?_⟩) 41 d_2 h
  exact st_retV rfl rfl (hQ _ h)
set_option maxRecDepth 100000 in
def MO_write237_111 (x1 : Int32) (s0 : Int32) (d : vmD) (Q : vmD → Prop) : Prop :=
  MO_one s0 d fun d_9 =>
  if (5 : Int32) < x1 then
  (MO_one 82 d_9 fun d_11 =>
  Q d_11)
  else
  (Q d_9)
set_option maxRecDepth 100000 in
set_option maxHeartbeats 4000000 in
theorem tMO_write237_111 {L : Nat} {e : vmD} {Qo : Option Value → vmW → Prop} {Q : vmD → Prop} (hQ : ∀ d, Q d → Qo none (wR L d e)) (x1 : Int32) (s0 : Int32) (d : vmD) (h : MO_write237_111 x1 s0 d Q) : vmWp 345 111 [(0, .ref 42), (1, .int x1)] [.int s0, .ref 42] (wR L d e) Qo := by
  unfold MO_write237_111 at h
  refine st_callv (k' := 328) (as := [.ref 42, .int s0]) (rest := []) (lo' := [(0, .ref 42), (1, .int s0)]) (wf := fun d => wR L d e) rfl rfl rfl ?_
  refine tMO_one (fun d_9 h => ⟨d_9, rfl, rfl, ?_⟩) s0 d h
  refine st_go 2 (pc' := 116) (lo' := [(0, .ref 42), (1, .int x1)]) (st' := [.int 5, .int x1]) rfl ?_
  by_cases hc_10 : (5 : Int32) < x1
  · have h := Eq.mp (if_pos hc_10) h
    refine st_icmp (t := 119) (b := false) rfl (decide_eq_false (Int32.not_le.mpr hc_10)) rfl ?_
    refine st_go 2 (pc' := 122) (lo' := [(0, .ref 42), (1, .int x1)]) (st' := [.int 82, .ref 42]) rfl ?_
    refine st_callv (k' := 328) (as := [.ref 42, .int 82]) (rest := []) (lo' := [(0, .ref 42), (1, .int 82)]) (wf := fun d => wR L d e) rfl rfl rfl ?_
    refine tMO_one (fun d_11 h => ⟨d_11, rfl, rfl, ?_⟩) 82 d_9 h
    exact st_retV rfl rfl (hQ _ h)
  · have h := Eq.mp (if_neg hc_10) h
    refine st_icmp (t := 125) (b := true) rfl (decide_eq_true (Int32.not_lt.mp hc_10)) rfl ?_
    exact st_retV rfl rfl (hQ _ h)
set_option maxRecDepth 100000 in
def MO_write237_94 (x1 : Int32) (s0 : Int64) (d : vmD) (Q : vmD → Prop) : Prop :=
  MO_say s0 d fun d_7 =>
  if (x1 &&& 1) = 0 then
  (MO_write237_111 x1 73 d_7 Q)
  else
  (MO_write237_111 x1 68 d_7 Q)
set_option maxRecDepth 100000 in
set_option maxHeartbeats 4000000 in
theorem tMO_write237_94 {L : Nat} {e : vmD} {Qo : Option Value → vmW → Prop} {Q : vmD → Prop} (hQ : ∀ d, Q d → Qo none (wR L d e)) (x1 : Int32) (s0 : Int64) (d : vmD) (h : MO_write237_94 x1 s0 d Q) : vmWp 345 94 [(0, .ref 42), (1, .int x1)] [.long s0, .ref 42] (wR L d e) Qo := by
  unfold MO_write237_94 at h
  refine st_callv (k' := 329) (as := [.ref 42, .long s0]) (rest := []) (lo' := [(0, .ref 42), (1, .long s0)]) (wf := fun d => wR L d e) rfl rfl rfl ?_
  refine tMO_say (fun d_7 h => ⟨d_7, rfl, rfl, ?_⟩) s0 d h
  refine st_go 4 (pc' := 101) (lo' := [(0, .ref 42), (1, .int x1)]) (st' := [.int (x1 &&& 1), .ref 42]) rfl ?_
  by_cases hc_8 : (x1 &&& 1) = 0
  · have h := Eq.mp (if_pos hc_8) h
    refine st_if (t := 104) (b := false) rfl (decide_eq_false (fun z => z hc_8)) rfl ?_
    refine st_go 2 (pc' := 111) (lo' := [(0, .ref 42), (1, .int x1)]) (st' := [.int 73, .ref 42]) rfl ?_
    refine vmWp.sub (lo' := [(0, .ref 42), (1, .int x1)]) ⟨rfl, rfl, trivial⟩ ?_
    exact tMO_write237_111 hQ x1 73 d_7 h
  · have h := Eq.mp (if_neg hc_8) h
    refine st_if (t := 109) (b := true) rfl (decide_eq_true hc_8) rfl ?_
    refine st_go 1 (pc' := 111) (lo' := [(0, .ref 42), (1, .int x1)]) (st' := [.int 68, .ref 42]) rfl ?_
    refine vmWp.sub (lo' := [(0, .ref 42), (1, .int x1)]) ⟨rfl, rfl, trivial⟩ ?_
    exact tMO_write237_111 hQ x1 68 d_7 h
set_option maxRecDepth 100000 in
def MO_write237_220 (x3 : Int32) (s0 : Int64) (d : vmD) (Q : vmD → Prop) : Prop :=
  MO_say s0 d fun d_24 =>
  MO_pairName x3 0 d_24 fun d_25 =>
  Q d_25
set_option maxRecDepth 100000 in
set_option maxHeartbeats 4000000 in
theorem tMO_write237_220 {L : Nat} {e : vmD} {Qo : Option Value → vmW → Prop} {Q : vmD → Prop} (hQ : ∀ d, Q d → Qo none (wR L d e)) (x3 : Int32) (s0 : Int64) (d : vmD) (h : MO_write237_220 x3 s0 d Q) : vmWp 345 220 [(0, .ref 42), (3, .int x3)] [.long s0, .ref 42] (wR L d e) Qo := by
  unfold MO_write237_220 at h
  refine st_callv (k' := 329) (as := [.ref 42, .long s0]) (rest := []) (lo' := [(0, .ref 42), (1, .long s0)]) (wf := fun d => wR L d e) rfl rfl rfl ?_
  refine tMO_say (fun d_24 h => ⟨d_24, rfl, rfl, ?_⟩) s0 d h
  refine st_go 3 (pc' := 226) (lo' := [(0, .ref 42), (3, .int x3)]) (st' := [.int 0, .int x3, .ref 42]) rfl ?_
  refine st_callv (k' := 334) (as := [.ref 42, .int x3, .int 0]) (rest := []) (lo' := [(0, .ref 42), (1, .int x3), (2, .int 0)]) (wf := fun d => wR L d e) rfl rfl rfl ?_
  refine tMO_pairName (fun d_25 h => ⟨d_25, rfl, rfl, ?_⟩) x3 0 d_24 h
  refine st_go 1 (pc' := 398) (lo' := [(0, .ref 42), (3, .int x3)]) (st' := []) rfl ?_
  exact st_retV rfl rfl (hQ _ h)
set_option maxRecDepth 100000 in
def MO_write237_306 (s0 : Int64) (d : vmD) (Q : vmD → Prop) : Prop :=
  MO_say s0 d fun d_39 =>
  Q d_39
set_option maxRecDepth 100000 in
set_option maxHeartbeats 4000000 in
theorem tMO_write237_306 {L : Nat} {e : vmD} {Qo : Option Value → vmW → Prop} {Q : vmD → Prop} (hQ : ∀ d, Q d → Qo none (wR L d e)) (s0 : Int64) (d : vmD) (h : MO_write237_306 s0 d Q) : vmWp 345 306 [] [.long s0, .ref 42] (wR L d e) Qo := by
  unfold MO_write237_306 at h
  refine st_callv (k' := 329) (as := [.ref 42, .long s0]) (rest := []) (lo' := [(0, .ref 42), (1, .long s0)]) (wf := fun d => wR L d e) rfl rfl rfl ?_
  refine tMO_say (fun d_39 h => ⟨d_39, rfl, rfl, ?_⟩) s0 d h
  refine st_go 1 (pc' := 398) (lo' := []) (st' := []) rfl ?_
  exact st_retV rfl rfl (hQ _ h)
set_option maxRecDepth 100000 in
def MO_write237_331 (s0 : Int32) (d : vmD) (Q : vmD → Prop) : Prop :=
  MO_number s0 d fun d_43 =>
  Q d_43
set_option maxRecDepth 100000 in
set_option maxHeartbeats 4000000 in
theorem tMO_write237_331 {L : Nat} {e : vmD} {Qo : Option Value → vmW → Prop} {Q : vmD → Prop} (hQ : ∀ d, Q d → Qo none (wR L d e)) (s0 : Int32) (d : vmD) (h : MO_write237_331 s0 d Q) : vmWp 345 331 [] [.int s0, .ref 42] (wR L d e) Qo := by
  unfold MO_write237_331 at h
  refine st_callv (k' := 330) (as := [.ref 42, .int s0]) (rest := []) (lo' := [(0, .ref 42), (1, .int s0)]) (wf := fun d => wR L d e) rfl rfl rfl ?_
  refine tMO_number (fun d_43 h => ⟨d_43, rfl, rfl, ?_⟩) s0 d h
  refine st_go 1 (pc' := 398) (lo' := []) (st' := []) rfl ?_
  exact st_retV rfl rfl (hQ _ h)
set_option maxRecDepth 100000 in
def MO_write237_395 (s0 : Int64) (d : vmD) (Q : vmD → Prop) : Prop :=
  MO_say s0 d fun d_45 =>
  Q d_45
set_option maxRecDepth 100000 in
set_option maxHeartbeats 4000000 in
theorem tMO_write237_395 {L : Nat} {e : vmD} {Qo : Option Value → vmW → Prop} {Q : vmD → Prop} (hQ : ∀ d, Q d → Qo none (wR L d e)) (s0 : Int64) (d : vmD) (h : MO_write237_395 s0 d Q) : vmWp 345 395 [] [.long s0, .ref 42] (wR L d e) Qo := by
  unfold MO_write237_395 at h
  refine st_callv (k' := 329) (as := [.ref 42, .long s0]) (rest := []) (lo' := [(0, .ref 42), (1, .long s0)]) (wf := fun d => wR L d e) rfl rfl rfl ?_
  refine tMO_say (fun d_45 h => ⟨d_45, rfl, rfl, ?_⟩) s0 d h
  exact st_retV rfl rfl (hQ _ h)
set_option maxRecDepth 100000 in
def MO_write237_34 (x1 : Int32) (x2 : Int32) (x3 : Int32) (s0 : Int32) (d : vmD) (Q : vmD → Prop) : Prop :=
  if ((gF d 42 61) >>> ((6 : Int32) &&& 31)) = 2 then
  (if x2 = 0 then
  (MO_write237_94 x1 19524 d Q)
  else
  (if x2 = 1 then
  (MO_write237_94 x1 17232 d Q)
  else
  (if x2 = 2 then
  (MO_write237_94 x1 18766 d Q)
  else
  (if (5 : Int32) < x1 then
  (MO_write237_94 x1 20308 d Q)
  else
  (MO_write237_94 x1 5199188 d Q)))))
  else
  (if x2 = 0 then
  (MO_say 4804128 d fun d_16 =>
  MO_octetName x1 d_16 fun d_17 =>
  MO_say 740836137 d_17 fun d_18 =>
  Q d_18)
  else
  if x2 = 1 then
  (MO_say 5716567799107889452 d fun d_20 =>
  MO_octetName x1 d_20 fun d_21 =>
  Q d_21)
  else
  if x2 = 2 then
  (if s0 = 0 then
  (MO_write237_220 x3 23435279138835500 d Q)
  else
  (MO_write237_220 x3 18370928581299244 d Q))
  else
  if x2 = 3 then
  (MO_say 4998176 d fun d_27 =>
  if s0 = 0 then
  (MO_placeM d_27 fun d_29 =>
  MO_one 44 d_29 fun d_30 =>
  MO_pairName x3 0 d_30 fun d_31 =>
  Q d_31)
  else
  (MO_pairName x3 0 d_27 fun d_32 =>
  MO_one 44 d_32 fun d_33 =>
  MO_placeM d_33 fun d_34 =>
  Q d_34))
  else
  if x2 = 4 then
  (MO_say 5129543 d fun d_36 =>
  Q d_36)
  else
  if x2 = 5 then
  (if x1 = 0 then
  (MO_write237_306 1380275278 d Q)
  else
  (MO_write237_306 1380275273 d Q))
  else
  if x2 = 6 then
  (MO_say 4803872 d fun d_41 =>
  if x1 = 0 then
  (MO_write237_331 0 d_41 Q)
  else
  (MO_write237_331 (x1 - 1) d_41 Q))
  else
  (if x1 = 0 then
  (MO_write237_395 83855483153473 d Q)
  else
  (if x1 = 1 then
  (MO_write237_395 83855483743297 d Q)
  else
  (if x1 = 2 then
  (MO_write237_395 83855482629193 d Q)
  else
  (if x1 = 3 then
  (MO_write237_395 83855482629202 d Q)
  else
  (if x1 = 4 then
  (MO_write237_395 5395012 d Q)
  else
  (MO_write237_395 5393476 d Q)))))))
set_option maxRecDepth 100000 in
set_option maxHeartbeats 4000000 in
theorem tMO_write237_34 {L : Nat} {e : vmD} {Qo : Option Value → vmW → Prop} {Q : vmD → Prop} (hQ : ∀ d, Q d → Qo none (wR L d e)) (x1 : Int32) (x2 : Int32) (x3 : Int32) (s0 : Int32) (d : vmD) (h : MO_write237_34 x1 x2 x3 s0 d Q) : vmWp 345 34 [(0, .ref 42), (1, .int x1), (2, .int x2), (3, .int x3)] [.int s0] (wR L d e) Qo := by
  unfold MO_write237_34 at h
  refine st_go 6 (pc' := 44) (lo' := [(4, .int s0), (0, .ref 42), (1, .int x1), (2, .int x2), (3, .int x3)]) (st' := [.int 2, .int ((gF d 42 61) >>> ((6 : Int32) &&& 31))]) rfl ?_
  by_cases hc_5 : ((gF d 42 61) >>> ((6 : Int32) &&& 31)) = 2
  · have h := Eq.mp (if_pos hc_5) h
    refine st_icmp (t := 47) (b := false) rfl (decide_eq_false (fun z => z hc_5)) rfl ?_
    refine st_go 2 (pc' := 49) (lo' := [(4, .int s0), (0, .ref 42), (1, .int x1), (2, .int x2), (3, .int x3)]) (st' := [.int x2, .ref 42]) rfl ?_
    by_cases hc_6 : x2 = 0
    · have h := Eq.mp (if_pos hc_6) h
      refine st_if (t := 52) (b := false) rfl (decide_eq_false (fun z => z hc_6)) rfl ?_
      refine st_go 2 (pc' := 94) (lo' := [(4, .int s0), (0, .ref 42), (1, .int x1), (2, .int x2), (3, .int x3)]) (st' := [.long 19524, .ref 42]) rfl ?_
      refine vmWp.sub (lo' := [(0, .ref 42), (1, .int x1)]) ⟨rfl, rfl, trivial⟩ ?_
      exact tMO_write237_94 hQ x1 19524 d h
    · have h := Eq.mp (if_neg hc_6) h
      refine st_if (t := 58) (b := true) rfl (decide_eq_true hc_6) rfl ?_
      refine st_go 2 (pc' := 60) (lo' := [(4, .int s0), (0, .ref 42), (1, .int x1), (2, .int x2), (3, .int x3)]) (st' := [.int 1, .int x2, .ref 42]) rfl ?_
      by_cases hc_12 : x2 = 1
      · have h := Eq.mp (if_pos hc_12) h
        refine st_icmp (t := 63) (b := false) rfl (decide_eq_false (fun z => z hc_12)) rfl ?_
        refine st_go 2 (pc' := 94) (lo' := [(4, .int s0), (0, .ref 42), (1, .int x1), (2, .int x2), (3, .int x3)]) (st' := [.long 17232, .ref 42]) rfl ?_
        refine vmWp.sub (lo' := [(0, .ref 42), (1, .int x1)]) ⟨rfl, rfl, trivial⟩ ?_
        exact tMO_write237_94 hQ x1 17232 d h
      · have h := Eq.mp (if_neg hc_12) h
        refine st_icmp (t := 69) (b := true) rfl (decide_eq_true hc_12) rfl ?_
        refine st_go 2 (pc' := 71) (lo' := [(4, .int s0), (0, .ref 42), (1, .int x1), (2, .int x2), (3, .int x3)]) (st' := [.int 2, .int x2, .ref 42]) rfl ?_
        by_cases hc_13 : x2 = 2
        · have h := Eq.mp (if_pos hc_13) h
          refine st_icmp (t := 74) (b := false) rfl (decide_eq_false (fun z => z hc_13)) rfl ?_
          refine st_go 2 (pc' := 94) (lo' := [(4, .int s0), (0, .ref 42), (1, .int x1), (2, .int x2), (3, .int x3)]) (st' := [.long 18766, .ref 42]) rfl ?_
          refine vmWp.sub (lo' := [(0, .ref 42), (1, .int x1)]) ⟨rfl, rfl, trivial⟩ ?_
          exact tMO_write237_94 hQ x1 18766 d h
        · have h := Eq.mp (if_neg hc_13) h
          refine st_icmp (t := 80) (b := true) rfl (decide_eq_true hc_13) rfl ?_
          refine st_go 2 (pc' := 82) (lo' := [(4, .int s0), (0, .ref 42), (1, .int x1), (2, .int x2), (3, .int x3)]) (st' := [.int 5, .int x1, .ref 42]) rfl ?_
          by_cases hc_14 : (5 : Int32) < x1
          · have h := Eq.mp (if_pos hc_14) h
            refine st_icmp (t := 85) (b := false) rfl (decide_eq_false (Int32.not_le.mpr hc_14)) rfl ?_
            refine st_go 2 (pc' := 94) (lo' := [(4, .int s0), (0, .ref 42), (1, .int x1), (2, .int x2), (3, .int x3)]) (st' := [.long 20308, .ref 42]) rfl ?_
            refine vmWp.sub (lo' := [(0, .ref 42), (1, .int x1)]) ⟨rfl, rfl, trivial⟩ ?_
            exact tMO_write237_94 hQ x1 20308 d h
          · have h := Eq.mp (if_neg hc_14) h
            refine st_icmp (t := 91) (b := true) rfl (decide_eq_true (Int32.not_lt.mp hc_14)) rfl ?_
            refine st_go 1 (pc' := 94) (lo' := [(4, .int s0), (0, .ref 42), (1, .int x1), (2, .int x2), (3, .int x3)]) (st' := [.long 5199188, .ref 42]) rfl ?_
            refine vmWp.sub (lo' := [(0, .ref 42), (1, .int x1)]) ⟨rfl, rfl, trivial⟩ ?_
            exact tMO_write237_94 hQ x1 5199188 d h
  · have h := Eq.mp (if_neg hc_5) h
    refine st_icmp (t := 126) (b := true) rfl (decide_eq_true hc_5) rfl ?_
    refine st_go 1 (pc' := 127) (lo' := [(4, .int s0), (0, .ref 42), (1, .int x1), (2, .int x2), (3, .int x3)]) (st' := [.int x2]) rfl ?_
    by_cases hc_15 : x2 = 0
    · have h := Eq.mp (if_pos hc_15) h
      refine st_tab (t := 168) rfl (by rw [hc_15]; rfl) ?_
      refine st_go 2 (pc' := 172) (lo' := [(4, .int s0), (0, .ref 42), (1, .int x1), (2, .int x2), (3, .int x3)]) (st' := [.long 4804128, .ref 42]) rfl ?_
      refine st_callv (k' := 329) (as := [.ref 42, .long 4804128]) (rest := []) (lo' := [(0, .ref 42), (1, .long 4804128)]) (wf := fun d => wR L d e) rfl rfl rfl ?_
      refine tMO_say (fun d_16 h => ⟨d_16, rfl, rfl, ?_⟩) 4804128 d h
      refine st_go 2 (pc' := 177) (lo' := [(4, .int s0), (0, .ref 42), (1, .int x1), (2, .int x2), (3, .int x3)]) (st' := [.int x1, .ref 42]) rfl ?_
      refine st_callv (k' := 333) (as := [.ref 42, .int x1]) (rest := []) (lo' := [(0, .ref 42), (1, .int x1)]) (wf := fun d => wR L d e) rfl rfl rfl ?_
      refine tMO_octetName (fun d_17 h => ⟨d_17, rfl, rfl, ?_⟩) x1 d_16 h
      refine st_go 2 (pc' := 184) (lo' := [(4, .int s0), (0, .ref 42), (1, .int x1), (2, .int x2), (3, .int x3)]) (st' := [.long 740836137, .ref 42]) rfl ?_
      refine st_callv (k' := 329) (as := [.ref 42, .long 740836137]) (rest := []) (lo' := [(0, .ref 42), (1, .long 740836137)]) (wf := fun d => wR L d e) rfl rfl rfl ?_
      refine tMO_say (fun d_18 h => ⟨d_18, rfl, rfl, ?_⟩) 740836137 d_17 h
      refine st_go 1 (pc' := 398) (lo' := [(4, .int s0), (0, .ref 42), (1, .int x1), (2, .int x2), (3, .int x3)]) (st' := []) rfl ?_
      exact st_retV rfl rfl (hQ _ h)
    · have h := Eq.mp (if_neg hc_15) h
      by_cases hc_19 : x2 = 1
      · have h := Eq.mp (if_pos hc_19) h
        refine st_tab (t := 190) rfl (by rw [hc_19]; rfl) ?_
        refine st_go 2 (pc' := 194) (lo' := [(4, .int s0), (0, .ref 42), (1, .int x1), (2, .int x2), (3, .int x3)]) (st' := [.long 5716567799107889452, .ref 42]) rfl ?_
        refine st_callv (k' := 329) (as := [.ref 42, .long 5716567799107889452]) (rest := []) (lo' := [(0, .ref 42), (1, .long 5716567799107889452)]) (wf := fun d => wR L d e) rfl rfl rfl ?_
        refine tMO_say (fun d_20 h => ⟨d_20, rfl, rfl, ?_⟩) 5716567799107889452 d h
        refine st_go 2 (pc' := 199) (lo' := [(4, .int s0), (0, .ref 42), (1, .int x1), (2, .int x2), (3, .int x3)]) (st' := [.int x1, .ref 42]) rfl ?_
        refine st_callv (k' := 333) (as := [.ref 42, .int x1]) (rest := []) (lo' := [(0, .ref 42), (1, .int x1)]) (wf := fun d => wR L d e) rfl rfl rfl ?_
        refine tMO_octetName (fun d_21 h => ⟨d_21, rfl, rfl, ?_⟩) x1 d_20 h
        refine st_go 1 (pc' := 398) (lo' := [(4, .int s0), (0, .ref 42), (1, .int x1), (2, .int x2), (3, .int x3)]) (st' := []) rfl ?_
        exact st_retV rfl rfl (hQ _ h)
      · have h := Eq.mp (if_neg hc_19) h
        by_cases hc_22 : x2 = 2
        · have h := Eq.mp (if_pos hc_22) h
          refine st_tab (t := 205) rfl (by rw [hc_22]; rfl) ?_
          refine st_go 2 (pc' := 208) (lo' := [(4, .int s0), (0, .ref 42), (1, .int x1), (2, .int x2), (3, .int x3)]) (st' := [.int s0, .ref 42]) rfl ?_
          by_cases hc_23 : s0 = 0
          · have h := Eq.mp (if_pos hc_23) h
            refine st_if (t := 217) (b := true) rfl (decide_eq_true hc_23) rfl ?_
            refine st_go 1 (pc' := 220) (lo' := [(4, .int s0), (0, .ref 42), (1, .int x1), (2, .int x2), (3, .int x3)]) (st' := [.long 23435279138835500, .ref 42]) rfl ?_
            refine vmWp.sub (lo' := [(0, .ref 42), (3, .int x3)]) ⟨rfl, rfl, trivial⟩ ?_
            exact tMO_write237_220 hQ x3 23435279138835500 d h
          · have h := Eq.mp (if_neg hc_23) h
            refine st_if (t := 211) (b := false) rfl (decide_eq_false hc_23) rfl ?_
            refine st_go 2 (pc' := 220) (lo' := [(4, .int s0), (0, .ref 42), (1, .int x1), (2, .int x2), (3, .int x3)]) (st' := [.long 18370928581299244, .ref 42]) rfl ?_
            refine vmWp.sub (lo' := [(0, .ref 42), (3, .int x3)]) ⟨rfl, rfl, trivial⟩ ?_
            exact tMO_write237_220 hQ x3 18370928581299244 d h
        · have h := Eq.mp (if_neg hc_22) h
          by_cases hc_26 : x2 = 3
          · have h := Eq.mp (if_pos hc_26) h
            refine st_tab (t := 232) rfl (by rw [hc_26]; rfl) ?_
            refine st_go 2 (pc' := 236) (lo' := [(4, .int s0), (0, .ref 42), (1, .int x1), (2, .int x2), (3, .int x3)]) (st' := [.long 4998176, .ref 42]) rfl ?_
            refine st_callv (k' := 329) (as := [.ref 42, .long 4998176]) (rest := []) (lo' := [(0, .ref 42), (1, .long 4998176)]) (wf := fun d => wR L d e) rfl rfl rfl ?_
            refine tMO_say (fun d_27 h => ⟨d_27, rfl, rfl, ?_⟩) 4998176 d h
            refine st_go 1 (pc' := 241) (lo' := [(4, .int s0), (0, .ref 42), (1, .int x1), (2, .int x2), (3, .int x3)]) (st' := [.int s0]) rfl ?_
            by_cases hc_28 : s0 = 0
            · have h := Eq.mp (if_pos hc_28) h
              refine st_if (t := 263) (b := true) rfl (decide_eq_true hc_28) rfl ?_
              refine st_go 1 (pc' := 264) (lo' := [(4, .int s0), (0, .ref 42), (1, .int x1), (2, .int x2), (3, .int x3)]) (st' := [.ref 42]) rfl ?_
              refine st_callv (k' := 338) (as := [.ref 42]) (rest := []) (lo' := [(0, .ref 42)]) (wf := fun d => wR L d e) rfl rfl rfl ?_
              refine tMO_placeM (fun d_29 h => ⟨d_29, rfl, rfl, ?_⟩) d_27 h
              refine st_go 2 (pc' := 270) (lo' := [(4, .int s0), (0, .ref 42), (1, .int x1), (2, .int x2), (3, .int x3)]) (st' := [.int 44, .ref 42]) rfl ?_
              refine st_callv (k' := 328) (as := [.ref 42, .int 44]) (rest := []) (lo' := [(0, .ref 42), (1, .int 44)]) (wf := fun d => wR L d e) rfl rfl rfl ?_
              refine tMO_one (fun d_30 h => ⟨d_30, rfl, rfl, ?_⟩) 44 d_29 h
              refine st_go 3 (pc' := 276) (lo' := [(4, .int s0), (0, .ref 42), (1, .int x1), (2, .int x2), (3, .int x3)]) (st' := [.int 0, .int x3, .ref 42]) rfl ?_
              refine st_callv (k' := 334) (as := [.ref 42, .int x3, .int 0]) (rest := []) (lo' := [(0, .ref 42), (1, .int x3), (2, .int 0)]) (wf := fun d => wR L d e) rfl rfl rfl ?_
              refine tMO_pairName (fun d_31 h => ⟨d_31, rfl, rfl, ?_⟩) x3 0 d_30 h
              refine st_go 1 (pc' := 398) (lo' := [(4, .int s0), (0, .ref 42), (1, .int x1), (2, .int x2), (3, .int x3)]) (st' := []) rfl ?_
              exact st_retV rfl rfl (hQ _ h)
            · have h := Eq.mp (if_neg hc_28) h
              refine st_if (t := 244) (b := false) rfl (decide_eq_false hc_28) rfl ?_
              refine st_go 3 (pc' := 247) (lo' := [(4, .int s0), (0, .ref 42), (1, .int x1), (2, .int x2), (3, .int x3)]) (st' := [.int 0, .int x3, .ref 42]) rfl ?_
              refine st_callv (k' := 334) (as := [.ref 42, .int x3, .int 0]) (rest := []) (lo' := [(0, .ref 42), (1, .int x3), (2, .int 0)]) (wf := fun d => wR L d e) rfl rfl rfl ?_
              refine tMO_pairName (fun d_32 h => ⟨d_32, rfl, rfl, ?_⟩) x3 0 d_27 h
              refine st_go 2 (pc' := 253) (lo' := [(4, .int s0), (0, .ref 42), (1, .int x1), (2, .int x2), (3, .int x3)]) (st' := [.int 44, .ref 42]) rfl ?_
              refine st_callv (k' := 328) (as := [.ref 42, .int 44]) (rest := []) (lo' := [(0, .ref 42), (1, .int 44)]) (wf := fun d => wR L d e) rfl rfl rfl ?_
              refine tMO_one (fun d_33 h => ⟨d_33, rfl, rfl, ?_⟩) 44 d_32 h
              refine st_go 1 (pc' := 257) (lo' := [(4, .int s0), (0, .ref 42), (1, .int x1), (2, .int x2), (3, .int x3)]) (st' := [.ref 42]) rfl ?_
              refine st_callv (k' := 338) (as := [.ref 42]) (rest := []) (lo' := [(0, .ref 42)]) (wf := fun d => wR L d e) rfl rfl rfl ?_
              refine tMO_placeM (fun d_34 h => ⟨d_34, rfl, rfl, ?_⟩) d_33 h
              refine st_go 1 (pc' := 398) (lo' := [(4, .int s0), (0, .ref 42), (1, .int x1), (2, .int x2), (3, .int x3)]) (st' := []) rfl ?_
              exact st_retV rfl rfl (hQ _ h)
          · have h := Eq.mp (if_neg hc_26) h
            by_cases hc_35 : x2 = 4
            · have h := Eq.mp (if_pos hc_35) h
              refine st_tab (t := 282) rfl (by rw [hc_35]; rfl) ?_
              refine st_go 2 (pc' := 286) (lo' := [(4, .int s0), (0, .ref 42), (1, .int x1), (2, .int x2), (3, .int x3)]) (st' := [.long 5129543, .ref 42]) rfl ?_
              refine st_callv (k' := 329) (as := [.ref 42, .long 5129543]) (rest := []) (lo' := [(0, .ref 42), (1, .long 5129543)]) (wf := fun d => wR L d e) rfl rfl rfl ?_
              refine tMO_say (fun d_36 h => ⟨d_36, rfl, rfl, ?_⟩) 5129543 d h
              refine st_go 1 (pc' := 398) (lo' := [(4, .int s0), (0, .ref 42), (1, .int x1), (2, .int x2), (3, .int x3)]) (st' := []) rfl ?_
              exact st_retV rfl rfl (hQ _ h)
            · have h := Eq.mp (if_neg hc_35) h
              by_cases hc_37 : x2 = 5
              · have h := Eq.mp (if_pos hc_37) h
                refine st_tab (t := 292) rfl (by rw [hc_37]; rfl) ?_
                refine st_go 2 (pc' := 294) (lo' := [(4, .int s0), (0, .ref 42), (1, .int x1), (2, .int x2), (3, .int x3)]) (st' := [.int x1, .ref 42]) rfl ?_
                by_cases hc_38 : x1 = 0
                · have h := Eq.mp (if_pos hc_38) h
                  refine st_if (t := 297) (b := false) rfl (decide_eq_false (fun z => z hc_38)) rfl ?_
                  refine st_go 2 (pc' := 306) (lo' := [(4, .int s0), (0, .ref 42), (1, .int x1), (2, .int x2), (3, .int x3)]) (st' := [.long 1380275278, .ref 42]) rfl ?_
                  refine vmWp.sub (lo' := []) trivial ?_
                  exact tMO_write237_306 hQ 1380275278 d h
                · have h := Eq.mp (if_neg hc_38) h
                  refine st_if (t := 303) (b := true) rfl (decide_eq_true hc_38) rfl ?_
                  refine st_go 1 (pc' := 306) (lo' := [(4, .int s0), (0, .ref 42), (1, .int x1), (2, .int x2), (3, .int x3)]) (st' := [.long 1380275273, .ref 42]) rfl ?_
                  refine vmWp.sub (lo' := []) trivial ?_
                  exact tMO_write237_306 hQ 1380275273 d h
              · have h := Eq.mp (if_neg hc_37) h
                by_cases hc_40 : x2 = 6
                · have h := Eq.mp (if_pos hc_40) h
                  refine st_tab (t := 312) rfl (by rw [hc_40]; rfl) ?_
                  refine st_go 2 (pc' := 316) (lo' := [(4, .int s0), (0, .ref 42), (1, .int x1), (2, .int x2), (3, .int x3)]) (st' := [.long 4803872, .ref 42]) rfl ?_
                  refine st_callv (k' := 329) (as := [.ref 42, .long 4803872]) (rest := []) (lo' := [(0, .ref 42), (1, .long 4803872)]) (wf := fun d => wR L d e) rfl rfl rfl ?_
                  refine tMO_say (fun d_41 h => ⟨d_41, rfl, rfl, ?_⟩) 4803872 d h
                  refine st_go 2 (pc' := 321) (lo' := [(4, .int s0), (0, .ref 42), (1, .int x1), (2, .int x2), (3, .int x3)]) (st' := [.int x1, .ref 42]) rfl ?_
                  by_cases hc_42 : x1 = 0
                  · have h := Eq.mp (if_pos hc_42) h
                    refine st_if (t := 324) (b := false) rfl (decide_eq_false (fun z => z hc_42)) rfl ?_
                    refine st_go 2 (pc' := 331) (lo' := [(4, .int s0), (0, .ref 42), (1, .int x1), (2, .int x2), (3, .int x3)]) (st' := [.int 0, .ref 42]) rfl ?_
                    refine vmWp.sub (lo' := []) trivial ?_
                    exact tMO_write237_331 hQ 0 d_41 h
                  · have h := Eq.mp (if_neg hc_42) h
                    refine st_if (t := 328) (b := true) rfl (decide_eq_true hc_42) rfl ?_
                    refine st_go 3 (pc' := 331) (lo' := [(4, .int s0), (0, .ref 42), (1, .int x1), (2, .int x2), (3, .int x3)]) (st' := [.int (x1 - 1), .ref 42]) rfl ?_
                    refine vmWp.sub (lo' := []) trivial ?_
                    exact tMO_write237_331 hQ (x1 - 1) d_41 h
                · have h := Eq.mp (if_neg hc_40) h
                  refine st_tab (t := 337) rfl (tab_def rfl (by decide) rfl (by
                    intro j hj hx
                    have hj : j < 7 := hj
                    rcases (j = 0 ∨ j = 1 ∨ j = 2 ∨ j = 3 ∨ j = 4 ∨ j = 5 ∨ j = 6 : Prop) |> fun _ => (show j = 0 ∨ j = 1 ∨ j = 2 ∨ j = 3 ∨ j = 4 ∨ j = 5 ∨ j = 6 by omega) with rfl | rfl | rfl | rfl | rfl | rfl | rfl <;> first | rfl | exact absurd hx hc_15 | exact absurd hx hc_19 | exact absurd hx hc_22 | exact absurd hx hc_26 | exact absurd hx hc_35 | exact absurd hx hc_37 | exact absurd hx hc_40)) ?_
                  refine st_go 2 (pc' := 339) (lo' := [(4, .int s0), (0, .ref 42), (1, .int x1), (2, .int x2), (3, .int x3)]) (st' := [.int x1, .ref 42]) rfl ?_
                  by_cases hc_44 : x1 = 0
                  · have h := Eq.mp (if_pos hc_44) h
                    refine st_if (t := 342) (b := false) rfl (decide_eq_false (fun z => z hc_44)) rfl ?_
                    refine st_go 2 (pc' := 395) (lo' := [(4, .int s0), (0, .ref 42), (1, .int x1), (2, .int x2), (3, .int x3)]) (st' := [.long 83855483153473, .ref 42]) rfl ?_
                    refine vmWp.sub (lo' := []) trivial ?_
                    exact tMO_write237_395 hQ 83855483153473 d h
                  · have h := Eq.mp (if_neg hc_44) h
                    refine st_if (t := 348) (b := true) rfl (decide_eq_true hc_44) rfl ?_
                    refine st_go 2 (pc' := 350) (lo' := [(4, .int s0), (0, .ref 42), (1, .int x1), (2, .int x2), (3, .int x3)]) (st' := [.int 1, .int x1, .ref 42]) rfl ?_
                    by_cases hc_46 : x1 = 1
                    · have h := Eq.mp (if_pos hc_46) h
                      refine st_icmp (t := 353) (b := false) rfl (decide_eq_false (fun z => z hc_46)) rfl ?_
                      refine st_go 2 (pc' := 395) (lo' := [(4, .int s0), (0, .ref 42), (1, .int x1), (2, .int x2), (3, .int x3)]) (st' := [.long 83855483743297, .ref 42]) rfl ?_
                      refine vmWp.sub (lo' := []) trivial ?_
                      exact tMO_write237_395 hQ 83855483743297 d h
                    · have h := Eq.mp (if_neg hc_46) h
                      refine st_icmp (t := 359) (b := true) rfl (decide_eq_true hc_46) rfl ?_
                      refine st_go 2 (pc' := 361) (lo' := [(4, .int s0), (0, .ref 42), (1, .int x1), (2, .int x2), (3, .int x3)]) (st' := [.int 2, .int x1, .ref 42]) rfl ?_
                      by_cases hc_47 : x1 = 2
                      · have h := Eq.mp (if_pos hc_47) h
                        refine st_icmp (t := 364) (b := false) rfl (decide_eq_false (fun z => z hc_47)) rfl ?_
                        refine st_go 2 (pc' := 395) (lo' := [(4, .int s0), (0, .ref 42), (1, .int x1), (2, .int x2), (3, .int x3)]) (st' := [.long 83855482629193, .ref 42]) rfl ?_
                        refine vmWp.sub (lo' := []) trivial ?_
                        exact tMO_write237_395 hQ 83855482629193 d h
                      · have h := Eq.mp (if_neg hc_47) h
                        refine st_icmp (t := 370) (b := true) rfl (decide_eq_true hc_47) rfl ?_
                        refine st_go 2 (pc' := 372) (lo' := [(4, .int s0), (0, .ref 42), (1, .int x1), (2, .int x2), (3, .int x3)]) (st' := [.int 3, .int x1, .ref 42]) rfl ?_
                        by_cases hc_48 : x1 = 3
                        · have h := Eq.mp (if_pos hc_48) h
                          refine st_icmp (t := 375) (b := false) rfl (decide_eq_false (fun z => z hc_48)) rfl ?_
                          refine st_go 2 (pc' := 395) (lo' := [(4, .int s0), (0, .ref 42), (1, .int x1), (2, .int x2), (3, .int x3)]) (st' := [.long 83855482629202, .ref 42]) rfl ?_
                          refine vmWp.sub (lo' := []) trivial ?_
                          exact tMO_write237_395 hQ 83855482629202 d h
                        · have h := Eq.mp (if_neg hc_48) h
                          refine st_icmp (t := 381) (b := true) rfl (decide_eq_true hc_48) rfl ?_
                          refine st_go 2 (pc' := 383) (lo' := [(4, .int s0), (0, .ref 42), (1, .int x1), (2, .int x2), (3, .int x3)]) (st' := [.int 4, .int x1, .ref 42]) rfl ?_
                          by_cases hc_49 : x1 = 4
                          · have h := Eq.mp (if_pos hc_49) h
                            refine st_icmp (t := 386) (b := false) rfl (decide_eq_false (fun z => z hc_49)) rfl ?_
                            refine st_go 2 (pc' := 395) (lo' := [(4, .int s0), (0, .ref 42), (1, .int x1), (2, .int x2), (3, .int x3)]) (st' := [.long 5395012, .ref 42]) rfl ?_
                            refine vmWp.sub (lo' := []) trivial ?_
                            exact tMO_write237_395 hQ 5395012 d h
                          · have h := Eq.mp (if_neg hc_49) h
                            refine st_icmp (t := 392) (b := true) rfl (decide_eq_true hc_49) rfl ?_
                            refine st_go 1 (pc' := 395) (lo' := [(4, .int s0), (0, .ref 42), (1, .int x1), (2, .int x2), (3, .int x3)]) (st' := [.long 5393476, .ref 42]) rfl ?_
                            refine vmWp.sub (lo' := []) trivial ?_
                            exact tMO_write237_395 hQ 5393476 d h
set_option maxRecDepth 100000 in
def MO_write237 (d : vmD) (Q : vmD → Prop) : Prop :=
  bnd (((gF d 42 61) >>> ((3 : Int32) &&& 31)) &&& 7) fun x1_1 =>
  bnd ((gF d 42 61) &&& 7) fun x2_2 =>
  bnd (x1_1 >>> ((1 : Int32) &&& 31)) fun x3_3 =>
  if (x1_1 &&& 1) = 1 then
  (MO_write237_34 x1_1 x2_2 x3_3 1 d Q)
  else
  (MO_write237_34 x1_1 x2_2 x3_3 0 d Q)
set_option maxRecDepth 100000 in
set_option maxHeartbeats 4000000 in
theorem tMO_write237 {L : Nat} {e : vmD} {Qo : Option Value → vmW → Prop} {Q : vmD → Prop} (hQ : ∀ d, Q d → Qo none (wR L d e)) (d : vmD) (h : MO_write237 d Q) : vmWp 345 0 [(0, .ref 42)] [] (wR L d e) Qo := by
  unfold MO_write237 at h
  refine st_go 7 (pc' := 10) (lo' := [(1, .int (((gF d 42 61) >>> ((3 : Int32) &&& 31)) &&& 7)), (0, .ref 42)]) (st' := []) rfl ?_
  refine st_locI (fun x1_1 hy_x1_1 => ?_)
  have h := h x1_1 hy_x1_1
  refine st_go 5 (pc' := 18) (lo' := [(2, .int ((gF d 42 61) &&& 7)), (1, .int x1_1), (0, .ref 42)]) (st' := []) rfl ?_
  refine st_locI (fun x2_2 hy_x2_2 => ?_)
  have h := h x2_2 hy_x2_2
  refine st_go 4 (pc' := 22) (lo' := [(3, .int (x1_1 >>> ((1 : Int32) &&& 31))), (2, .int x2_2), (1, .int x1_1), (0, .ref 42)]) (st' := []) rfl ?_
  refine st_locI (fun x3_3 hy_x3_3 => ?_)
  have h := h x3_3 hy_x3_3
  refine st_go 4 (pc' := 26) (lo' := [(3, .int x3_3), (2, .int x2_2), (1, .int x1_1), (0, .ref 42)]) (st' := [.int 1, .int (x1_1 &&& 1)]) rfl ?_
  by_cases hc_4 : (x1_1 &&& 1) = 1
  · have h := Eq.mp (if_pos hc_4) h
    refine st_icmp (t := 29) (b := false) rfl (decide_eq_false (fun z => z hc_4)) rfl ?_
    refine st_go 2 (pc' := 34) (lo' := [(3, .int x3_3), (2, .int x2_2), (1, .int x1_1), (0, .ref 42)]) (st' := [.int 1]) rfl ?_
    refine vmWp.sub (lo' := [(0, .ref 42), (1, .int x1_1), (2, .int x2_2), (3, .int x3_3)]) ⟨rfl, rfl, rfl, rfl, trivial⟩ ?_
    exact tMO_write237_34 hQ x1_1 x2_2 x3_3 1 d h
  · have h := Eq.mp (if_neg hc_4) h
    refine st_icmp (t := 33) (b := true) rfl (decide_eq_true hc_4) rfl ?_
    refine st_go 1 (pc' := 34) (lo' := [(3, .int x3_3), (2, .int x2_2), (1, .int x1_1), (0, .ref 42)]) (st' := [.int 0]) rfl ?_
    refine vmWp.sub (lo' := [(0, .ref 42), (1, .int x1_1), (2, .int x2_2), (3, .int x3_3)]) ⟨rfl, rfl, rfl, rfl, trivial⟩ ?_
    exact tMO_write237_34 hQ x1_1 x2_2 x3_3 0 d h
set_option maxRecDepth 100000 in
def MO_conditionName_81 (s0 : Int64) (d : vmD) (Q : vmD → Prop) : Prop :=
  MO_say s0 d fun d_2 =>
  Q d_2
set_option maxRecDepth 100000 in
set_option maxHeartbeats 4000000 in
theorem tMO_conditionName_81 {L : Nat} {e : vmD} {Qo : Option Value → vmW → Prop} {Q : vmD → Prop} (hQ : ∀ d, Q d → Qo none (wR L d e)) (s0 : Int64) (d : vmD) (h : MO_conditionName_81 s0 d Q) : vmWp 335 81 [] [.long s0, .ref 42] (wR L d e) Qo := by
  unfold MO_conditionName_81 at h
  refine st_callv (k' := 329) (as := [.ref 42, .long s0]) (rest := []) (lo' := [(0, .ref 42), (1, .long s0)]) (wf := fun d => wR L d e) rfl rfl rfl ?_
  refine tMO_say (fun d_2 h => ⟨d_2, rfl, rfl, ?_⟩) s0 d h
  exact st_retV rfl rfl (hQ _ h)
set_option maxRecDepth 100000 in
def MO_conditionName (x1 : Int32) (d : vmD) (Q : vmD → Prop) : Prop :=
  if x1 = 0 then
  (MO_conditionName_81 20058 d Q)
  else
  (if x1 = 1 then
  (MO_conditionName_81 90 d Q)
  else
  (if x1 = 2 then
  (MO_conditionName_81 20035 d Q)
  else
  (if x1 = 3 then
  (MO_conditionName_81 67 d Q)
  else
  (if x1 = 4 then
  (MO_conditionName_81 20559 d Q)
  else
  (if x1 = 5 then
  (MO_conditionName_81 20549 d Q)
  else
  (if x1 = 6 then
  (MO_conditionName_81 80 d Q)
  else
  (MO_conditionName_81 77 d Q)))))))
set_option maxRecDepth 100000 in
set_option maxHeartbeats 4000000 in
theorem tMO_conditionName {L : Nat} {e : vmD} {Qo : Option Value → vmW → Prop} {Q : vmD → Prop} (hQ : ∀ d, Q d → Qo none (wR L d e)) (x1 : Int32) (d : vmD) (h : MO_conditionName x1 d Q) : vmWp 335 0 [(0, .ref 42), (1, .int x1)] [] (wR L d e) Qo := by
  unfold MO_conditionName at h
  refine st_go 2 (pc' := 2) (lo' := [(0, .ref 42), (1, .int x1)]) (st' := [.int x1, .ref 42]) rfl ?_
  by_cases hc_1 : x1 = 0
  · have h := Eq.mp (if_pos hc_1) h
    refine st_if (t := 5) (b := false) rfl (decide_eq_false (fun z => z hc_1)) rfl ?_
    refine st_go 2 (pc' := 81) (lo' := [(0, .ref 42), (1, .int x1)]) (st' := [.long 20058, .ref 42]) rfl ?_
    refine vmWp.sub (lo' := []) trivial ?_
    exact tMO_conditionName_81 hQ 20058 d h
  · have h := Eq.mp (if_neg hc_1) h
    refine st_if (t := 11) (b := true) rfl (decide_eq_true hc_1) rfl ?_
    refine st_go 2 (pc' := 13) (lo' := [(0, .ref 42), (1, .int x1)]) (st' := [.int 1, .int x1, .ref 42]) rfl ?_
    by_cases hc_3 : x1 = 1
    · have h := Eq.mp (if_pos hc_3) h
      refine st_icmp (t := 16) (b := false) rfl (decide_eq_false (fun z => z hc_3)) rfl ?_
      refine st_go 2 (pc' := 81) (lo' := [(0, .ref 42), (1, .int x1)]) (st' := [.long 90, .ref 42]) rfl ?_
      refine vmWp.sub (lo' := []) trivial ?_
      exact tMO_conditionName_81 hQ 90 d h
    · have h := Eq.mp (if_neg hc_3) h
      refine st_icmp (t := 22) (b := true) rfl (decide_eq_true hc_3) rfl ?_
      refine st_go 2 (pc' := 24) (lo' := [(0, .ref 42), (1, .int x1)]) (st' := [.int 2, .int x1, .ref 42]) rfl ?_
      by_cases hc_4 : x1 = 2
      · have h := Eq.mp (if_pos hc_4) h
        refine st_icmp (t := 27) (b := false) rfl (decide_eq_false (fun z => z hc_4)) rfl ?_
        refine st_go 2 (pc' := 81) (lo' := [(0, .ref 42), (1, .int x1)]) (st' := [.long 20035, .ref 42]) rfl ?_
        refine vmWp.sub (lo' := []) trivial ?_
        exact tMO_conditionName_81 hQ 20035 d h
      · have h := Eq.mp (if_neg hc_4) h
        refine st_icmp (t := 33) (b := true) rfl (decide_eq_true hc_4) rfl ?_
        refine st_go 2 (pc' := 35) (lo' := [(0, .ref 42), (1, .int x1)]) (st' := [.int 3, .int x1, .ref 42]) rfl ?_
        by_cases hc_5 : x1 = 3
        · have h := Eq.mp (if_pos hc_5) h
          refine st_icmp (t := 38) (b := false) rfl (decide_eq_false (fun z => z hc_5)) rfl ?_
          refine st_go 2 (pc' := 81) (lo' := [(0, .ref 42), (1, .int x1)]) (st' := [.long 67, .ref 42]) rfl ?_
          refine vmWp.sub (lo' := []) trivial ?_
          exact tMO_conditionName_81 hQ 67 d h
        · have h := Eq.mp (if_neg hc_5) h
          refine st_icmp (t := 44) (b := true) rfl (decide_eq_true hc_5) rfl ?_
          refine st_go 2 (pc' := 46) (lo' := [(0, .ref 42), (1, .int x1)]) (st' := [.int 4, .int x1, .ref 42]) rfl ?_
          by_cases hc_6 : x1 = 4
          · have h := Eq.mp (if_pos hc_6) h
            refine st_icmp (t := 49) (b := false) rfl (decide_eq_false (fun z => z hc_6)) rfl ?_
            refine st_go 2 (pc' := 81) (lo' := [(0, .ref 42), (1, .int x1)]) (st' := [.long 20559, .ref 42]) rfl ?_
            refine vmWp.sub (lo' := []) trivial ?_
            exact tMO_conditionName_81 hQ 20559 d h
          · have h := Eq.mp (if_neg hc_6) h
            refine st_icmp (t := 55) (b := true) rfl (decide_eq_true hc_6) rfl ?_
            refine st_go 2 (pc' := 57) (lo' := [(0, .ref 42), (1, .int x1)]) (st' := [.int 5, .int x1, .ref 42]) rfl ?_
            by_cases hc_7 : x1 = 5
            · have h := Eq.mp (if_pos hc_7) h
              refine st_icmp (t := 60) (b := false) rfl (decide_eq_false (fun z => z hc_7)) rfl ?_
              refine st_go 2 (pc' := 81) (lo' := [(0, .ref 42), (1, .int x1)]) (st' := [.long 20549, .ref 42]) rfl ?_
              refine vmWp.sub (lo' := []) trivial ?_
              exact tMO_conditionName_81 hQ 20549 d h
            · have h := Eq.mp (if_neg hc_7) h
              refine st_icmp (t := 66) (b := true) rfl (decide_eq_true hc_7) rfl ?_
              refine st_go 2 (pc' := 69) (lo' := [(0, .ref 42), (1, .int x1)]) (st' := [.int 6, .int x1, .ref 42]) rfl ?_
              by_cases hc_8 : x1 = 6
              · have h := Eq.mp (if_pos hc_8) h
                refine st_icmp (t := 72) (b := false) rfl (decide_eq_false (fun z => z hc_8)) rfl ?_
                refine st_go 2 (pc' := 81) (lo' := [(0, .ref 42), (1, .int x1)]) (st' := [.long 80, .ref 42]) rfl ?_
                refine vmWp.sub (lo' := []) trivial ?_
                exact tMO_conditionName_81 hQ 80 d h
              · have h := Eq.mp (if_neg hc_8) h
                refine st_icmp (t := 78) (b := true) rfl (decide_eq_true hc_8) rfl ?_
                refine st_go 1 (pc' := 81) (lo' := [(0, .ref 42), (1, .int x1)]) (st' := [.long 77, .ref 42]) rfl ?_
                refine vmWp.sub (lo' := []) trivial ?_
                exact tMO_conditionName_81 hQ 77 d h
set_option maxRecDepth 100000 in
def MO_near (x1 : Int32) (d : vmD) (Q : vmD → Prop) : Prop :=
  MO_peek (gF d 42 64) d fun r_2 d_1 =>
  MO_signed r_2 d_1 fun r_4 d_3 =>
  MO_number (((x1 + (gF d 42 63)) + r_4) &&& 65535) d_3 fun d_5 =>
  Q d_5
set_option maxRecDepth 100000 in
set_option maxHeartbeats 4000000 in
theorem tMO_near {L : Nat} {e : vmD} {Qo : Option Value → vmW → Prop} {Q : vmD → Prop} (hQ : ∀ d, Q d → Qo none (wR L d e)) (x1 : Int32) (d : vmD) (h : MO_near x1 d Q) : vmWp 340 0 [(0, .ref 42), (1, .int x1)] [] (wR L d e) Qo := by
  unfold MO_near at h
  refine st_go 9 (pc' := 13) (lo' := [(0, .ref 42), (1, .int x1)]) (st' := [.int (gF d 42 64), .ref 42, .ref 42, .int (x1 + (gF d 42 63)), .ref 42]) rfl ?_
  refine st_calli (k' := 320) (as := [.ref 42, .int (gF d 42 64)]) (rest := [.ref 42, .int (x1 + (gF d 42 63)), .ref 42]) (lo' := [(0, .ref 42), (1, .int (gF d 42 64))]) (wf := fun d => wR L d e) rfl rfl rfl ?_
  refine tMO_peek (fun r_2 d_1 h => ⟨r_2, d_1, rfl, rfl, ?_⟩) (gF d 42 64) d h
  refine st_calli (k' := 322) (as := [.ref 42, .int r_2]) (rest := [.int (x1 + (gF d 42 63)), .ref 42]) (lo' := [(0, .ref 42), (1, .int r_2)]) (wf := fun d => wR L d e) rfl rfl rfl ?_
  refine tMO_signed (fun r_4 d_3 h => ⟨r_4, d_3, rfl, rfl, ?_⟩) r_2 d_1 h
  refine st_go 3 (pc' := 23) (lo' := [(0, .ref 42), (1, .int x1)]) (st' := [.int (((x1 + (gF d 42 63)) + r_4) &&& 65535), .ref 42]) rfl ?_
  refine st_callv (k' := 330) (as := [.ref 42, .int (((x1 + (gF d 42 63)) + r_4) &&& 65535)]) (rest := []) (lo' := [(0, .ref 42), (1, .int (((x1 + (gF d 42 63)) + r_4) &&& 65535))]) (wf := fun d => wR L d e) rfl rfl rfl ?_
  refine tMO_number (fun d_5 h => ⟨d_5, rfl, rfl, ?_⟩) (((x1 + (gF d 42 63)) + r_4) &&& 65535) d_3 h
  exact st_retV rfl rfl (hQ _ h)
set_option maxRecDepth 100000 in
def MO_writeLoad_97 (x2 : Int32) (x3 : Int32) (d : vmD) (Q : vmD → Prop) : Prop :=
  if x2 = 0 then
  (MO_one 44 d fun d_8 =>
  if x3 = 0 then
  (MO_one 65 d_8 fun d_10 =>
  Q d_10)
  else
  (MO_indexName d_8 fun d_11 =>
  Q d_11))
  else
  (Q d)
set_option maxRecDepth 100000 in
set_option maxHeartbeats 4000000 in
theorem tMO_writeLoad_97 {L : Nat} {e : vmD} {Qo : Option Value → vmW → Prop} {Q : vmD → Prop} (hQ : ∀ d, Q d → Qo none (wR L d e)) (x2 : Int32) (x3 : Int32) (d : vmD) (h : MO_writeLoad_97 x2 x3 d Q) : vmWp 342 97 [(0, .ref 42), (2, .int x2), (3, .int x3)] [] (wR L d e) Qo := by
  unfold MO_writeLoad_97 at h
  refine st_go 1 (pc' := 98) (lo' := [(0, .ref 42), (2, .int x2), (3, .int x3)]) (st' := [.int x2]) rfl ?_
  by_cases hc_7 : x2 = 0
  · have h := Eq.mp (if_pos hc_7) h
    refine st_if (t := 101) (b := false) rfl (decide_eq_false (fun z => z hc_7)) rfl ?_
    refine st_go 2 (pc' := 104) (lo' := [(0, .ref 42), (2, .int x2), (3, .int x3)]) (st' := [.int 44, .ref 42]) rfl ?_
    refine st_callv (k' := 328) (as := [.ref 42, .int 44]) (rest := []) (lo' := [(0, .ref 42), (1, .int 44)]) (wf := fun d => wR L d e) rfl rfl rfl ?_
    refine tMO_one (fun d_8 h => ⟨d_8, rfl, rfl, ?_⟩) 44 d h
    refine st_go 1 (pc' := 108) (lo' := [(0, .ref 42), (2, .int x2), (3, .int x3)]) (st' := [.int x3]) rfl ?_
    by_cases hc_9 : x3 = 0
    · have h := Eq.mp (if_pos hc_9) h
      refine st_if (t := 118) (b := true) rfl (decide_eq_true hc_9) rfl ?_
      refine st_go 2 (pc' := 121) (lo' := [(0, .ref 42), (2, .int x2), (3, .int x3)]) (st' := [.int 65, .ref 42]) rfl ?_
      refine st_callv (k' := 328) (as := [.ref 42, .int 65]) (rest := []) (lo' := [(0, .ref 42), (1, .int 65)]) (wf := fun d => wR L d e) rfl rfl rfl ?_
      refine tMO_one (fun d_10 h => ⟨d_10, rfl, rfl, ?_⟩) 65 d_8 h
      exact st_retV rfl rfl (hQ _ h)
    · have h := Eq.mp (if_neg hc_9) h
      refine st_if (t := 111) (b := false) rfl (decide_eq_false hc_9) rfl ?_
      refine st_go 1 (pc' := 112) (lo' := [(0, .ref 42), (2, .int x2), (3, .int x3)]) (st' := [.ref 42]) rfl ?_
      refine st_callv (k' := 332) (as := [.ref 42]) (rest := []) (lo' := [(0, .ref 42)]) (wf := fun d => wR L d e) rfl rfl rfl ?_
      refine tMO_indexName (fun d_11 h => ⟨d_11, rfl, rfl, ?_⟩) d_8 h
      refine st_go 1 (pc' := 124) (lo' := [(0, .ref 42), (2, .int x2), (3, .int x3)]) (st' := []) rfl ?_
      exact st_retV rfl rfl (hQ _ h)
  · have h := Eq.mp (if_neg hc_7) h
    refine st_if (t := 124) (b := true) rfl (decide_eq_true hc_7) rfl ?_
    exact st_retV rfl rfl (hQ _ h)
set_option maxRecDepth 100000 in
def MO_writeLoad_63 (x1 : Int32) (x2 : Int32) (x3 : Int32) (d : vmD) (Q : vmD → Prop) : Prop :=
  if x1 < 2 then
  (MO_say 675431209 d fun d_6 =>
  MO_writeLoad_97 x2 x3 d_6 Q)
  else
  (if x1 < 4 then
  (MO_say 675562793 d fun d_13 =>
  MO_writeLoad_97 x2 x3 d_13 Q)
  else
  (MO_placeM d fun d_14 =>
  MO_writeLoad_97 x2 x3 d_14 Q))
set_option maxRecDepth 100000 in
set_option maxHeartbeats 4000000 in
theorem tMO_writeLoad_63 {L : Nat} {e : vmD} {Qo : Option Value → vmW → Prop} {Q : vmD → Prop} (hQ : ∀ d, Q d → Qo none (wR L d e)) (x1 : Int32) (x2 : Int32) (x3 : Int32) (d : vmD) (h : MO_writeLoad_63 x1 x2 x3 d Q) : vmWp 342 63 [(0, .ref 42), (1, .int x1), (2, .int x2), (3, .int x3)] [] (wR L d e) Qo := by
  unfold MO_writeLoad_63 at h
  refine st_go 2 (pc' := 65) (lo' := [(0, .ref 42), (1, .int x1), (2, .int x2), (3, .int x3)]) (st' := [.int 2, .int x1]) rfl ?_
  by_cases hc_5 : x1 < 2
  · have h := Eq.mp (if_pos hc_5) h
    refine st_icmp (t := 68) (b := false) rfl (decide_eq_false (Int32.not_le.mpr hc_5)) rfl ?_
    refine st_go 2 (pc' := 72) (lo' := [(0, .ref 42), (1, .int x1), (2, .int x2), (3, .int x3)]) (st' := [.long 675431209, .ref 42]) rfl ?_
    refine st_callv (k' := 329) (as := [.ref 42, .long 675431209]) (rest := []) (lo' := [(0, .ref 42), (1, .long 675431209)]) (wf := fun d => wR L d e) rfl rfl rfl ?_
    refine tMO_say (fun d_6 h => ⟨d_6, rfl, rfl, ?_⟩) 675431209 d h
    refine st_go 1 (pc' := 97) (lo' := [(0, .ref 42), (1, .int x1), (2, .int x2), (3, .int x3)]) (st' := []) rfl ?_
    refine vmWp.sub (lo' := [(0, .ref 42), (2, .int x2), (3, .int x3)]) ⟨rfl, rfl, rfl, trivial⟩ ?_
    exact tMO_writeLoad_97 hQ x2 x3 d_6 h
  · have h := Eq.mp (if_neg hc_5) h
    refine st_icmp (t := 78) (b := true) rfl (decide_eq_true (Int32.not_lt.mp hc_5)) rfl ?_
    refine st_go 2 (pc' := 80) (lo' := [(0, .ref 42), (1, .int x1), (2, .int x2), (3, .int x3)]) (st' := [.int 4, .int x1]) rfl ?_
    by_cases hc_12 : x1 < 4
    · have h := Eq.mp (if_pos hc_12) h
      refine st_icmp (t := 83) (b := false) rfl (decide_eq_false (Int32.not_le.mpr hc_12)) rfl ?_
      refine st_go 2 (pc' := 87) (lo' := [(0, .ref 42), (1, .int x1), (2, .int x2), (3, .int x3)]) (st' := [.long 675562793, .ref 42]) rfl ?_
      refine st_callv (k' := 329) (as := [.ref 42, .long 675562793]) (rest := []) (lo' := [(0, .ref 42), (1, .long 675562793)]) (wf := fun d => wR L d e) rfl rfl rfl ?_
      refine tMO_say (fun d_13 h => ⟨d_13, rfl, rfl, ?_⟩) 675562793 d h
      refine st_go 1 (pc' := 97) (lo' := [(0, .ref 42), (1, .int x1), (2, .int x2), (3, .int x3)]) (st' := []) rfl ?_
      refine vmWp.sub (lo' := [(0, .ref 42), (2, .int x2), (3, .int x3)]) ⟨rfl, rfl, rfl, trivial⟩ ?_
      exact tMO_writeLoad_97 hQ x2 x3 d_13 h
    · have h := Eq.mp (if_neg hc_12) h
      refine st_icmp (t := 93) (b := true) rfl (decide_eq_true (Int32.not_lt.mp hc_12)) rfl ?_
      refine st_go 1 (pc' := 94) (lo' := [(0, .ref 42), (1, .int x1), (2, .int x2), (3, .int x3)]) (st' := [.ref 42]) rfl ?_
      refine st_callv (k' := 338) (as := [.ref 42]) (rest := []) (lo' := [(0, .ref 42)]) (wf := fun d => wR L d e) rfl rfl rfl ?_
      refine tMO_placeM (fun d_14 h => ⟨d_14, rfl, rfl, ?_⟩) d h
      refine vmWp.sub (lo' := [(0, .ref 42), (2, .int x2), (3, .int x3)]) ⟨rfl, rfl, rfl, trivial⟩ ?_
      exact tMO_writeLoad_97 hQ x2 x3 d_14 h
set_option maxRecDepth 100000 in
def MO_writeLoad_57 (x1 : Int32) (x2 : Int32) (x3 : Int32) (d : vmD) (Q : vmD → Prop) : Prop :=
  MO_one 44 d fun d_17 =>
  MO_writeLoad_63 x1 x2 x3 d_17 Q
set_option maxRecDepth 100000 in
set_option maxHeartbeats 4000000 in
theorem tMO_writeLoad_57 {L : Nat} {e : vmD} {Qo : Option Value → vmW → Prop} {Q : vmD → Prop} (hQ : ∀ d, Q d → Qo none (wR L d e)) (x1 : Int32) (x2 : Int32) (x3 : Int32) (d : vmD) (h : MO_writeLoad_57 x1 x2 x3 d Q) : vmWp 342 57 [(0, .ref 42), (1, .int x1), (2, .int x2), (3, .int x3)] [] (wR L d e) Qo := by
  unfold MO_writeLoad_57 at h
  refine st_go 2 (pc' := 60) (lo' := [(0, .ref 42), (1, .int x1), (2, .int x2), (3, .int x3)]) (st' := [.int 44, .ref 42]) rfl ?_
  refine st_callv (k' := 328) (as := [.ref 42, .int 44]) (rest := []) (lo' := [(0, .ref 42), (1, .int 44)]) (wf := fun d => wR L d e) rfl rfl rfl ?_
  refine tMO_one (fun d_17 h => ⟨d_17, rfl, rfl, ?_⟩) 44 d h
  refine vmWp.sub (lo' := [(0, .ref 42), (1, .int x1), (2, .int x2), (3, .int x3)]) ⟨rfl, rfl, rfl, rfl, trivial⟩ ?_
  exact tMO_writeLoad_63 hQ x1 x2 x3 d_17 h
set_option maxRecDepth 100000 in
def MO_writeLoad_35 (x1 : Int32) (x2 : Int32) (s0 : Int32) (d : vmD) (Q : vmD → Prop) : Prop :=
  if x2 = 0 then
  (MO_writeLoad_63 x1 x2 s0 d Q)
  else
  (if s0 = 0 then
  (MO_one 65 d fun d_16 =>
  MO_writeLoad_57 x1 x2 s0 d_16 Q)
  else
  (MO_indexName d fun d_18 =>
  MO_writeLoad_57 x1 x2 s0 d_18 Q))
set_option maxRecDepth 100000 in
set_option maxHeartbeats 4000000 in
theorem tMO_writeLoad_35 {L : Nat} {e : vmD} {Qo : Option Value → vmW → Prop} {Q : vmD → Prop} (hQ : ∀ d, Q d → Qo none (wR L d e)) (x1 : Int32) (x2 : Int32) (s0 : Int32) (d : vmD) (h : MO_writeLoad_35 x1 x2 s0 d Q) : vmWp 342 35 [(0, .ref 42), (1, .int x1), (2, .int x2)] [.int s0] (wR L d e) Qo := by
  unfold MO_writeLoad_35 at h
  refine st_go 2 (pc' := 37) (lo' := [(3, .int s0), (0, .ref 42), (1, .int x1), (2, .int x2)]) (st' := [.int x2]) rfl ?_
  by_cases hc_4 : x2 = 0
  · have h := Eq.mp (if_pos hc_4) h
    refine st_if (t := 63) (b := true) rfl (decide_eq_true hc_4) rfl ?_
    refine vmWp.sub (lo' := [(0, .ref 42), (1, .int x1), (2, .int x2), (3, .int s0)]) ⟨rfl, rfl, rfl, rfl, trivial⟩ ?_
    exact tMO_writeLoad_63 hQ x1 x2 s0 d h
  · have h := Eq.mp (if_neg hc_4) h
    refine st_if (t := 40) (b := false) rfl (decide_eq_false hc_4) rfl ?_
    refine st_go 1 (pc' := 41) (lo' := [(3, .int s0), (0, .ref 42), (1, .int x1), (2, .int x2)]) (st' := [.int s0]) rfl ?_
    by_cases hc_15 : s0 = 0
    · have h := Eq.mp (if_pos hc_15) h
      refine st_if (t := 51) (b := true) rfl (decide_eq_true hc_15) rfl ?_
      refine st_go 2 (pc' := 54) (lo' := [(3, .int s0), (0, .ref 42), (1, .int x1), (2, .int x2)]) (st' := [.int 65, .ref 42]) rfl ?_
      refine st_callv (k' := 328) (as := [.ref 42, .int 65]) (rest := []) (lo' := [(0, .ref 42), (1, .int 65)]) (wf := fun d => wR L d e) rfl rfl rfl ?_
      refine tMO_one (fun d_16 h => ⟨d_16, rfl, rfl, ?_⟩) 65 d h
      refine vmWp.sub (lo' := [(0, .ref 42), (1, .int x1), (2, .int x2), (3, .int s0)]) ⟨rfl, rfl, rfl, rfl, trivial⟩ ?_
      exact tMO_writeLoad_57 hQ x1 x2 s0 d_16 h
    · have h := Eq.mp (if_neg hc_15) h
      refine st_if (t := 44) (b := false) rfl (decide_eq_false hc_15) rfl ?_
      refine st_go 1 (pc' := 45) (lo' := [(3, .int s0), (0, .ref 42), (1, .int x1), (2, .int x2)]) (st' := [.ref 42]) rfl ?_
      refine st_callv (k' := 332) (as := [.ref 42]) (rest := []) (lo' := [(0, .ref 42)]) (wf := fun d => wR L d e) rfl rfl rfl ?_
      refine tMO_indexName (fun d_18 h => ⟨d_18, rfl, rfl, ?_⟩) d h
      refine st_go 1 (pc' := 57) (lo' := [(3, .int s0), (0, .ref 42), (1, .int x1), (2, .int x2)]) (st' := []) rfl ?_
      refine vmWp.sub (lo' := [(0, .ref 42), (1, .int x1), (2, .int x2), (3, .int s0)]) ⟨rfl, rfl, rfl, rfl, trivial⟩ ?_
      exact tMO_writeLoad_57 hQ x1 x2 s0 d_18 h
set_option maxRecDepth 100000 in
def MO_writeLoad_30 (x1 : Int32) (x2 : Int32) (d : vmD) (Q : vmD → Prop) : Prop :=
  MO_writeLoad_35 x1 x2 1 d Q
set_option maxRecDepth 100000 in
set_option maxHeartbeats 4000000 in
theorem tMO_writeLoad_30 {L : Nat} {e : vmD} {Qo : Option Value → vmW → Prop} {Q : vmD → Prop} (hQ : ∀ d, Q d → Qo none (wR L d e)) (x1 : Int32) (x2 : Int32) (d : vmD) (h : MO_writeLoad_30 x1 x2 d Q) : vmWp 342 30 [(0, .ref 42), (1, .int x1), (2, .int x2)] [] (wR L d e) Qo := by
  unfold MO_writeLoad_30 at h
  refine st_go 2 (pc' := 35) (lo' := [(0, .ref 42), (1, .int x1), (2, .int x2)]) (st' := [.int 1]) rfl ?_
  refine vmWp.sub (lo' := [(0, .ref 42), (1, .int x1), (2, .int x2)]) ⟨rfl, rfl, rfl, trivial⟩ ?_
  exact tMO_writeLoad_35 hQ x1 x2 1 d h
set_option maxRecDepth 100000 in
def MO_writeLoad_19 (x1 : Int32) (s0 : Int32) (d : vmD) (Q : vmD → Prop) : Prop :=
  if x1 = 4 then
  (MO_writeLoad_30 x1 s0 d Q)
  else
  (if x1 = 5 then
  (MO_writeLoad_30 x1 s0 d Q)
  else
  (MO_writeLoad_35 x1 s0 0 d Q))
set_option maxRecDepth 100000 in
set_option maxHeartbeats 4000000 in
theorem tMO_writeLoad_19 {L : Nat} {e : vmD} {Qo : Option Value → vmW → Prop} {Q : vmD → Prop} (hQ : ∀ d, Q d → Qo none (wR L d e)) (x1 : Int32) (s0 : Int32) (d : vmD) (h : MO_writeLoad_19 x1 s0 d Q) : vmWp 342 19 [(0, .ref 42), (1, .int x1)] [.int s0] (wR L d e) Qo := by
  unfold MO_writeLoad_19 at h
  refine st_go 3 (pc' := 22) (lo' := [(2, .int s0), (0, .ref 42), (1, .int x1)]) (st' := [.int 4, .int x1]) rfl ?_
  by_cases hc_3 : x1 = 4
  · have h := Eq.mp (if_pos hc_3) h
    refine st_icmp (t := 30) (b := true) rfl (decide_eq_true hc_3) rfl ?_
    refine vmWp.sub (lo' := [(0, .ref 42), (1, .int x1), (2, .int s0)]) ⟨rfl, rfl, rfl, trivial⟩ ?_
    exact tMO_writeLoad_30 hQ x1 s0 d h
  · have h := Eq.mp (if_neg hc_3) h
    refine st_icmp (t := 25) (b := false) rfl (decide_eq_false hc_3) rfl ?_
    refine st_go 2 (pc' := 27) (lo' := [(2, .int s0), (0, .ref 42), (1, .int x1)]) (st' := [.int 5, .int x1]) rfl ?_
    by_cases hc_19 : x1 = 5
    · have h := Eq.mp (if_pos hc_19) h
      refine st_icmp (t := 30) (b := false) rfl (decide_eq_false (fun z => z hc_19)) rfl ?_
      refine vmWp.sub (lo' := [(0, .ref 42), (1, .int x1), (2, .int s0)]) ⟨rfl, rfl, rfl, trivial⟩ ?_
      exact tMO_writeLoad_30 hQ x1 s0 d h
    · have h := Eq.mp (if_neg hc_19) h
      refine st_icmp (t := 34) (b := true) rfl (decide_eq_true hc_19) rfl ?_
      refine st_go 1 (pc' := 35) (lo' := [(2, .int s0), (0, .ref 42), (1, .int x1)]) (st' := [.int 0]) rfl ?_
      refine vmWp.sub (lo' := [(0, .ref 42), (1, .int x1), (2, .int s0)]) ⟨rfl, rfl, rfl, trivial⟩ ?_
      exact tMO_writeLoad_35 hQ x1 s0 0 d h
set_option maxRecDepth 100000 in
def MO_writeLoad (x1 : Int32) (d : vmD) (Q : vmD → Prop) : Prop :=
  MO_say 4998176 d fun d_1 =>
  if (x1 &&& 1) = 1 then
  (MO_writeLoad_19 x1 1 d_1 Q)
  else
  (MO_writeLoad_19 x1 0 d_1 Q)
set_option maxRecDepth 100000 in
set_option maxHeartbeats 4000000 in
theorem tMO_writeLoad {L : Nat} {e : vmD} {Qo : Option Value → vmW → Prop} {Q : vmD → Prop} (hQ : ∀ d, Q d → Qo none (wR L d e)) (x1 : Int32) (d : vmD) (h : MO_writeLoad x1 d Q) : vmWp 342 0 [(0, .ref 42), (1, .int x1)] [] (wR L d e) Qo := by
  unfold MO_writeLoad at h
  refine st_go 2 (pc' := 4) (lo' := [(0, .ref 42), (1, .int x1)]) (st' := [.long 4998176, .ref 42]) rfl ?_
  refine st_callv (k' := 329) (as := [.ref 42, .long 4998176]) (rest := []) (lo' := [(0, .ref 42), (1, .long 4998176)]) (wf := fun d => wR L d e) rfl rfl rfl ?_
  refine tMO_say (fun d_1 h => ⟨d_1, rfl, rfl, ?_⟩) 4998176 d h
  refine st_go 4 (pc' := 11) (lo' := [(0, .ref 42), (1, .int x1)]) (st' := [.int 1, .int (x1 &&& 1)]) rfl ?_
  by_cases hc_2 : (x1 &&& 1) = 1
  · have h := Eq.mp (if_pos hc_2) h
    refine st_icmp (t := 14) (b := false) rfl (decide_eq_false (fun z => z hc_2)) rfl ?_
    refine st_go 2 (pc' := 19) (lo' := [(0, .ref 42), (1, .int x1)]) (st' := [.int 1]) rfl ?_
    refine vmWp.sub (lo' := [(0, .ref 42), (1, .int x1)]) ⟨rfl, rfl, trivial⟩ ?_
    exact tMO_writeLoad_19 hQ x1 1 d_1 h
  · have h := Eq.mp (if_neg hc_2) h
    refine st_icmp (t := 18) (b := true) rfl (decide_eq_true hc_2) rfl ?_
    refine st_go 1 (pc' := 19) (lo' := [(0, .ref 42), (1, .int x1)]) (st' := [.int 0]) rfl ?_
    refine vmWp.sub (lo' := [(0, .ref 42), (1, .int x1)]) ⟨rfl, rfl, trivial⟩ ?_
    exact tMO_writeLoad_19 hQ x1 0 d_1 h
set_option maxRecDepth 100000 in
def MO_n (d : vmD) (Q : vmD → Prop) : Prop :=
  MO_peek (gF d 42 64) d fun r_2 d_1 =>
  MO_number r_2 d_1 fun d_3 =>
  Q d_3
set_option maxRecDepth 100000 in
set_option maxHeartbeats 4000000 in
theorem tMO_n {L : Nat} {e : vmD} {Qo : Option Value → vmW → Prop} {Q : vmD → Prop} (hQ : ∀ d, Q d → Qo none (wR L d e)) (d : vmD) (h : MO_n d Q) : vmWp 339 0 [(0, .ref 42)] [] (wR L d e) Qo := by
  unfold MO_n at h
  refine st_go 4 (pc' := 6) (lo' := [(0, .ref 42)]) (st' := [.int (gF d 42 64), .ref 42, .ref 42]) rfl ?_
  refine st_calli (k' := 320) (as := [.ref 42, .int (gF d 42 64)]) (rest := [.ref 42]) (lo' := [(0, .ref 42), (1, .int (gF d 42 64))]) (wf := fun d => wR L d e) rfl rfl rfl ?_
  refine tMO_peek (fun r_2 d_1 h => ⟨r_2, d_1, rfl, rfl, ?_⟩) (gF d 42 64) d h
  refine st_callv (k' := 330) (as := [.ref 42, .int r_2]) (rest := []) (lo' := [(0, .ref 42), (1, .int r_2)]) (wf := fun d => wR L d e) rfl rfl rfl ?_
  refine tMO_number (fun d_3 h => ⟨d_3, rfl, rfl, ?_⟩) r_2 d_1 h
  exact st_retV rfl rfl (hQ _ h)
set_option maxRecDepth 100000 in
def MO_writeFirst_156 (x1 : Int32) (d : vmD) (Q : vmD → Prop) : Prop :=
  MO_near x1 d fun d_16 =>
  Q d_16
set_option maxRecDepth 100000 in
set_option maxHeartbeats 4000000 in
theorem tMO_writeFirst_156 {L : Nat} {e : vmD} {Qo : Option Value → vmW → Prop} {Q : vmD → Prop} (hQ : ∀ d, Q d → Qo none (wR L d e)) (x1 : Int32) (d : vmD) (h : MO_writeFirst_156 x1 d Q) : vmWp 341 156 [(0, .ref 42), (1, .int x1)] [] (wR L d e) Qo := by
  unfold MO_writeFirst_156 at h
  refine st_go 2 (pc' := 158) (lo' := [(0, .ref 42), (1, .int x1)]) (st' := [.int x1, .ref 42]) rfl ?_
  refine st_callv (k' := 340) (as := [.ref 42, .int x1]) (rest := []) (lo' := [(0, .ref 42), (1, .int x1)]) (wf := fun d => wR L d e) rfl rfl rfl ?_
  refine tMO_near (fun d_16 h => ⟨d_16, rfl, rfl, ?_⟩) x1 d h
  refine st_go 1 (pc' := 402) (lo' := [(0, .ref 42), (1, .int x1)]) (st' := []) rfl ?_
  exact st_retV rfl rfl (hQ _ h)
set_option maxRecDepth 100000 in
def MO_writeFirst_138 (x1 : Int32) (x2 : Int32) (d : vmD) (Q : vmD → Prop) : Prop :=
  if (3 : Int32) < x2 then
  (MO_conditionName (x2 - 4) d fun d_14 =>
  MO_one 44 d_14 fun d_15 =>
  MO_writeFirst_156 x1 d_15 Q)
  else
  (MO_writeFirst_156 x1 d Q)
set_option maxRecDepth 100000 in
set_option maxHeartbeats 4000000 in
theorem tMO_writeFirst_138 {L : Nat} {e : vmD} {Qo : Option Value → vmW → Prop} {Q : vmD → Prop} (hQ : ∀ d, Q d → Qo none (wR L d e)) (x1 : Int32) (x2 : Int32) (d : vmD) (h : MO_writeFirst_138 x1 x2 d Q) : vmWp 341 138 [(0, .ref 42), (1, .int x1), (2, .int x2)] [] (wR L d e) Qo := by
  unfold MO_writeFirst_138 at h
  refine st_go 2 (pc' := 140) (lo' := [(0, .ref 42), (1, .int x1), (2, .int x2)]) (st' := [.int 3, .int x2]) rfl ?_
  by_cases hc_13 : (3 : Int32) < x2
  · have h := Eq.mp (if_pos hc_13) h
    refine st_icmp (t := 143) (b := false) rfl (decide_eq_false (Int32.not_le.mpr hc_13)) rfl ?_
    refine st_go 4 (pc' := 147) (lo' := [(0, .ref 42), (1, .int x1), (2, .int x2)]) (st' := [.int (x2 - 4), .ref 42]) rfl ?_
    refine st_callv (k' := 335) (as := [.ref 42, .int (x2 - 4)]) (rest := []) (lo' := [(0, .ref 42), (1, .int (x2 - 4))]) (wf := fun d => wR L d e) rfl rfl rfl ?_
    refine tMO_conditionName (fun d_14 h => ⟨d_14, rfl, rfl, ?_⟩) (x2 - 4) d h
    refine st_go 2 (pc' := 153) (lo' := [(0, .ref 42), (1, .int x1), (2, .int x2)]) (st' := [.int 44, .ref 42]) rfl ?_
    refine st_callv (k' := 328) (as := [.ref 42, .int 44]) (rest := []) (lo' := [(0, .ref 42), (1, .int 44)]) (wf := fun d => wR L d e) rfl rfl rfl ?_
    refine tMO_one (fun d_15 h => ⟨d_15, rfl, rfl, ?_⟩) 44 d_14 h
    refine vmWp.sub (lo' := [(0, .ref 42), (1, .int x1)]) ⟨rfl, rfl, trivial⟩ ?_
    exact tMO_writeFirst_156 hQ x1 d_15 h
  · have h := Eq.mp (if_neg hc_13) h
    refine st_icmp (t := 156) (b := true) rfl (decide_eq_true (Int32.not_lt.mp hc_13)) rfl ?_
    refine vmWp.sub (lo' := [(0, .ref 42), (1, .int x1)]) ⟨rfl, rfl, trivial⟩ ?_
    exact tMO_writeFirst_156 hQ x1 d h
set_option maxRecDepth 100000 in
def MO_writeFirst_253 (x4 : Int32) (d : vmD) (Q : vmD → Prop) : Prop :=
  MO_pairName x4 0 d fun d_33 =>
  Q d_33
set_option maxRecDepth 100000 in
set_option maxHeartbeats 4000000 in
theorem tMO_writeFirst_253 {L : Nat} {e : vmD} {Qo : Option Value → vmW → Prop} {Q : vmD → Prop} (hQ : ∀ d, Q d → Qo none (wR L d e)) (x4 : Int32) (d : vmD) (h : MO_writeFirst_253 x4 d Q) : vmWp 341 253 [(0, .ref 42), (4, .int x4)] [] (wR L d e) Qo := by
  unfold MO_writeFirst_253 at h
  refine st_go 3 (pc' := 257) (lo' := [(0, .ref 42), (4, .int x4)]) (st' := [.int 0, .int x4, .ref 42]) rfl ?_
  refine st_callv (k' := 334) (as := [.ref 42, .int x4, .int 0]) (rest := []) (lo' := [(0, .ref 42), (1, .int x4), (2, .int 0)]) (wf := fun d => wR L d e) rfl rfl rfl ?_
  refine tMO_pairName (fun d_33 h => ⟨d_33, rfl, rfl, ?_⟩) x4 0 d h
  refine st_go 1 (pc' := 402) (lo' := [(0, .ref 42), (4, .int x4)]) (st' := []) rfl ?_
  exact st_retV rfl rfl (hQ _ h)
set_option maxRecDepth 100000 in
def MO_writeFirst_285 (x2 : Int32) (d : vmD) (Q : vmD → Prop) : Prop :=
  MO_octetName x2 d fun d_38 =>
  Q d_38
set_option maxRecDepth 100000 in
set_option maxHeartbeats 4000000 in
theorem tMO_writeFirst_285 {L : Nat} {e : vmD} {Qo : Option Value → vmW → Prop} {Q : vmD → Prop} (hQ : ∀ d, Q d → Qo none (wR L d e)) (x2 : Int32) (d : vmD) (h : MO_writeFirst_285 x2 d Q) : vmWp 341 285 [(0, .ref 42), (2, .int x2)] [] (wR L d e) Qo := by
  unfold MO_writeFirst_285 at h
  refine st_go 2 (pc' := 287) (lo' := [(0, .ref 42), (2, .int x2)]) (st' := [.int x2, .ref 42]) rfl ?_
  refine st_callv (k' := 333) (as := [.ref 42, .int x2]) (rest := []) (lo' := [(0, .ref 42), (1, .int x2)]) (wf := fun d => wR L d e) rfl rfl rfl ?_
  refine tMO_octetName (fun d_38 h => ⟨d_38, rfl, rfl, ?_⟩) x2 d h
  refine st_go 1 (pc' := 402) (lo' := [(0, .ref 42), (2, .int x2)]) (st' := []) rfl ?_
  exact st_retV rfl rfl (hQ _ h)
set_option maxRecDepth 100000 in
def MO_writeFirst_399 (s0 : Int64) (d : vmD) (Q : vmD → Prop) : Prop :=
  MO_say s0 d fun d_50 =>
  Q d_50
set_option maxRecDepth 100000 in
set_option maxHeartbeats 4000000 in
theorem tMO_writeFirst_399 {L : Nat} {e : vmD} {Qo : Option Value → vmW → Prop} {Q : vmD → Prop} (hQ : ∀ d, Q d → Qo none (wR L d e)) (s0 : Int64) (d : vmD) (h : MO_writeFirst_399 s0 d Q) : vmWp 341 399 [] [.long s0, .ref 42] (wR L d e) Qo := by
  unfold MO_writeFirst_399 at h
  refine st_callv (k' := 329) (as := [.ref 42, .long s0]) (rest := []) (lo' := [(0, .ref 42), (1, .long s0)]) (wf := fun d => wR L d e) rfl rfl rfl ?_
  refine tMO_say (fun d_50 h => ⟨d_50, rfl, rfl, ?_⟩) s0 d h
  exact st_retV rfl rfl (hQ _ h)
set_option maxRecDepth 100000 in
def MO_writeFirst_35 (x1 : Int32) (x2 : Int32) (x3 : Int32) (x4 : Int32) (s0 : Int32) (d : vmD) (Q : vmD → Prop) : Prop :=
  if x3 = 0 then
  (if x2 = 0 then
  (MO_say 5132112 d fun d_7 =>
  Q d_7)
  else
  (if x2 = 1 then
  (MO_say 76244800587308 d fun d_9 =>
  MO_say 4277799 d_9 fun d_10 =>
  Q d_10)
  else
  (if x2 = 2 then
  (MO_say 293304424992 d fun d_12 =>
  MO_writeFirst_138 x1 x2 d_12 Q)
  else
  (MO_say 4870688 d fun d_17 =>
  MO_writeFirst_138 x1 x2 d_17 Q))))
  else
  if x3 = 1 then
  (if s0 = 0 then
  (MO_say 4998176 d fun d_20 =>
  MO_pairName x4 0 d_20 fun d_21 =>
  MO_one 44 d_21 fun d_22 =>
  MO_m d_22 fun d_23 =>
  Q d_23)
  else
  (MO_say 1094992928 d fun d_24 =>
  MO_indexName d_24 fun d_25 =>
  MO_one 44 d_25 fun d_26 =>
  MO_pairName x4 0 d_26 fun d_27 =>
  Q d_27))
  else
  if x3 = 2 then
  (MO_writeLoad x2 d fun d_29 =>
  Q d_29)
  else
  if x3 = 3 then
  (if s0 = 0 then
  (MO_say 1229865760 d fun d_32 =>
  MO_writeFirst_253 x4 d_32 Q)
  else
  (MO_say 1145389856 d fun d_34 =>
  MO_writeFirst_253 x4 d_34 Q))
  else
  if x3 = 4 then
  (if x3 = 5 then
  (MO_say 1145389856 d fun d_37 =>
  MO_writeFirst_285 x2 d_37 Q)
  else
  (MO_say 1229865760 d fun d_39 =>
  MO_writeFirst_285 x2 d_39 Q))
  else
  if x3 = 5 then
  (if x3 = 5 then
  (MO_say 1145389856 d fun d_42 =>
  MO_writeFirst_285 x2 d_42 Q)
  else
  (MO_say 1229865760 d fun d_43 =>
  MO_writeFirst_285 x2 d_43 Q))
  else
  if x3 = 6 then
  (MO_say 4998176 d fun d_45 =>
  MO_octetName x2 d_45 fun d_46 =>
  MO_one 44 d_46 fun d_47 =>
  MO_n d_47 fun d_48 =>
  Q d_48)
  else
  (if x2 = 0 then
  (MO_writeFirst_399 1380729665 d Q)
  else
  (if x2 = 1 then
  (MO_writeFirst_399 1381122881 d Q)
  else
  (if x2 = 2 then
  (MO_writeFirst_399 5393473 d Q)
  else
  (if x2 = 3 then
  (MO_writeFirst_399 5395009 d Q)
  else
  (if x2 = 4 then
  (MO_writeFirst_399 4473153 d Q)
  else
  (if x2 = 5 then
  (MO_writeFirst_399 4411468 d Q)
  else
  (if x2 = 6 then
  (MO_writeFirst_399 5456710 d Q)
  else
  (MO_writeFirst_399 4408134 d Q))))))))
set_option maxRecDepth 100000 in
set_option maxHeartbeats 4000000 in
theorem tMO_writeFirst_35 {L : Nat} {e : vmD} {Qo : Option Value → vmW → Prop} {Q : vmD → Prop} (hQ : ∀ d, Q d → Qo none (wR L d e)) (x1 : Int32) (x2 : Int32) (x3 : Int32) (x4 : Int32) (s0 : Int32) (d : vmD) (h : MO_writeFirst_35 x1 x2 x3 x4 s0 d Q) : vmWp 341 35 [(0, .ref 42), (1, .int x1), (2, .int x2), (3, .int x3), (4, .int x4)] [.int s0] (wR L d e) Qo := by
  unfold MO_writeFirst_35 at h
  refine st_go 2 (pc' := 38) (lo' := [(5, .int s0), (0, .ref 42), (1, .int x1), (2, .int x2), (3, .int x3), (4, .int x4)]) (st' := [.int x3]) rfl ?_
  by_cases hc_5 : x3 = 0
  · have h := Eq.mp (if_pos hc_5) h
    refine st_tab (t := 80) rfl (by rw [hc_5]; rfl) ?_
    refine st_go 1 (pc' := 81) (lo' := [(5, .int s0), (0, .ref 42), (1, .int x1), (2, .int x2), (3, .int x3), (4, .int x4)]) (st' := [.int x2]) rfl ?_
    by_cases hc_6 : x2 = 0
    · have h := Eq.mp (if_pos hc_6) h
      refine st_if (t := 84) (b := false) rfl (decide_eq_false (fun z => z hc_6)) rfl ?_
      refine st_go 2 (pc' := 88) (lo' := [(5, .int s0), (0, .ref 42), (1, .int x1), (2, .int x2), (3, .int x3), (4, .int x4)]) (st' := [.long 5132112, .ref 42]) rfl ?_
      refine st_callv (k' := 329) (as := [.ref 42, .long 5132112]) (rest := []) (lo' := [(0, .ref 42), (1, .long 5132112)]) (wf := fun d => wR L d e) rfl rfl rfl ?_
      refine tMO_say (fun d_7 h => ⟨d_7, rfl, rfl, ?_⟩) 5132112 d h
      refine st_go 1 (pc' := 402) (lo' := [(5, .int s0), (0, .ref 42), (1, .int x1), (2, .int x2), (3, .int x3), (4, .int x4)]) (st' := []) rfl ?_
      exact st_retV rfl rfl (hQ _ h)
    · have h := Eq.mp (if_neg hc_6) h
      refine st_if (t := 94) (b := true) rfl (decide_eq_true hc_6) rfl ?_
      refine st_go 2 (pc' := 96) (lo' := [(5, .int s0), (0, .ref 42), (1, .int x1), (2, .int x2), (3, .int x3), (4, .int x4)]) (st' := [.int 1, .int x2]) rfl ?_
      by_cases hc_8 : x2 = 1
      · have h := Eq.mp (if_pos hc_8) h
        refine st_icmp (t := 99) (b := false) rfl (decide_eq_false (fun z => z hc_8)) rfl ?_
        refine st_go 2 (pc' := 103) (lo' := [(5, .int s0), (0, .ref 42), (1, .int x1), (2, .int x2), (3, .int x3), (4, .int x4)]) (st' := [.long 76244800587308, .ref 42]) rfl ?_
        refine st_callv (k' := 329) (as := [.ref 42, .long 76244800587308]) (rest := []) (lo' := [(0, .ref 42), (1, .long 76244800587308)]) (wf := fun d => wR L d e) rfl rfl rfl ?_
        refine tMO_say (fun d_9 h => ⟨d_9, rfl, rfl, ?_⟩) 76244800587308 d h
        refine st_go 2 (pc' := 110) (lo' := [(5, .int s0), (0, .ref 42), (1, .int x1), (2, .int x2), (3, .int x3), (4, .int x4)]) (st' := [.long 4277799, .ref 42]) rfl ?_
        refine st_callv (k' := 329) (as := [.ref 42, .long 4277799]) (rest := []) (lo' := [(0, .ref 42), (1, .long 4277799)]) (wf := fun d => wR L d e) rfl rfl rfl ?_
        refine tMO_say (fun d_10 h => ⟨d_10, rfl, rfl, ?_⟩) 4277799 d_9 h
        refine st_go 1 (pc' := 402) (lo' := [(5, .int s0), (0, .ref 42), (1, .int x1), (2, .int x2), (3, .int x3), (4, .int x4)]) (st' := []) rfl ?_
        exact st_retV rfl rfl (hQ _ h)
      · have h := Eq.mp (if_neg hc_8) h
        refine st_icmp (t := 116) (b := true) rfl (decide_eq_true hc_8) rfl ?_
        refine st_go 2 (pc' := 118) (lo' := [(5, .int s0), (0, .ref 42), (1, .int x1), (2, .int x2), (3, .int x3), (4, .int x4)]) (st' := [.int 2, .int x2]) rfl ?_
        by_cases hc_11 : x2 = 2
        · have h := Eq.mp (if_pos hc_11) h
          refine st_icmp (t := 121) (b := false) rfl (decide_eq_false (fun z => z hc_11)) rfl ?_
          refine st_go 2 (pc' := 125) (lo' := [(5, .int s0), (0, .ref 42), (1, .int x1), (2, .int x2), (3, .int x3), (4, .int x4)]) (st' := [.long 293304424992, .ref 42]) rfl ?_
          refine st_callv (k' := 329) (as := [.ref 42, .long 293304424992]) (rest := []) (lo' := [(0, .ref 42), (1, .long 293304424992)]) (wf := fun d => wR L d e) rfl rfl rfl ?_
          refine tMO_say (fun d_12 h => ⟨d_12, rfl, rfl, ?_⟩) 293304424992 d h
          refine st_go 1 (pc' := 138) (lo' := [(5, .int s0), (0, .ref 42), (1, .int x1), (2, .int x2), (3, .int x3), (4, .int x4)]) (st' := []) rfl ?_
          refine vmWp.sub (lo' := [(0, .ref 42), (1, .int x1), (2, .int x2)]) ⟨rfl, rfl, rfl, trivial⟩ ?_
          exact tMO_writeFirst_138 hQ x1 x2 d_12 h
        · have h := Eq.mp (if_neg hc_11) h
          refine st_icmp (t := 131) (b := true) rfl (decide_eq_true hc_11) rfl ?_
          refine st_go 2 (pc' := 135) (lo' := [(5, .int s0), (0, .ref 42), (1, .int x1), (2, .int x2), (3, .int x3), (4, .int x4)]) (st' := [.long 4870688, .ref 42]) rfl ?_
          refine st_callv (k' := 329) (as := [.ref 42, .long 4870688]) (rest := []) (lo' := [(0, .ref 42), (1, .long 4870688)]) (wf := fun d => wR L d e) rfl rfl rfl ?_
          refine tMO_say (fun d_17 h => ⟨d_17, rfl, rfl, ?_⟩) 4870688 d h
          refine vmWp.sub (lo' := [(0, .ref 42), (1, .int x1), (2, .int x2)]) ⟨rfl, rfl, rfl, trivial⟩ ?_
          exact tMO_writeFirst_138 hQ x1 x2 d_17 h
  · have h := Eq.mp (if_neg hc_5) h
    by_cases hc_18 : x3 = 1
    · have h := Eq.mp (if_pos hc_18) h
      refine st_tab (t := 164) rfl (by rw [hc_18]; rfl) ?_
      refine st_go 1 (pc' := 166) (lo' := [(5, .int s0), (0, .ref 42), (1, .int x1), (2, .int x2), (3, .int x3), (4, .int x4)]) (st' := [.int s0]) rfl ?_
      by_cases hc_19 : s0 = 0
      · have h := Eq.mp (if_pos hc_19) h
        refine st_if (t := 196) (b := true) rfl (decide_eq_true hc_19) rfl ?_
        refine st_go 2 (pc' := 200) (lo' := [(5, .int s0), (0, .ref 42), (1, .int x1), (2, .int x2), (3, .int x3), (4, .int x4)]) (st' := [.long 4998176, .ref 42]) rfl ?_
        refine st_callv (k' := 329) (as := [.ref 42, .long 4998176]) (rest := []) (lo' := [(0, .ref 42), (1, .long 4998176)]) (wf := fun d => wR L d e) rfl rfl rfl ?_
        refine tMO_say (fun d_20 h => ⟨d_20, rfl, rfl, ?_⟩) 4998176 d h
        refine st_go 3 (pc' := 207) (lo' := [(5, .int s0), (0, .ref 42), (1, .int x1), (2, .int x2), (3, .int x3), (4, .int x4)]) (st' := [.int 0, .int x4, .ref 42]) rfl ?_
        refine st_callv (k' := 334) (as := [.ref 42, .int x4, .int 0]) (rest := []) (lo' := [(0, .ref 42), (1, .int x4), (2, .int 0)]) (wf := fun d => wR L d e) rfl rfl rfl ?_
        refine tMO_pairName (fun d_21 h => ⟨d_21, rfl, rfl, ?_⟩) x4 0 d_20 h
        refine st_go 2 (pc' := 213) (lo' := [(5, .int s0), (0, .ref 42), (1, .int x1), (2, .int x2), (3, .int x3), (4, .int x4)]) (st' := [.int 44, .ref 42]) rfl ?_
        refine st_callv (k' := 328) (as := [.ref 42, .int 44]) (rest := []) (lo' := [(0, .ref 42), (1, .int 44)]) (wf := fun d => wR L d e) rfl rfl rfl ?_
        refine tMO_one (fun d_22 h => ⟨d_22, rfl, rfl, ?_⟩) 44 d_21 h
        refine st_go 1 (pc' := 217) (lo' := [(5, .int s0), (0, .ref 42), (1, .int x1), (2, .int x2), (3, .int x3), (4, .int x4)]) (st' := [.ref 42]) rfl ?_
        refine st_callv (k' := 337) (as := [.ref 42]) (rest := []) (lo' := [(0, .ref 42)]) (wf := fun d => wR L d e) rfl rfl rfl ?_
        refine tMO_m (fun d_23 h => ⟨d_23, rfl, rfl, ?_⟩) d_22 h
        refine st_go 1 (pc' := 402) (lo' := [(5, .int s0), (0, .ref 42), (1, .int x1), (2, .int x2), (3, .int x3), (4, .int x4)]) (st' := []) rfl ?_
        exact st_retV rfl rfl (hQ _ h)
      · have h := Eq.mp (if_neg hc_19) h
        refine st_if (t := 169) (b := false) rfl (decide_eq_false hc_19) rfl ?_
        refine st_go 2 (pc' := 173) (lo' := [(5, .int s0), (0, .ref 42), (1, .int x1), (2, .int x2), (3, .int x3), (4, .int x4)]) (st' := [.long 1094992928, .ref 42]) rfl ?_
        refine st_callv (k' := 329) (as := [.ref 42, .long 1094992928]) (rest := []) (lo' := [(0, .ref 42), (1, .long 1094992928)]) (wf := fun d => wR L d e) rfl rfl rfl ?_
        refine tMO_say (fun d_24 h => ⟨d_24, rfl, rfl, ?_⟩) 1094992928 d h
        refine st_go 1 (pc' := 177) (lo' := [(5, .int s0), (0, .ref 42), (1, .int x1), (2, .int x2), (3, .int x3), (4, .int x4)]) (st' := [.ref 42]) rfl ?_
        refine st_callv (k' := 332) (as := [.ref 42]) (rest := []) (lo' := [(0, .ref 42)]) (wf := fun d => wR L d e) rfl rfl rfl ?_
        refine tMO_indexName (fun d_25 h => ⟨d_25, rfl, rfl, ?_⟩) d_24 h
        refine st_go 2 (pc' := 183) (lo' := [(5, .int s0), (0, .ref 42), (1, .int x1), (2, .int x2), (3, .int x3), (4, .int x4)]) (st' := [.int 44, .ref 42]) rfl ?_
        refine st_callv (k' := 328) (as := [.ref 42, .int 44]) (rest := []) (lo' := [(0, .ref 42), (1, .int 44)]) (wf := fun d => wR L d e) rfl rfl rfl ?_
        refine tMO_one (fun d_26 h => ⟨d_26, rfl, rfl, ?_⟩) 44 d_25 h
        refine st_go 3 (pc' := 190) (lo' := [(5, .int s0), (0, .ref 42), (1, .int x1), (2, .int x2), (3, .int x3), (4, .int x4)]) (st' := [.int 0, .int x4, .ref 42]) rfl ?_
        refine st_callv (k' := 334) (as := [.ref 42, .int x4, .int 0]) (rest := []) (lo' := [(0, .ref 42), (1, .int x4), (2, .int 0)]) (wf := fun d => wR L d e) rfl rfl rfl ?_
        refine tMO_pairName (fun d_27 h => ⟨d_27, rfl, rfl, ?_⟩) x4 0 d_26 h
        refine st_go 1 (pc' := 402) (lo' := [(5, .int s0), (0, .ref 42), (1, .int x1), (2, .int x2), (3, .int x3), (4, .int x4)]) (st' := []) rfl ?_
        exact st_retV rfl rfl (hQ _ h)
    · have h := Eq.mp (if_neg hc_18) h
      by_cases hc_28 : x3 = 2
      · have h := Eq.mp (if_pos hc_28) h
        refine st_tab (t := 223) rfl (by rw [hc_28]; rfl) ?_
        refine st_go 2 (pc' := 225) (lo' := [(5, .int s0), (0, .ref 42), (1, .int x1), (2, .int x2), (3, .int x3), (4, .int x4)]) (st' := [.int x2, .ref 42]) rfl ?_
        refine st_callv (k' := 342) (as := [.ref 42, .int x2]) (rest := []) (lo' := [(0, .ref 42), (1, .int x2)]) (wf := fun d => wR L d e) rfl rfl rfl ?_
        refine tMO_writeLoad (fun d_29 h => ⟨d_29, rfl, rfl, ?_⟩) x2 d h
        refine st_go 1 (pc' := 402) (lo' := [(5, .int s0), (0, .ref 42), (1, .int x1), (2, .int x2), (3, .int x3), (4, .int x4)]) (st' := []) rfl ?_
        exact st_retV rfl rfl (hQ _ h)
      · have h := Eq.mp (if_neg hc_28) h
        by_cases hc_30 : x3 = 3
        · have h := Eq.mp (if_pos hc_30) h
          refine st_tab (t := 231) rfl (by rw [hc_30]; rfl) ?_
          refine st_go 1 (pc' := 233) (lo' := [(5, .int s0), (0, .ref 42), (1, .int x1), (2, .int x2), (3, .int x3), (4, .int x4)]) (st' := [.int s0]) rfl ?_
          by_cases hc_31 : s0 = 0
          · have h := Eq.mp (if_pos hc_31) h
            refine st_if (t := 246) (b := true) rfl (decide_eq_true hc_31) rfl ?_
            refine st_go 2 (pc' := 250) (lo' := [(5, .int s0), (0, .ref 42), (1, .int x1), (2, .int x2), (3, .int x3), (4, .int x4)]) (st' := [.long 1229865760, .ref 42]) rfl ?_
            refine st_callv (k' := 329) (as := [.ref 42, .long 1229865760]) (rest := []) (lo' := [(0, .ref 42), (1, .long 1229865760)]) (wf := fun d => wR L d e) rfl rfl rfl ?_
            refine tMO_say (fun d_32 h => ⟨d_32, rfl, rfl, ?_⟩) 1229865760 d h
            refine vmWp.sub (lo' := [(0, .ref 42), (4, .int x4)]) ⟨rfl, rfl, trivial⟩ ?_
            exact tMO_writeFirst_253 hQ x4 d_32 h
          · have h := Eq.mp (if_neg hc_31) h
            refine st_if (t := 236) (b := false) rfl (decide_eq_false hc_31) rfl ?_
            refine st_go 2 (pc' := 240) (lo' := [(5, .int s0), (0, .ref 42), (1, .int x1), (2, .int x2), (3, .int x3), (4, .int x4)]) (st' := [.long 1145389856, .ref 42]) rfl ?_
            refine st_callv (k' := 329) (as := [.ref 42, .long 1145389856]) (rest := []) (lo' := [(0, .ref 42), (1, .long 1145389856)]) (wf := fun d => wR L d e) rfl rfl rfl ?_
            refine tMO_say (fun d_34 h => ⟨d_34, rfl, rfl, ?_⟩) 1145389856 d h
            refine st_go 1 (pc' := 253) (lo' := [(5, .int s0), (0, .ref 42), (1, .int x1), (2, .int x2), (3, .int x3), (4, .int x4)]) (st' := []) rfl ?_
            refine vmWp.sub (lo' := [(0, .ref 42), (4, .int x4)]) ⟨rfl, rfl, trivial⟩ ?_
            exact tMO_writeFirst_253 hQ x4 d_34 h
        · have h := Eq.mp (if_neg hc_30) h
          by_cases hc_35 : x3 = 4
          · have h := Eq.mp (if_pos hc_35) h
            refine st_tab (t := 263) rfl (by rw [hc_35]; rfl) ?_
            refine st_go 2 (pc' := 265) (lo' := [(5, .int s0), (0, .ref 42), (1, .int x1), (2, .int x2), (3, .int x3), (4, .int x4)]) (st' := [.int 5, .int x3]) rfl ?_
            by_cases hc_36 : x3 = 5
            · have h := Eq.mp (if_pos hc_36) h
              refine st_icmp (t := 268) (b := false) rfl (decide_eq_false (fun z => z hc_36)) rfl ?_
              refine st_go 2 (pc' := 272) (lo' := [(5, .int s0), (0, .ref 42), (1, .int x1), (2, .int x2), (3, .int x3), (4, .int x4)]) (st' := [.long 1145389856, .ref 42]) rfl ?_
              refine st_callv (k' := 329) (as := [.ref 42, .long 1145389856]) (rest := []) (lo' := [(0, .ref 42), (1, .long 1145389856)]) (wf := fun d => wR L d e) rfl rfl rfl ?_
              refine tMO_say (fun d_37 h => ⟨d_37, rfl, rfl, ?_⟩) 1145389856 d h
              refine st_go 1 (pc' := 285) (lo' := [(5, .int s0), (0, .ref 42), (1, .int x1), (2, .int x2), (3, .int x3), (4, .int x4)]) (st' := []) rfl ?_
              refine vmWp.sub (lo' := [(0, .ref 42), (2, .int x2)]) ⟨rfl, rfl, trivial⟩ ?_
              exact tMO_writeFirst_285 hQ x2 d_37 h
            · have h := Eq.mp (if_neg hc_36) h
              refine st_icmp (t := 278) (b := true) rfl (decide_eq_true hc_36) rfl ?_
              refine st_go 2 (pc' := 282) (lo' := [(5, .int s0), (0, .ref 42), (1, .int x1), (2, .int x2), (3, .int x3), (4, .int x4)]) (st' := [.long 1229865760, .ref 42]) rfl ?_
              refine st_callv (k' := 329) (as := [.ref 42, .long 1229865760]) (rest := []) (lo' := [(0, .ref 42), (1, .long 1229865760)]) (wf := fun d => wR L d e) rfl rfl rfl ?_
              refine tMO_say (fun d_39 h => ⟨d_39, rfl, rfl, ?_⟩) 1229865760 d h
              refine vmWp.sub (lo' := [(0, .ref 42), (2, .int x2)]) ⟨rfl, rfl, trivial⟩ ?_
              exact tMO_writeFirst_285 hQ x2 d_39 h
          · have h := Eq.mp (if_neg hc_35) h
            by_cases hc_40 : x3 = 5
            · have h := Eq.mp (if_pos hc_40) h
              refine st_tab (t := 263) rfl (by rw [hc_40]; rfl) ?_
              refine st_go 2 (pc' := 265) (lo' := [(5, .int s0), (0, .ref 42), (1, .int x1), (2, .int x2), (3, .int x3), (4, .int x4)]) (st' := [.int 5, .int x3]) rfl ?_
              by_cases hc_41 : x3 = 5
              · have h := Eq.mp (if_pos hc_41) h
                refine st_icmp (t := 268) (b := false) rfl (decide_eq_false (fun z => z hc_41)) rfl ?_
                refine st_go 2 (pc' := 272) (lo' := [(5, .int s0), (0, .ref 42), (1, .int x1), (2, .int x2), (3, .int x3), (4, .int x4)]) (st' := [.long 1145389856, .ref 42]) rfl ?_
                refine st_callv (k' := 329) (as := [.ref 42, .long 1145389856]) (rest := []) (lo' := [(0, .ref 42), (1, .long 1145389856)]) (wf := fun d => wR L d e) rfl rfl rfl ?_
                refine tMO_say (fun d_42 h => ⟨d_42, rfl, rfl, ?_⟩) 1145389856 d h
                refine st_go 1 (pc' := 285) (lo' := [(5, .int s0), (0, .ref 42), (1, .int x1), (2, .int x2), (3, .int x3), (4, .int x4)]) (st' := []) rfl ?_
                refine vmWp.sub (lo' := [(0, .ref 42), (2, .int x2)]) ⟨rfl, rfl, trivial⟩ ?_
                exact tMO_writeFirst_285 hQ x2 d_42 h
              · have h := Eq.mp (if_neg hc_41) h
                refine st_icmp (t := 278) (b := true) rfl (decide_eq_true hc_41) rfl ?_
                refine st_go 2 (pc' := 282) (lo' := [(5, .int s0), (0, .ref 42), (1, .int x1), (2, .int x2), (3, .int x3), (4, .int x4)]) (st' := [.long 1229865760, .ref 42]) rfl ?_
                refine st_callv (k' := 329) (as := [.ref 42, .long 1229865760]) (rest := []) (lo' := [(0, .ref 42), (1, .long 1229865760)]) (wf := fun d => wR L d e) rfl rfl rfl ?_
                refine tMO_say (fun d_43 h => ⟨d_43, rfl, rfl, ?_⟩) 1229865760 d h
                refine vmWp.sub (lo' := [(0, .ref 42), (2, .int x2)]) ⟨rfl, rfl, trivial⟩ ?_
                exact tMO_writeFirst_285 hQ x2 d_43 h
            · have h := Eq.mp (if_neg hc_40) h
              by_cases hc_44 : x3 = 6
              · have h := Eq.mp (if_pos hc_44) h
                refine st_tab (t := 293) rfl (by rw [hc_44]; rfl) ?_
                refine st_go 2 (pc' := 297) (lo' := [(5, .int s0), (0, .ref 42), (1, .int x1), (2, .int x2), (3, .int x3), (4, .int x4)]) (st' := [.long 4998176, .ref 42]) rfl ?_
                refine st_callv (k' := 329) (as := [.ref 42, .long 4998176]) (rest := []) (lo' := [(0, .ref 42), (1, .long 4998176)]) (wf := fun d => wR L d e) rfl rfl rfl ?_
                refine tMO_say (fun d_45 h => ⟨d_45, rfl, rfl, ?_⟩) 4998176 d h
                refine st_go 2 (pc' := 302) (lo' := [(5, .int s0), (0, .ref 42), (1, .int x1), (2, .int x2), (3, .int x3), (4, .int x4)]) (st' := [.int x2, .ref 42]) rfl ?_
                refine st_callv (k' := 333) (as := [.ref 42, .int x2]) (rest := []) (lo' := [(0, .ref 42), (1, .int x2)]) (wf := fun d => wR L d e) rfl rfl rfl ?_
                refine tMO_octetName (fun d_46 h => ⟨d_46, rfl, rfl, ?_⟩) x2 d_45 h
                refine st_go 2 (pc' := 308) (lo' := [(5, .int s0), (0, .ref 42), (1, .int x1), (2, .int x2), (3, .int x3), (4, .int x4)]) (st' := [.int 44, .ref 42]) rfl ?_
                refine st_callv (k' := 328) (as := [.ref 42, .int 44]) (rest := []) (lo' := [(0, .ref 42), (1, .int 44)]) (wf := fun d => wR L d e) rfl rfl rfl ?_
                refine tMO_one (fun d_47 h => ⟨d_47, rfl, rfl, ?_⟩) 44 d_46 h
                refine st_go 1 (pc' := 312) (lo' := [(5, .int s0), (0, .ref 42), (1, .int x1), (2, .int x2), (3, .int x3), (4, .int x4)]) (st' := [.ref 42]) rfl ?_
                refine st_callv (k' := 339) (as := [.ref 42]) (rest := []) (lo' := [(0, .ref 42)]) (wf := fun d => wR L d e) rfl rfl rfl ?_
                refine tMO_n (fun d_48 h => ⟨d_48, rfl, rfl, ?_⟩) d_47 h
                refine st_go 1 (pc' := 402) (lo' := [(5, .int s0), (0, .ref 42), (1, .int x1), (2, .int x2), (3, .int x3), (4, .int x4)]) (st' := []) rfl ?_
                exact st_retV rfl rfl (hQ _ h)
              · have h := Eq.mp (if_neg hc_44) h
                refine st_tab (t := 318) rfl (tab_def rfl (by decide) rfl (by
                  intro j hj hx
                  have hj : j < 7 := hj
                  rcases (j = 0 ∨ j = 1 ∨ j = 2 ∨ j = 3 ∨ j = 4 ∨ j = 5 ∨ j = 6 : Prop) |> fun _ => (show j = 0 ∨ j = 1 ∨ j = 2 ∨ j = 3 ∨ j = 4 ∨ j = 5 ∨ j = 6 by omega) with rfl | rfl | rfl | rfl | rfl | rfl | rfl <;> first | rfl | exact absurd hx hc_5 | exact absurd hx hc_18 | exact absurd hx hc_28 | exact absurd hx hc_30 | exact absurd hx hc_35 | exact absurd hx hc_40 | exact absurd hx hc_44)) ?_
                refine st_go 2 (pc' := 320) (lo' := [(5, .int s0), (0, .ref 42), (1, .int x1), (2, .int x2), (3, .int x3), (4, .int x4)]) (st' := [.int x2, .ref 42]) rfl ?_
                by_cases hc_49 : x2 = 0
                · have h := Eq.mp (if_pos hc_49) h
                  refine st_if (t := 323) (b := false) rfl (decide_eq_false (fun z => z hc_49)) rfl ?_
                  refine st_go 2 (pc' := 399) (lo' := [(5, .int s0), (0, .ref 42), (1, .int x1), (2, .int x2), (3, .int x3), (4, .int x4)]) (st' := [.long 1380729665, .ref 42]) rfl ?_
                  refine vmWp.sub (lo' := []) trivial ?_
                  exact tMO_writeFirst_399 hQ 1380729665 d h
                · have h := Eq.mp (if_neg hc_49) h
                  refine st_if (t := 329) (b := true) rfl (decide_eq_true hc_49) rfl ?_
                  refine st_go 2 (pc' := 331) (lo' := [(5, .int s0), (0, .ref 42), (1, .int x1), (2, .int x2), (3, .int x3), (4, .int x4)]) (st' := [.int 1, .int x2, .ref 42]) rfl ?_
                  by_cases hc_51 : x2 = 1
                  · have h := Eq.mp (if_pos hc_51) h
                    refine st_icmp (t := 334) (b := false) rfl (decide_eq_false (fun z => z hc_51)) rfl ?_
                    refine st_go 2 (pc' := 399) (lo' := [(5, .int s0), (0, .ref 42), (1, .int x1), (2, .int x2), (3, .int x3), (4, .int x4)]) (st' := [.long 1381122881, .ref 42]) rfl ?_
                    refine vmWp.sub (lo' := []) trivial ?_
                    exact tMO_writeFirst_399 hQ 1381122881 d h
                  · have h := Eq.mp (if_neg hc_51) h
                    refine st_icmp (t := 340) (b := true) rfl (decide_eq_true hc_51) rfl ?_
                    refine st_go 2 (pc' := 342) (lo' := [(5, .int s0), (0, .ref 42), (1, .int x1), (2, .int x2), (3, .int x3), (4, .int x4)]) (st' := [.int 2, .int x2, .ref 42]) rfl ?_
                    by_cases hc_52 : x2 = 2
                    · have h := Eq.mp (if_pos hc_52) h
                      refine st_icmp (t := 345) (b := false) rfl (decide_eq_false (fun z => z hc_52)) rfl ?_
                      refine st_go 2 (pc' := 399) (lo' := [(5, .int s0), (0, .ref 42), (1, .int x1), (2, .int x2), (3, .int x3), (4, .int x4)]) (st' := [.long 5393473, .ref 42]) rfl ?_
                      refine vmWp.sub (lo' := []) trivial ?_
                      exact tMO_writeFirst_399 hQ 5393473 d h
                    · have h := Eq.mp (if_neg hc_52) h
                      refine st_icmp (t := 351) (b := true) rfl (decide_eq_true hc_52) rfl ?_
                      refine st_go 2 (pc' := 353) (lo' := [(5, .int s0), (0, .ref 42), (1, .int x1), (2, .int x2), (3, .int x3), (4, .int x4)]) (st' := [.int 3, .int x2, .ref 42]) rfl ?_
                      by_cases hc_53 : x2 = 3
                      · have h := Eq.mp (if_pos hc_53) h
                        refine st_icmp (t := 356) (b := false) rfl (decide_eq_false (fun z => z hc_53)) rfl ?_
                        refine st_go 2 (pc' := 399) (lo' := [(5, .int s0), (0, .ref 42), (1, .int x1), (2, .int x2), (3, .int x3), (4, .int x4)]) (st' := [.long 5395009, .ref 42]) rfl ?_
                        refine vmWp.sub (lo' := []) trivial ?_
                        exact tMO_writeFirst_399 hQ 5395009 d h
                      · have h := Eq.mp (if_neg hc_53) h
                        refine st_icmp (t := 362) (b := true) rfl (decide_eq_true hc_53) rfl ?_
                        refine st_go 2 (pc' := 364) (lo' := [(5, .int s0), (0, .ref 42), (1, .int x1), (2, .int x2), (3, .int x3), (4, .int x4)]) (st' := [.int 4, .int x2, .ref 42]) rfl ?_
                        by_cases hc_54 : x2 = 4
                        · have h := Eq.mp (if_pos hc_54) h
                          refine st_icmp (t := 367) (b := false) rfl (decide_eq_false (fun z => z hc_54)) rfl ?_
                          refine st_go 2 (pc' := 399) (lo' := [(5, .int s0), (0, .ref 42), (1, .int x1), (2, .int x2), (3, .int x3), (4, .int x4)]) (st' := [.long 4473153, .ref 42]) rfl ?_
                          refine vmWp.sub (lo' := []) trivial ?_
                          exact tMO_writeFirst_399 hQ 4473153 d h
                        · have h := Eq.mp (if_neg hc_54) h
                          refine st_icmp (t := 373) (b := true) rfl (decide_eq_true hc_54) rfl ?_
                          refine st_go 2 (pc' := 375) (lo' := [(5, .int s0), (0, .ref 42), (1, .int x1), (2, .int x2), (3, .int x3), (4, .int x4)]) (st' := [.int 5, .int x2, .ref 42]) rfl ?_
                          by_cases hc_55 : x2 = 5
                          · have h := Eq.mp (if_pos hc_55) h
                            refine st_icmp (t := 378) (b := false) rfl (decide_eq_false (fun z => z hc_55)) rfl ?_
                            refine st_go 2 (pc' := 399) (lo' := [(5, .int s0), (0, .ref 42), (1, .int x1), (2, .int x2), (3, .int x3), (4, .int x4)]) (st' := [.long 4411468, .ref 42]) rfl ?_
                            refine vmWp.sub (lo' := []) trivial ?_
                            exact tMO_writeFirst_399 hQ 4411468 d h
                          · have h := Eq.mp (if_neg hc_55) h
                            refine st_icmp (t := 384) (b := true) rfl (decide_eq_true hc_55) rfl ?_
                            refine st_go 2 (pc' := 387) (lo' := [(5, .int s0), (0, .ref 42), (1, .int x1), (2, .int x2), (3, .int x3), (4, .int x4)]) (st' := [.int 6, .int x2, .ref 42]) rfl ?_
                            by_cases hc_56 : x2 = 6
                            · have h := Eq.mp (if_pos hc_56) h
                              refine st_icmp (t := 390) (b := false) rfl (decide_eq_false (fun z => z hc_56)) rfl ?_
                              refine st_go 2 (pc' := 399) (lo' := [(5, .int s0), (0, .ref 42), (1, .int x1), (2, .int x2), (3, .int x3), (4, .int x4)]) (st' := [.long 5456710, .ref 42]) rfl ?_
                              refine vmWp.sub (lo' := []) trivial ?_
                              exact tMO_writeFirst_399 hQ 5456710 d h
                            · have h := Eq.mp (if_neg hc_56) h
                              refine st_icmp (t := 396) (b := true) rfl (decide_eq_true hc_56) rfl ?_
                              refine st_go 1 (pc' := 399) (lo' := [(5, .int s0), (0, .ref 42), (1, .int x1), (2, .int x2), (3, .int x3), (4, .int x4)]) (st' := [.long 4408134, .ref 42]) rfl ?_
                              refine vmWp.sub (lo' := []) trivial ?_
                              exact tMO_writeFirst_399 hQ 4408134 d h
set_option maxRecDepth 100000 in
def MO_writeFirst (x1 : Int32) (d : vmD) (Q : vmD → Prop) : Prop :=
  bnd (((gF d 42 61) >>> ((3 : Int32) &&& 31)) &&& 7) fun x2_1 =>
  bnd ((gF d 42 61) &&& 7) fun x3_2 =>
  bnd (x2_1 >>> ((1 : Int32) &&& 31)) fun x4_3 =>
  if (x2_1 &&& 1) = 1 then
  (MO_writeFirst_35 x1 x2_1 x3_2 x4_3 1 d Q)
  else
  (MO_writeFirst_35 x1 x2_1 x3_2 x4_3 0 d Q)
set_option maxRecDepth 100000 in
set_option maxHeartbeats 4000000 in
theorem tMO_writeFirst {L : Nat} {e : vmD} {Qo : Option Value → vmW → Prop} {Q : vmD → Prop} (hQ : ∀ d, Q d → Qo none (wR L d e)) (x1 : Int32) (d : vmD) (h : MO_writeFirst x1 d Q) : vmWp 341 0 [(0, .ref 42), (1, .int x1)] [] (wR L d e) Qo := by
  unfold MO_writeFirst at h
  refine st_go 7 (pc' := 10) (lo' := [(2, .int (((gF d 42 61) >>> ((3 : Int32) &&& 31)) &&& 7)), (0, .ref 42), (1, .int x1)]) (st' := []) rfl ?_
  refine st_locI (fun x2_1 hy_x2_1 => ?_)
  have h := h x2_1 hy_x2_1
  refine st_go 5 (pc' := 18) (lo' := [(3, .int ((gF d 42 61) &&& 7)), (2, .int x2_1), (0, .ref 42), (1, .int x1)]) (st' := []) rfl ?_
  refine st_locI (fun x3_2 hy_x3_2 => ?_)
  have h := h x3_2 hy_x3_2
  refine st_go 4 (pc' := 23) (lo' := [(4, .int (x2_1 >>> ((1 : Int32) &&& 31))), (3, .int x3_2), (2, .int x2_1), (0, .ref 42), (1, .int x1)]) (st' := []) rfl ?_
  refine st_locI (fun x4_3 hy_x4_3 => ?_)
  have h := h x4_3 hy_x4_3
  refine st_go 4 (pc' := 27) (lo' := [(4, .int x4_3), (3, .int x3_2), (2, .int x2_1), (0, .ref 42), (1, .int x1)]) (st' := [.int 1, .int (x2_1 &&& 1)]) rfl ?_
  by_cases hc_4 : (x2_1 &&& 1) = 1
  · have h := Eq.mp (if_pos hc_4) h
    refine st_icmp (t := 30) (b := false) rfl (decide_eq_false (fun z => z hc_4)) rfl ?_
    refine st_go 2 (pc' := 35) (lo' := [(4, .int x4_3), (3, .int x3_2), (2, .int x2_1), (0, .ref 42), (1, .int x1)]) (st' := [.int 1]) rfl ?_
    refine vmWp.sub (lo' := [(0, .ref 42), (1, .int x1), (2, .int x2_1), (3, .int x3_2), (4, .int x4_3)]) ⟨rfl, rfl, rfl, rfl, rfl, trivial⟩ ?_
    exact tMO_writeFirst_35 hQ x1 x2_1 x3_2 x4_3 1 d h
  · have h := Eq.mp (if_neg hc_4) h
    refine st_icmp (t := 34) (b := true) rfl (decide_eq_true hc_4) rfl ?_
    refine st_go 1 (pc' := 35) (lo' := [(4, .int x4_3), (3, .int x3_2), (2, .int x2_1), (0, .ref 42), (1, .int x1)]) (st' := [.int 0]) rfl ?_
    refine vmWp.sub (lo' := [(0, .ref 42), (1, .int x1), (2, .int x2_1), (3, .int x3_2), (4, .int x4_3)]) ⟨rfl, rfl, rfl, rfl, rfl, trivial⟩ ?_
    exact tMO_writeFirst_35 hQ x1 x2_1 x3_2 x4_3 0 d h
set_option maxRecDepth 100000 in
def MO_writeThird (x1 : Int32) (d : vmD) (Q : vmD → Prop) : Prop :=
  if x1 = 0 then
  (MO_say 4870176 d fun d_2 =>
  MO_m d_2 fun d_3 =>
  Q d_3)
  else
  if x1 = 2 then
  (MO_say 340733993000 d fun d_5 =>
  MO_n d_5 fun d_6 =>
  MO_say 2698305 d_6 fun d_7 =>
  Q d_7)
  else
  if x1 = 3 then
  (MO_say 80599897418792 d fun d_9 =>
  MO_n d_9 fun d_10 =>
  MO_one 41 d_10 fun d_11 =>
  Q d_11)
  else
  if x1 = 4 then
  (MO_say 4996779144136108332 d fun d_13 =>
  MO_indexName d_13 fun d_14 =>
  Q d_14)
  else
  if x1 = 5 then
  (MO_say 4996779264157960268 d fun d_16 =>
  Q d_16)
  else
  if x1 = 6 then
  (MO_say 17481 d fun d_18 =>
  Q d_18)
  else
  (MO_say 17737 d fun d_19 =>
  Q d_19)
set_option maxRecDepth 100000 in
set_option maxHeartbeats 4000000 in
theorem tMO_writeThird {L : Nat} {e : vmD} {Qo : Option Value → vmW → Prop} {Q : vmD → Prop} (hQ : ∀ d, Q d → Qo none (wR L d e)) (x1 : Int32) (d : vmD) (h : MO_writeThird x1 d Q) : vmWp 344 0 [(0, .ref 42), (1, .int x1)] [] (wR L d e) Qo := by
  unfold MO_writeThird at h
  refine st_go 1 (pc' := 1) (lo' := [(0, .ref 42), (1, .int x1)]) (st' := [.int x1]) rfl ?_
  by_cases hc_1 : x1 = 0
  · have h := Eq.mp (if_pos hc_1) h
    refine st_tab (t := 44) rfl (by rw [hc_1]; rfl) ?_
    refine st_go 2 (pc' := 48) (lo' := [(0, .ref 42), (1, .int x1)]) (st' := [.long 4870176, .ref 42]) rfl ?_
    refine st_callv (k' := 329) (as := [.ref 42, .long 4870176]) (rest := []) (lo' := [(0, .ref 42), (1, .long 4870176)]) (wf := fun d => wR L d e) rfl rfl rfl ?_
    refine tMO_say (fun d_2 h => ⟨d_2, rfl, rfl, ?_⟩) 4870176 d h
    refine st_go 1 (pc' := 52) (lo' := [(0, .ref 42), (1, .int x1)]) (st' := [.ref 42]) rfl ?_
    refine st_callv (k' := 337) (as := [.ref 42]) (rest := []) (lo' := [(0, .ref 42)]) (wf := fun d => wR L d e) rfl rfl rfl ?_
    refine tMO_m (fun d_3 h => ⟨d_3, rfl, rfl, ?_⟩) d_2 h
    refine st_go 1 (pc' := 140) (lo' := [(0, .ref 42), (1, .int x1)]) (st' := []) rfl ?_
    exact st_retV rfl rfl (hQ _ h)
  · have h := Eq.mp (if_neg hc_1) h
    by_cases hc_4 : x1 = 2
    · have h := Eq.mp (if_pos hc_4) h
      refine st_tab (t := 58) rfl (by rw [hc_4]; rfl) ?_
      refine st_go 2 (pc' := 62) (lo' := [(0, .ref 42), (1, .int x1)]) (st' := [.long 340733993000, .ref 42]) rfl ?_
      refine st_callv (k' := 329) (as := [.ref 42, .long 340733993000]) (rest := []) (lo' := [(0, .ref 42), (1, .long 340733993000)]) (wf := fun d => wR L d e) rfl rfl rfl ?_
      refine tMO_say (fun d_5 h => ⟨d_5, rfl, rfl, ?_⟩) 340733993000 d h
      refine st_go 1 (pc' := 66) (lo' := [(0, .ref 42), (1, .int x1)]) (st' := [.ref 42]) rfl ?_
      refine st_callv (k' := 339) (as := [.ref 42]) (rest := []) (lo' := [(0, .ref 42)]) (wf := fun d => wR L d e) rfl rfl rfl ?_
      refine tMO_n (fun d_6 h => ⟨d_6, rfl, rfl, ?_⟩) d_5 h
      refine st_go 2 (pc' := 73) (lo' := [(0, .ref 42), (1, .int x1)]) (st' := [.long 2698305, .ref 42]) rfl ?_
      refine st_callv (k' := 329) (as := [.ref 42, .long 2698305]) (rest := []) (lo' := [(0, .ref 42), (1, .long 2698305)]) (wf := fun d => wR L d e) rfl rfl rfl ?_
      refine tMO_say (fun d_7 h => ⟨d_7, rfl, rfl, ?_⟩) 2698305 d_6 h
      refine st_go 1 (pc' := 140) (lo' := [(0, .ref 42), (1, .int x1)]) (st' := []) rfl ?_
      exact st_retV rfl rfl (hQ _ h)
    · have h := Eq.mp (if_neg hc_4) h
      by_cases hc_8 : x1 = 3
      · have h := Eq.mp (if_pos hc_8) h
        refine st_tab (t := 79) rfl (by rw [hc_8]; rfl) ?_
        refine st_go 2 (pc' := 83) (lo' := [(0, .ref 42), (1, .int x1)]) (st' := [.long 80599897418792, .ref 42]) rfl ?_
        refine st_callv (k' := 329) (as := [.ref 42, .long 80599897418792]) (rest := []) (lo' := [(0, .ref 42), (1, .long 80599897418792)]) (wf := fun d => wR L d e) rfl rfl rfl ?_
        refine tMO_say (fun d_9 h => ⟨d_9, rfl, rfl, ?_⟩) 80599897418792 d h
        refine st_go 1 (pc' := 87) (lo' := [(0, .ref 42), (1, .int x1)]) (st' := [.ref 42]) rfl ?_
        refine st_callv (k' := 339) (as := [.ref 42]) (rest := []) (lo' := [(0, .ref 42)]) (wf := fun d => wR L d e) rfl rfl rfl ?_
        refine tMO_n (fun d_10 h => ⟨d_10, rfl, rfl, ?_⟩) d_9 h
        refine st_go 2 (pc' := 93) (lo' := [(0, .ref 42), (1, .int x1)]) (st' := [.int 41, .ref 42]) rfl ?_
        refine st_callv (k' := 328) (as := [.ref 42, .int 41]) (rest := []) (lo' := [(0, .ref 42), (1, .int 41)]) (wf := fun d => wR L d e) rfl rfl rfl ?_
        refine tMO_one (fun d_11 h => ⟨d_11, rfl, rfl, ?_⟩) 41 d_10 h
        refine st_go 1 (pc' := 140) (lo' := [(0, .ref 42), (1, .int x1)]) (st' := []) rfl ?_
        exact st_retV rfl rfl (hQ _ h)
      · have h := Eq.mp (if_neg hc_8) h
        by_cases hc_12 : x1 = 4
        · have h := Eq.mp (if_pos hc_12) h
          refine st_tab (t := 99) rfl (by rw [hc_12]; rfl) ?_
          refine st_go 2 (pc' := 103) (lo' := [(0, .ref 42), (1, .int x1)]) (st' := [.long 4996779144136108332, .ref 42]) rfl ?_
          refine st_callv (k' := 329) (as := [.ref 42, .long 4996779144136108332]) (rest := []) (lo' := [(0, .ref 42), (1, .long 4996779144136108332)]) (wf := fun d => wR L d e) rfl rfl rfl ?_
          refine tMO_say (fun d_13 h => ⟨d_13, rfl, rfl, ?_⟩) 4996779144136108332 d h
          refine st_go 1 (pc' := 107) (lo' := [(0, .ref 42), (1, .int x1)]) (st' := [.ref 42]) rfl ?_
          refine st_callv (k' := 332) (as := [.ref 42]) (rest := []) (lo' := [(0, .ref 42)]) (wf := fun d => wR L d e) rfl rfl rfl ?_
          refine tMO_indexName (fun d_14 h => ⟨d_14, rfl, rfl, ?_⟩) d_13 h
          refine st_go 1 (pc' := 140) (lo' := [(0, .ref 42), (1, .int x1)]) (st' := []) rfl ?_
          exact st_retV rfl rfl (hQ _ h)
        · have h := Eq.mp (if_neg hc_12) h
          by_cases hc_15 : x1 = 5
          · have h := Eq.mp (if_pos hc_15) h
            refine st_tab (t := 113) rfl (by rw [hc_15]; rfl) ?_
            refine st_go 2 (pc' := 117) (lo' := [(0, .ref 42), (1, .int x1)]) (st' := [.long 4996779264157960268, .ref 42]) rfl ?_
            refine st_callv (k' := 329) (as := [.ref 42, .long 4996779264157960268]) (rest := []) (lo' := [(0, .ref 42), (1, .long 4996779264157960268)]) (wf := fun d => wR L d e) rfl rfl rfl ?_
            refine tMO_say (fun d_16 h => ⟨d_16, rfl, rfl, ?_⟩) 4996779264157960268 d h
            refine st_go 1 (pc' := 140) (lo' := [(0, .ref 42), (1, .int x1)]) (st' := []) rfl ?_
            exact st_retV rfl rfl (hQ _ h)
          · have h := Eq.mp (if_neg hc_15) h
            by_cases hc_17 : x1 = 6
            · have h := Eq.mp (if_pos hc_17) h
              refine st_tab (t := 123) rfl (by rw [hc_17]; rfl) ?_
              refine st_go 2 (pc' := 127) (lo' := [(0, .ref 42), (1, .int x1)]) (st' := [.long 17481, .ref 42]) rfl ?_
              refine st_callv (k' := 329) (as := [.ref 42, .long 17481]) (rest := []) (lo' := [(0, .ref 42), (1, .long 17481)]) (wf := fun d => wR L d e) rfl rfl rfl ?_
              refine tMO_say (fun d_18 h => ⟨d_18, rfl, rfl, ?_⟩) 17481 d h
              refine st_go 1 (pc' := 140) (lo' := [(0, .ref 42), (1, .int x1)]) (st' := []) rfl ?_
              exact st_retV rfl rfl (hQ _ h)
            · have h := Eq.mp (if_neg hc_17) h
              refine st_tab (t := 133) rfl (tab_def rfl (by decide) rfl (by
                intro j hj hx
                have hj : j < 7 := hj
                rcases (j = 0 ∨ j = 1 ∨ j = 2 ∨ j = 3 ∨ j = 4 ∨ j = 5 ∨ j = 6 : Prop) |> fun _ => (show j = 0 ∨ j = 1 ∨ j = 2 ∨ j = 3 ∨ j = 4 ∨ j = 5 ∨ j = 6 by omega) with rfl | rfl | rfl | rfl | rfl | rfl | rfl <;> first | rfl | exact absurd hx hc_1 | exact absurd hx hc_4 | exact absurd hx hc_8 | exact absurd hx hc_12 | exact absurd hx hc_15 | exact absurd hx hc_17)) ?_
              refine st_go 2 (pc' := 137) (lo' := [(0, .ref 42), (1, .int x1)]) (st' := [.long 17737, .ref 42]) rfl ?_
              refine st_callv (k' := 329) (as := [.ref 42, .long 17737]) (rest := []) (lo' := [(0, .ref 42), (1, .long 17737)]) (wf := fun d => wR L d e) rfl rfl rfl ?_
              refine tMO_say (fun d_19 h => ⟨d_19, rfl, rfl, ?_⟩) 17737 d h
              exact st_retV rfl rfl (hQ _ h)
set_option maxRecDepth 100000 in
def MO_sumName_81 (s0 : Int64) (d : vmD) (Q : vmD → Prop) : Prop :=
  MO_say s0 d fun d_2 =>
  Q d_2
set_option maxRecDepth 100000 in
set_option maxHeartbeats 4000000 in
theorem tMO_sumName_81 {L : Nat} {e : vmD} {Qo : Option Value → vmW → Prop} {Q : vmD → Prop} (hQ : ∀ d, Q d → Qo none (wR L d e)) (s0 : Int64) (d : vmD) (h : MO_sumName_81 s0 d Q) : vmWp 336 81 [] [.long s0, .ref 42] (wR L d e) Qo := by
  unfold MO_sumName_81 at h
  refine st_callv (k' := 329) (as := [.ref 42, .long s0]) (rest := []) (lo' := [(0, .ref 42), (1, .long s0)]) (wf := fun d => wR L d e) rfl rfl rfl ?_
  refine tMO_say (fun d_2 h => ⟨d_2, rfl, rfl, ?_⟩) s0 d h
  exact st_retV rfl rfl (hQ _ h)
set_option maxRecDepth 100000 in
def MO_sumName (x1 : Int32) (d : vmD) (Q : vmD → Prop) : Prop :=
  if x1 = 0 then
  (MO_sumName_81 71761456546092 d Q)
  else
  (if x1 = 1 then
  (MO_sumName_81 71761439768876 d Q)
  else
  (if x1 = 2 then
  (MO_sumName_81 1398096416 d Q)
  else
  (if x1 = 3 then
  (MO_sumName_81 91544059134252 d Q)
  else
  (if x1 = 4 then
  (MO_sumName_81 1095648288 d Q)
  else
  (if x1 = 5 then
  (MO_sumName_81 1481593376 d Q)
  else
  (if x1 = 6 then
  (MO_sumName_81 5198368 d Q)
  else
  (MO_sumName_81 4411424 d Q)))))))
set_option maxRecDepth 100000 in
set_option maxHeartbeats 4000000 in
theorem tMO_sumName {L : Nat} {e : vmD} {Qo : Option Value → vmW → Prop} {Q : vmD → Prop} (hQ : ∀ d, Q d → Qo none (wR L d e)) (x1 : Int32) (d : vmD) (h : MO_sumName x1 d Q) : vmWp 336 0 [(0, .ref 42), (1, .int x1)] [] (wR L d e) Qo := by
  unfold MO_sumName at h
  refine st_go 2 (pc' := 2) (lo' := [(0, .ref 42), (1, .int x1)]) (st' := [.int x1, .ref 42]) rfl ?_
  by_cases hc_1 : x1 = 0
  · have h := Eq.mp (if_pos hc_1) h
    refine st_if (t := 5) (b := false) rfl (decide_eq_false (fun z => z hc_1)) rfl ?_
    refine st_go 2 (pc' := 81) (lo' := [(0, .ref 42), (1, .int x1)]) (st' := [.long 71761456546092, .ref 42]) rfl ?_
    refine vmWp.sub (lo' := []) trivial ?_
    exact tMO_sumName_81 hQ 71761456546092 d h
  · have h := Eq.mp (if_neg hc_1) h
    refine st_if (t := 11) (b := true) rfl (decide_eq_true hc_1) rfl ?_
    refine st_go 2 (pc' := 13) (lo' := [(0, .ref 42), (1, .int x1)]) (st' := [.int 1, .int x1, .ref 42]) rfl ?_
    by_cases hc_3 : x1 = 1
    · have h := Eq.mp (if_pos hc_3) h
      refine st_icmp (t := 16) (b := false) rfl (decide_eq_false (fun z => z hc_3)) rfl ?_
      refine st_go 2 (pc' := 81) (lo' := [(0, .ref 42), (1, .int x1)]) (st' := [.long 71761439768876, .ref 42]) rfl ?_
      refine vmWp.sub (lo' := []) trivial ?_
      exact tMO_sumName_81 hQ 71761439768876 d h
    · have h := Eq.mp (if_neg hc_3) h
      refine st_icmp (t := 22) (b := true) rfl (decide_eq_true hc_3) rfl ?_
      refine st_go 2 (pc' := 24) (lo' := [(0, .ref 42), (1, .int x1)]) (st' := [.int 2, .int x1, .ref 42]) rfl ?_
      by_cases hc_4 : x1 = 2
      · have h := Eq.mp (if_pos hc_4) h
        refine st_icmp (t := 27) (b := false) rfl (decide_eq_false (fun z => z hc_4)) rfl ?_
        refine st_go 2 (pc' := 81) (lo' := [(0, .ref 42), (1, .int x1)]) (st' := [.long 1398096416, .ref 42]) rfl ?_
        refine vmWp.sub (lo' := []) trivial ?_
        exact tMO_sumName_81 hQ 1398096416 d h
      · have h := Eq.mp (if_neg hc_4) h
        refine st_icmp (t := 33) (b := true) rfl (decide_eq_true hc_4) rfl ?_
        refine st_go 2 (pc' := 35) (lo' := [(0, .ref 42), (1, .int x1)]) (st' := [.int 3, .int x1, .ref 42]) rfl ?_
        by_cases hc_5 : x1 = 3
        · have h := Eq.mp (if_pos hc_5) h
          refine st_icmp (t := 38) (b := false) rfl (decide_eq_false (fun z => z hc_5)) rfl ?_
          refine st_go 2 (pc' := 81) (lo' := [(0, .ref 42), (1, .int x1)]) (st' := [.long 91544059134252, .ref 42]) rfl ?_
          refine vmWp.sub (lo' := []) trivial ?_
          exact tMO_sumName_81 hQ 91544059134252 d h
        · have h := Eq.mp (if_neg hc_5) h
          refine st_icmp (t := 44) (b := true) rfl (decide_eq_true hc_5) rfl ?_
          refine st_go 2 (pc' := 46) (lo' := [(0, .ref 42), (1, .int x1)]) (st' := [.int 4, .int x1, .ref 42]) rfl ?_
          by_cases hc_6 : x1 = 4
          · have h := Eq.mp (if_pos hc_6) h
            refine st_icmp (t := 49) (b := false) rfl (decide_eq_false (fun z => z hc_6)) rfl ?_
            refine st_go 2 (pc' := 81) (lo' := [(0, .ref 42), (1, .int x1)]) (st' := [.long 1095648288, .ref 42]) rfl ?_
            refine vmWp.sub (lo' := []) trivial ?_
            exact tMO_sumName_81 hQ 1095648288 d h
          · have h := Eq.mp (if_neg hc_6) h
            refine st_icmp (t := 55) (b := true) rfl (decide_eq_true hc_6) rfl ?_
            refine st_go 2 (pc' := 57) (lo' := [(0, .ref 42), (1, .int x1)]) (st' := [.int 5, .int x1, .ref 42]) rfl ?_
            by_cases hc_7 : x1 = 5
            · have h := Eq.mp (if_pos hc_7) h
              refine st_icmp (t := 60) (b := false) rfl (decide_eq_false (fun z => z hc_7)) rfl ?_
              refine st_go 2 (pc' := 81) (lo' := [(0, .ref 42), (1, .int x1)]) (st' := [.long 1481593376, .ref 42]) rfl ?_
              refine vmWp.sub (lo' := []) trivial ?_
              exact tMO_sumName_81 hQ 1481593376 d h
            · have h := Eq.mp (if_neg hc_7) h
              refine st_icmp (t := 66) (b := true) rfl (decide_eq_true hc_7) rfl ?_
              refine st_go 2 (pc' := 69) (lo' := [(0, .ref 42), (1, .int x1)]) (st' := [.int 6, .int x1, .ref 42]) rfl ?_
              by_cases hc_8 : x1 = 6
              · have h := Eq.mp (if_pos hc_8) h
                refine st_icmp (t := 72) (b := false) rfl (decide_eq_false (fun z => z hc_8)) rfl ?_
                refine st_go 2 (pc' := 81) (lo' := [(0, .ref 42), (1, .int x1)]) (st' := [.long 5198368, .ref 42]) rfl ?_
                refine vmWp.sub (lo' := []) trivial ?_
                exact tMO_sumName_81 hQ 5198368 d h
              · have h := Eq.mp (if_neg hc_8) h
                refine st_icmp (t := 78) (b := true) rfl (decide_eq_true hc_8) rfl ?_
                refine st_go 1 (pc' := 81) (lo' := [(0, .ref 42), (1, .int x1)]) (st' := [.long 4411424, .ref 42]) rfl ?_
                refine vmWp.sub (lo' := []) trivial ?_
                exact tMO_sumName_81 hQ 4411424 d h
set_option maxRecDepth 100000 in
def MO_writeLast_135 (s0 : Int64) (d : vmD) (Q : vmD → Prop) : Prop :=
  MO_say s0 d fun d_14 =>
  Q d_14
set_option maxRecDepth 100000 in
set_option maxHeartbeats 4000000 in
theorem tMO_writeLast_135 {L : Nat} {e : vmD} {Qo : Option Value → vmW → Prop} {Q : vmD → Prop} (hQ : ∀ d, Q d → Qo none (wR L d e)) (s0 : Int64) (d : vmD) (h : MO_writeLast_135 s0 d Q) : vmWp 343 135 [] [.long s0, .ref 42] (wR L d e) Qo := by
  unfold MO_writeLast_135 at h
  refine st_callv (k' := 329) (as := [.ref 42, .long s0]) (rest := []) (lo' := [(0, .ref 42), (1, .long s0)]) (wf := fun d => wR L d e) rfl rfl rfl ?_
  refine tMO_say (fun d_14 h => ⟨d_14, rfl, rfl, ?_⟩) s0 d h
  refine st_go 1 (pc' := 290) (lo' := []) (st' := []) rfl ?_
  exact st_retV rfl rfl (hQ _ h)
set_option maxRecDepth 100000 in
def MO_writeLast_202 (x1 : Int32) (d : vmD) (Q : vmD → Prop) : Prop :=
  MO_conditionName x1 d fun d_24 =>
  MO_one 44 d_24 fun d_25 =>
  MO_m d_25 fun d_26 =>
  Q d_26
set_option maxRecDepth 100000 in
set_option maxHeartbeats 4000000 in
theorem tMO_writeLast_202 {L : Nat} {e : vmD} {Qo : Option Value → vmW → Prop} {Q : vmD → Prop} (hQ : ∀ d, Q d → Qo none (wR L d e)) (x1 : Int32) (d : vmD) (h : MO_writeLast_202 x1 d Q) : vmWp 343 202 [(0, .ref 42), (1, .int x1)] [] (wR L d e) Qo := by
  unfold MO_writeLast_202 at h
  refine st_go 2 (pc' := 204) (lo' := [(0, .ref 42), (1, .int x1)]) (st' := [.int x1, .ref 42]) rfl ?_
  refine st_callv (k' := 335) (as := [.ref 42, .int x1]) (rest := []) (lo' := [(0, .ref 42), (1, .int x1)]) (wf := fun d => wR L d e) rfl rfl rfl ?_
  refine tMO_conditionName (fun d_24 h => ⟨d_24, rfl, rfl, ?_⟩) x1 d h
  refine st_go 2 (pc' := 210) (lo' := [(0, .ref 42), (1, .int x1)]) (st' := [.int 44, .ref 42]) rfl ?_
  refine st_callv (k' := 328) (as := [.ref 42, .int 44]) (rest := []) (lo' := [(0, .ref 42), (1, .int 44)]) (wf := fun d => wR L d e) rfl rfl rfl ?_
  refine tMO_one (fun d_25 h => ⟨d_25, rfl, rfl, ?_⟩) 44 d_24 h
  refine st_go 1 (pc' := 214) (lo' := [(0, .ref 42), (1, .int x1)]) (st' := [.ref 42]) rfl ?_
  refine st_callv (k' := 337) (as := [.ref 42]) (rest := []) (lo' := [(0, .ref 42)]) (wf := fun d => wR L d e) rfl rfl rfl ?_
  refine tMO_m (fun d_26 h => ⟨d_26, rfl, rfl, ?_⟩) d_25 h
  refine st_go 1 (pc' := 290) (lo' := [(0, .ref 42), (1, .int x1)]) (st' := []) rfl ?_
  exact st_retV rfl rfl (hQ _ h)
set_option maxRecDepth 100000 in
def MO_writeLast_34 (x1 : Int32) (x2 : Int32) (x3 : Int32) (s0 : Int32) (d : vmD) (Q : vmD → Prop) : Prop :=
  if x2 = 0 then
  (MO_say 1380275232 d fun d_6 =>
  MO_conditionName x1 d_6 fun d_7 =>
  Q d_7)
  else
  if x2 = 1 then
  (if s0 = 0 then
  (MO_say 1347375136 d fun d_10 =>
  MO_pairName x3 1 d_10 fun d_11 =>
  Q d_11)
  else
  (if x3 < 2 then
  (if x3 = 0 then
  (MO_writeLast_135 5391700 d Q)
  else
  (MO_writeLast_135 4544600 d Q))
  else
  (if x3 = 2 then
  (MO_say 1246765096 d fun d_16 =>
  MO_indexName d_16 fun d_17 =>
  MO_one 41 d_17 fun d_18 =>
  Q d_18)
  else
  (MO_say 83855483818028 d fun d_19 =>
  MO_indexName d_19 fun d_20 =>
  Q d_20))))
  else
  if x2 = 2 then
  (if x2 = 2 then
  (MO_say 4870176 d fun d_23 =>
  MO_writeLast_202 x1 d_23 Q)
  else
  (MO_say 288858328096 d fun d_27 =>
  MO_writeLast_202 x1 d_27 Q))
  else
  if x2 = 3 then
  (MO_writeThird x1 d fun d_29 =>
  Q d_29)
  else
  if x2 = 4 then
  (if x2 = 2 then
  (MO_say 4870176 d fun d_32 =>
  MO_writeLast_202 x1 d_32 Q)
  else
  (MO_say 288858328096 d fun d_33 =>
  MO_writeLast_202 x1 d_33 Q))
  else
  if x2 = 5 then
  (if s0 = 0 then
  (MO_say 345028904992 d fun d_36 =>
  MO_pairName x3 1 d_36 fun d_37 =>
  Q d_37)
  else
  (MO_say 288858328096 d fun d_38 =>
  MO_m d_38 fun d_39 =>
  Q d_39))
  else
  if x2 = 6 then
  (MO_sumName x1 d fun d_41 =>
  MO_n d_41 fun d_42 =>
  Q d_42)
  else
  (MO_say 1381192736 d fun d_43 =>
  MO_number ((8 : Int32) * x1) d_43 fun d_44 =>
  Q d_44)
set_option maxRecDepth 100000 in
set_option maxHeartbeats 4000000 in
theorem tMO_writeLast_34 {L : Nat} {e : vmD} {Qo : Option Value → vmW → Prop} {Q : vmD → Prop} (hQ : ∀ d, Q d → Qo none (wR L d e)) (x1 : Int32) (x2 : Int32) (x3 : Int32) (s0 : Int32) (d : vmD) (h : MO_writeLast_34 x1 x2 x3 s0 d Q) : vmWp 343 34 [(0, .ref 42), (1, .int x1), (2, .int x2), (3, .int x3)] [.int s0] (wR L d e) Qo := by
  unfold MO_writeLast_34 at h
  refine st_go 2 (pc' := 37) (lo' := [(4, .int s0), (0, .ref 42), (1, .int x1), (2, .int x2), (3, .int x3)]) (st' := [.int x2]) rfl ?_
  by_cases hc_5 : x2 = 0
  · have h := Eq.mp (if_pos hc_5) h
    refine st_tab (t := 80) rfl (by rw [hc_5]; rfl) ?_
    refine st_go 2 (pc' := 84) (lo' := [(4, .int s0), (0, .ref 42), (1, .int x1), (2, .int x2), (3, .int x3)]) (st' := [.long 1380275232, .ref 42]) rfl ?_
    refine st_callv (k' := 329) (as := [.ref 42, .long 1380275232]) (rest := []) (lo' := [(0, .ref 42), (1, .long 1380275232)]) (wf := fun d => wR L d e) rfl rfl rfl ?_
    refine tMO_say (fun d_6 h => ⟨d_6, rfl, rfl, ?_⟩) 1380275232 d h
    refine st_go 2 (pc' := 89) (lo' := [(4, .int s0), (0, .ref 42), (1, .int x1), (2, .int x2), (3, .int x3)]) (st' := [.int x1, .ref 42]) rfl ?_
    refine st_callv (k' := 335) (as := [.ref 42, .int x1]) (rest := []) (lo' := [(0, .ref 42), (1, .int x1)]) (wf := fun d => wR L d e) rfl rfl rfl ?_
    refine tMO_conditionName (fun d_7 h => ⟨d_7, rfl, rfl, ?_⟩) x1 d_6 h
    refine st_go 1 (pc' := 290) (lo' := [(4, .int s0), (0, .ref 42), (1, .int x1), (2, .int x2), (3, .int x3)]) (st' := []) rfl ?_
    exact st_retV rfl rfl (hQ _ h)
  · have h := Eq.mp (if_neg hc_5) h
    by_cases hc_8 : x2 = 1
    · have h := Eq.mp (if_pos hc_8) h
      refine st_tab (t := 95) rfl (by rw [hc_8]; rfl) ?_
      refine st_go 1 (pc' := 97) (lo' := [(4, .int s0), (0, .ref 42), (1, .int x1), (2, .int x2), (3, .int x3)]) (st' := [.int s0]) rfl ?_
      by_cases hc_9 : s0 = 0
      · have h := Eq.mp (if_pos hc_9) h
        refine st_if (t := 100) (b := false) rfl (decide_eq_false (fun z => z hc_9)) rfl ?_
        refine st_go 2 (pc' := 104) (lo' := [(4, .int s0), (0, .ref 42), (1, .int x1), (2, .int x2), (3, .int x3)]) (st' := [.long 1347375136, .ref 42]) rfl ?_
        refine st_callv (k' := 329) (as := [.ref 42, .long 1347375136]) (rest := []) (lo' := [(0, .ref 42), (1, .long 1347375136)]) (wf := fun d => wR L d e) rfl rfl rfl ?_
        refine tMO_say (fun d_10 h => ⟨d_10, rfl, rfl, ?_⟩) 1347375136 d h
        refine st_go 3 (pc' := 110) (lo' := [(4, .int s0), (0, .ref 42), (1, .int x1), (2, .int x2), (3, .int x3)]) (st' := [.int 1, .int x3, .ref 42]) rfl ?_
        refine st_callv (k' := 334) (as := [.ref 42, .int x3, .int 1]) (rest := []) (lo' := [(0, .ref 42), (1, .int x3), (2, .int 1)]) (wf := fun d => wR L d e) rfl rfl rfl ?_
        refine tMO_pairName (fun d_11 h => ⟨d_11, rfl, rfl, ?_⟩) x3 1 d_10 h
        refine st_go 1 (pc' := 290) (lo' := [(4, .int s0), (0, .ref 42), (1, .int x1), (2, .int x2), (3, .int x3)]) (st' := []) rfl ?_
        exact st_retV rfl rfl (hQ _ h)
      · have h := Eq.mp (if_neg hc_9) h
        refine st_if (t := 116) (b := true) rfl (decide_eq_true hc_9) rfl ?_
        refine st_go 2 (pc' := 118) (lo' := [(4, .int s0), (0, .ref 42), (1, .int x1), (2, .int x2), (3, .int x3)]) (st' := [.int 2, .int x3]) rfl ?_
        by_cases hc_12 : x3 < 2
        · have h := Eq.mp (if_pos hc_12) h
          refine st_icmp (t := 121) (b := false) rfl (decide_eq_false (Int32.not_le.mpr hc_12)) rfl ?_
          refine st_go 2 (pc' := 123) (lo' := [(4, .int s0), (0, .ref 42), (1, .int x1), (2, .int x2), (3, .int x3)]) (st' := [.int x3, .ref 42]) rfl ?_
          by_cases hc_13 : x3 = 0
          · have h := Eq.mp (if_pos hc_13) h
            refine st_if (t := 126) (b := false) rfl (decide_eq_false (fun z => z hc_13)) rfl ?_
            refine st_go 2 (pc' := 135) (lo' := [(4, .int s0), (0, .ref 42), (1, .int x1), (2, .int x2), (3, .int x3)]) (st' := [.long 5391700, .ref 42]) rfl ?_
            refine vmWp.sub (lo' := []) trivial ?_
            exact tMO_writeLast_135 hQ 5391700 d h
          · have h := Eq.mp (if_neg hc_13) h
            refine st_if (t := 132) (b := true) rfl (decide_eq_true hc_13) rfl ?_
            refine st_go 1 (pc' := 135) (lo' := [(4, .int s0), (0, .ref 42), (1, .int x1), (2, .int x2), (3, .int x3)]) (st' := [.long 4544600, .ref 42]) rfl ?_
            refine vmWp.sub (lo' := []) trivial ?_
            exact tMO_writeLast_135 hQ 4544600 d h
        · have h := Eq.mp (if_neg hc_12) h
          refine st_icmp (t := 141) (b := true) rfl (decide_eq_true (Int32.not_lt.mp hc_12)) rfl ?_
          refine st_go 2 (pc' := 143) (lo' := [(4, .int s0), (0, .ref 42), (1, .int x1), (2, .int x2), (3, .int x3)]) (st' := [.int 2, .int x3]) rfl ?_
          by_cases hc_15 : x3 = 2
          · have h := Eq.mp (if_pos hc_15) h
            refine st_icmp (t := 146) (b := false) rfl (decide_eq_false (fun z => z hc_15)) rfl ?_
            refine st_go 2 (pc' := 150) (lo' := [(4, .int s0), (0, .ref 42), (1, .int x1), (2, .int x2), (3, .int x3)]) (st' := [.long 1246765096, .ref 42]) rfl ?_
            refine st_callv (k' := 329) (as := [.ref 42, .long 1246765096]) (rest := []) (lo' := [(0, .ref 42), (1, .long 1246765096)]) (wf := fun d => wR L d e) rfl rfl rfl ?_
            refine tMO_say (fun d_16 h => ⟨d_16, rfl, rfl, ?_⟩) 1246765096 d h
            refine st_go 1 (pc' := 154) (lo' := [(4, .int s0), (0, .ref 42), (1, .int x1), (2, .int x2), (3, .int x3)]) (st' := [.ref 42]) rfl ?_
            refine st_callv (k' := 332) (as := [.ref 42]) (rest := []) (lo' := [(0, .ref 42)]) (wf := fun d => wR L d e) rfl rfl rfl ?_
            refine tMO_indexName (fun d_17 h => ⟨d_17, rfl, rfl, ?_⟩) d_16 h
            refine st_go 2 (pc' := 160) (lo' := [(4, .int s0), (0, .ref 42), (1, .int x1), (2, .int x2), (3, .int x3)]) (st' := [.int 41, .ref 42]) rfl ?_
            refine st_callv (k' := 328) (as := [.ref 42, .int 41]) (rest := []) (lo' := [(0, .ref 42), (1, .int 41)]) (wf := fun d => wR L d e) rfl rfl rfl ?_
            refine tMO_one (fun d_18 h => ⟨d_18, rfl, rfl, ?_⟩) 41 d_17 h
            refine st_go 1 (pc' := 290) (lo' := [(4, .int s0), (0, .ref 42), (1, .int x1), (2, .int x2), (3, .int x3)]) (st' := []) rfl ?_
            exact st_retV rfl rfl (hQ _ h)
          · have h := Eq.mp (if_neg hc_15) h
            refine st_icmp (t := 166) (b := true) rfl (decide_eq_true hc_15) rfl ?_
            refine st_go 2 (pc' := 170) (lo' := [(4, .int s0), (0, .ref 42), (1, .int x1), (2, .int x2), (3, .int x3)]) (st' := [.long 83855483818028, .ref 42]) rfl ?_
            refine st_callv (k' := 329) (as := [.ref 42, .long 83855483818028]) (rest := []) (lo' := [(0, .ref 42), (1, .long 83855483818028)]) (wf := fun d => wR L d e) rfl rfl rfl ?_
            refine tMO_say (fun d_19 h => ⟨d_19, rfl, rfl, ?_⟩) 83855483818028 d h
            refine st_go 1 (pc' := 174) (lo' := [(4, .int s0), (0, .ref 42), (1, .int x1), (2, .int x2), (3, .int x3)]) (st' := [.ref 42]) rfl ?_
            refine st_callv (k' := 332) (as := [.ref 42]) (rest := []) (lo' := [(0, .ref 42)]) (wf := fun d => wR L d e) rfl rfl rfl ?_
            refine tMO_indexName (fun d_20 h => ⟨d_20, rfl, rfl, ?_⟩) d_19 h
            refine st_go 1 (pc' := 290) (lo' := [(4, .int s0), (0, .ref 42), (1, .int x1), (2, .int x2), (3, .int x3)]) (st' := []) rfl ?_
            exact st_retV rfl rfl (hQ _ h)
    · have h := Eq.mp (if_neg hc_8) h
      by_cases hc_21 : x2 = 2
      · have h := Eq.mp (if_pos hc_21) h
        refine st_tab (t := 180) rfl (by rw [hc_21]; rfl) ?_
        refine st_go 2 (pc' := 182) (lo' := [(4, .int s0), (0, .ref 42), (1, .int x1), (2, .int x2), (3, .int x3)]) (st' := [.int 2, .int x2]) rfl ?_
        by_cases hc_22 : x2 = 2
        · have h := Eq.mp (if_pos hc_22) h
          refine st_icmp (t := 185) (b := false) rfl (decide_eq_false (fun z => z hc_22)) rfl ?_
          refine st_go 2 (pc' := 189) (lo' := [(4, .int s0), (0, .ref 42), (1, .int x1), (2, .int x2), (3, .int x3)]) (st' := [.long 4870176, .ref 42]) rfl ?_
          refine st_callv (k' := 329) (as := [.ref 42, .long 4870176]) (rest := []) (lo' := [(0, .ref 42), (1, .long 4870176)]) (wf := fun d => wR L d e) rfl rfl rfl ?_
          refine tMO_say (fun d_23 h => ⟨d_23, rfl, rfl, ?_⟩) 4870176 d h
          refine st_go 1 (pc' := 202) (lo' := [(4, .int s0), (0, .ref 42), (1, .int x1), (2, .int x2), (3, .int x3)]) (st' := []) rfl ?_
          refine vmWp.sub (lo' := [(0, .ref 42), (1, .int x1)]) ⟨rfl, rfl, trivial⟩ ?_
          exact tMO_writeLast_202 hQ x1 d_23 h
        · have h := Eq.mp (if_neg hc_22) h
          refine st_icmp (t := 195) (b := true) rfl (decide_eq_true hc_22) rfl ?_
          refine st_go 2 (pc' := 199) (lo' := [(4, .int s0), (0, .ref 42), (1, .int x1), (2, .int x2), (3, .int x3)]) (st' := [.long 288858328096, .ref 42]) rfl ?_
          refine st_callv (k' := 329) (as := [.ref 42, .long 288858328096]) (rest := []) (lo' := [(0, .ref 42), (1, .long 288858328096)]) (wf := fun d => wR L d e) rfl rfl rfl ?_
          refine tMO_say (fun d_27 h => ⟨d_27, rfl, rfl, ?_⟩) 288858328096 d h
          refine vmWp.sub (lo' := [(0, .ref 42), (1, .int x1)]) ⟨rfl, rfl, trivial⟩ ?_
          exact tMO_writeLast_202 hQ x1 d_27 h
      · have h := Eq.mp (if_neg hc_21) h
        by_cases hc_28 : x2 = 3
        · have h := Eq.mp (if_pos hc_28) h
          refine st_tab (t := 220) rfl (by rw [hc_28]; rfl) ?_
          refine st_go 2 (pc' := 222) (lo' := [(4, .int s0), (0, .ref 42), (1, .int x1), (2, .int x2), (3, .int x3)]) (st' := [.int x1, .ref 42]) rfl ?_
          refine st_callv (k' := 344) (as := [.ref 42, .int x1]) (rest := []) (lo' := [(0, .ref 42), (1, .int x1)]) (wf := fun d => wR L d e) rfl rfl rfl ?_
          refine tMO_writeThird (fun d_29 h => ⟨d_29, rfl, rfl, ?_⟩) x1 d h
          refine st_go 1 (pc' := 290) (lo' := [(4, .int s0), (0, .ref 42), (1, .int x1), (2, .int x2), (3, .int x3)]) (st' := []) rfl ?_
          exact st_retV rfl rfl (hQ _ h)
        · have h := Eq.mp (if_neg hc_28) h
          by_cases hc_30 : x2 = 4
          · have h := Eq.mp (if_pos hc_30) h
            refine st_tab (t := 180) rfl (by rw [hc_30]; rfl) ?_
            refine st_go 2 (pc' := 182) (lo' := [(4, .int s0), (0, .ref 42), (1, .int x1), (2, .int x2), (3, .int x3)]) (st' := [.int 2, .int x2]) rfl ?_
            by_cases hc_31 : x2 = 2
            · have h := Eq.mp (if_pos hc_31) h
              refine st_icmp (t := 185) (b := false) rfl (decide_eq_false (fun z => z hc_31)) rfl ?_
              refine st_go 2 (pc' := 189) (lo' := [(4, .int s0), (0, .ref 42), (1, .int x1), (2, .int x2), (3, .int x3)]) (st' := [.long 4870176, .ref 42]) rfl ?_
              refine st_callv (k' := 329) (as := [.ref 42, .long 4870176]) (rest := []) (lo' := [(0, .ref 42), (1, .long 4870176)]) (wf := fun d => wR L d e) rfl rfl rfl ?_
              refine tMO_say (fun d_32 h => ⟨d_32, rfl, rfl, ?_⟩) 4870176 d h
              refine st_go 1 (pc' := 202) (lo' := [(4, .int s0), (0, .ref 42), (1, .int x1), (2, .int x2), (3, .int x3)]) (st' := []) rfl ?_
              refine vmWp.sub (lo' := [(0, .ref 42), (1, .int x1)]) ⟨rfl, rfl, trivial⟩ ?_
              exact tMO_writeLast_202 hQ x1 d_32 h
            · have h := Eq.mp (if_neg hc_31) h
              refine st_icmp (t := 195) (b := true) rfl (decide_eq_true hc_31) rfl ?_
              refine st_go 2 (pc' := 199) (lo' := [(4, .int s0), (0, .ref 42), (1, .int x1), (2, .int x2), (3, .int x3)]) (st' := [.long 288858328096, .ref 42]) rfl ?_
              refine st_callv (k' := 329) (as := [.ref 42, .long 288858328096]) (rest := []) (lo' := [(0, .ref 42), (1, .long 288858328096)]) (wf := fun d => wR L d e) rfl rfl rfl ?_
              refine tMO_say (fun d_33 h => ⟨d_33, rfl, rfl, ?_⟩) 288858328096 d h
              refine vmWp.sub (lo' := [(0, .ref 42), (1, .int x1)]) ⟨rfl, rfl, trivial⟩ ?_
              exact tMO_writeLast_202 hQ x1 d_33 h
          · have h := Eq.mp (if_neg hc_30) h
            by_cases hc_34 : x2 = 5
            · have h := Eq.mp (if_pos hc_34) h
              refine st_tab (t := 228) rfl (by rw [hc_34]; rfl) ?_
              refine st_go 1 (pc' := 230) (lo' := [(4, .int s0), (0, .ref 42), (1, .int x1), (2, .int x2), (3, .int x3)]) (st' := [.int s0]) rfl ?_
              by_cases hc_35 : s0 = 0
              · have h := Eq.mp (if_pos hc_35) h
                refine st_if (t := 247) (b := true) rfl (decide_eq_true hc_35) rfl ?_
                refine st_go 2 (pc' := 251) (lo' := [(4, .int s0), (0, .ref 42), (1, .int x1), (2, .int x2), (3, .int x3)]) (st' := [.long 345028904992, .ref 42]) rfl ?_
                refine st_callv (k' := 329) (as := [.ref 42, .long 345028904992]) (rest := []) (lo' := [(0, .ref 42), (1, .long 345028904992)]) (wf := fun d => wR L d e) rfl rfl rfl ?_
                refine tMO_say (fun d_36 h => ⟨d_36, rfl, rfl, ?_⟩) 345028904992 d h
                refine st_go 3 (pc' := 257) (lo' := [(4, .int s0), (0, .ref 42), (1, .int x1), (2, .int x2), (3, .int x3)]) (st' := [.int 1, .int x3, .ref 42]) rfl ?_
                refine st_callv (k' := 334) (as := [.ref 42, .int x3, .int 1]) (rest := []) (lo' := [(0, .ref 42), (1, .int x3), (2, .int 1)]) (wf := fun d => wR L d e) rfl rfl rfl ?_
                refine tMO_pairName (fun d_37 h => ⟨d_37, rfl, rfl, ?_⟩) x3 1 d_36 h
                refine st_go 1 (pc' := 290) (lo' := [(4, .int s0), (0, .ref 42), (1, .int x1), (2, .int x2), (3, .int x3)]) (st' := []) rfl ?_
                exact st_retV rfl rfl (hQ _ h)
              · have h := Eq.mp (if_neg hc_35) h
                refine st_if (t := 233) (b := false) rfl (decide_eq_false hc_35) rfl ?_
                refine st_go 2 (pc' := 237) (lo' := [(4, .int s0), (0, .ref 42), (1, .int x1), (2, .int x2), (3, .int x3)]) (st' := [.long 288858328096, .ref 42]) rfl ?_
                refine st_callv (k' := 329) (as := [.ref 42, .long 288858328096]) (rest := []) (lo' := [(0, .ref 42), (1, .long 288858328096)]) (wf := fun d => wR L d e) rfl rfl rfl ?_
                refine tMO_say (fun d_38 h => ⟨d_38, rfl, rfl, ?_⟩) 288858328096 d h
                refine st_go 1 (pc' := 241) (lo' := [(4, .int s0), (0, .ref 42), (1, .int x1), (2, .int x2), (3, .int x3)]) (st' := [.ref 42]) rfl ?_
                refine st_callv (k' := 337) (as := [.ref 42]) (rest := []) (lo' := [(0, .ref 42)]) (wf := fun d => wR L d e) rfl rfl rfl ?_
                refine tMO_m (fun d_39 h => ⟨d_39, rfl, rfl, ?_⟩) d_38 h
                refine st_go 1 (pc' := 290) (lo' := [(4, .int s0), (0, .ref 42), (1, .int x1), (2, .int x2), (3, .int x3)]) (st' := []) rfl ?_
                exact st_retV rfl rfl (hQ _ h)
            · have h := Eq.mp (if_neg hc_34) h
              by_cases hc_40 : x2 = 6
              · have h := Eq.mp (if_pos hc_40) h
                refine st_tab (t := 263) rfl (by rw [hc_40]; rfl) ?_
                refine st_go 2 (pc' := 265) (lo' := [(4, .int s0), (0, .ref 42), (1, .int x1), (2, .int x2), (3, .int x3)]) (st' := [.int x1, .ref 42]) rfl ?_
                refine st_callv (k' := 336) (as := [.ref 42, .int x1]) (rest := []) (lo' := [(0, .ref 42), (1, .int x1)]) (wf := fun d => wR L d e) rfl rfl rfl ?_
                refine tMO_sumName (fun d_41 h => ⟨d_41, rfl, rfl, ?_⟩) x1 d h
                refine st_go 1 (pc' := 269) (lo' := [(4, .int s0), (0, .ref 42), (1, .int x1), (2, .int x2), (3, .int x3)]) (st' := [.ref 42]) rfl ?_
                refine st_callv (k' := 339) (as := [.ref 42]) (rest := []) (lo' := [(0, .ref 42)]) (wf := fun d => wR L d e) rfl rfl rfl ?_
                refine tMO_n (fun d_42 h => ⟨d_42, rfl, rfl, ?_⟩) d_41 h
                refine st_go 1 (pc' := 290) (lo' := [(4, .int s0), (0, .ref 42), (1, .int x1), (2, .int x2), (3, .int x3)]) (st' := []) rfl ?_
                exact st_retV rfl rfl (hQ _ h)
              · have h := Eq.mp (if_neg hc_40) h
                refine st_tab (t := 275) rfl (tab_def rfl (by decide) rfl (by
                  intro j hj hx
                  have hj : j < 7 := hj
                  rcases (j = 0 ∨ j = 1 ∨ j = 2 ∨ j = 3 ∨ j = 4 ∨ j = 5 ∨ j = 6 : Prop) |> fun _ => (show j = 0 ∨ j = 1 ∨ j = 2 ∨ j = 3 ∨ j = 4 ∨ j = 5 ∨ j = 6 by omega) with rfl | rfl | rfl | rfl | rfl | rfl | rfl <;> first | rfl | exact absurd hx hc_5 | exact absurd hx hc_8 | exact absurd hx hc_21 | exact absurd hx hc_28 | exact absurd hx hc_30 | exact absurd hx hc_34 | exact absurd hx hc_40)) ?_
                refine st_go 2 (pc' := 279) (lo' := [(4, .int s0), (0, .ref 42), (1, .int x1), (2, .int x2), (3, .int x3)]) (st' := [.long 1381192736, .ref 42]) rfl ?_
                refine st_callv (k' := 329) (as := [.ref 42, .long 1381192736]) (rest := []) (lo' := [(0, .ref 42), (1, .long 1381192736)]) (wf := fun d => wR L d e) rfl rfl rfl ?_
                refine tMO_say (fun d_43 h => ⟨d_43, rfl, rfl, ?_⟩) 1381192736 d h
                refine st_go 4 (pc' := 287) (lo' := [(4, .int s0), (0, .ref 42), (1, .int x1), (2, .int x2), (3, .int x3)]) (st' := [.int ((8 : Int32) * x1), .ref 42]) rfl ?_
                refine st_callv (k' := 330) (as := [.ref 42, .int ((8 : Int32) * x1)]) (rest := []) (lo' := [(0, .ref 42), (1, .int ((8 : Int32) * x1))]) (wf := fun d => wR L d e) rfl rfl rfl ?_
                refine tMO_number (fun d_44 h => ⟨d_44, rfl, rfl, ?_⟩) ((8 : Int32) * x1) d_43 h
                exact st_retV rfl rfl (hQ _ h)
set_option maxRecDepth 100000 in
def MO_writeLast (d : vmD) (Q : vmD → Prop) : Prop :=
  bnd (((gF d 42 61) >>> ((3 : Int32) &&& 31)) &&& 7) fun x1_1 =>
  bnd ((gF d 42 61) &&& 7) fun x2_2 =>
  bnd (x1_1 >>> ((1 : Int32) &&& 31)) fun x3_3 =>
  if (x1_1 &&& 1) = 1 then
  (MO_writeLast_34 x1_1 x2_2 x3_3 1 d Q)
  else
  (MO_writeLast_34 x1_1 x2_2 x3_3 0 d Q)
set_option maxRecDepth 100000 in
set_option maxHeartbeats 4000000 in
theorem tMO_writeLast {L : Nat} {e : vmD} {Qo : Option Value → vmW → Prop} {Q : vmD → Prop} (hQ : ∀ d, Q d → Qo none (wR L d e)) (d : vmD) (h : MO_writeLast d Q) : vmWp 343 0 [(0, .ref 42)] [] (wR L d e) Qo := by
  unfold MO_writeLast at h
  refine st_go 7 (pc' := 10) (lo' := [(1, .int (((gF d 42 61) >>> ((3 : Int32) &&& 31)) &&& 7)), (0, .ref 42)]) (st' := []) rfl ?_
  refine st_locI (fun x1_1 hy_x1_1 => ?_)
  have h := h x1_1 hy_x1_1
  refine st_go 5 (pc' := 18) (lo' := [(2, .int ((gF d 42 61) &&& 7)), (1, .int x1_1), (0, .ref 42)]) (st' := []) rfl ?_
  refine st_locI (fun x2_2 hy_x2_2 => ?_)
  have h := h x2_2 hy_x2_2
  refine st_go 4 (pc' := 22) (lo' := [(3, .int (x1_1 >>> ((1 : Int32) &&& 31))), (2, .int x2_2), (1, .int x1_1), (0, .ref 42)]) (st' := []) rfl ?_
  refine st_locI (fun x3_3 hy_x3_3 => ?_)
  have h := h x3_3 hy_x3_3
  refine st_go 4 (pc' := 26) (lo' := [(3, .int x3_3), (2, .int x2_2), (1, .int x1_1), (0, .ref 42)]) (st' := [.int 1, .int (x1_1 &&& 1)]) rfl ?_
  by_cases hc_4 : (x1_1 &&& 1) = 1
  · have h := Eq.mp (if_pos hc_4) h
    refine st_icmp (t := 29) (b := false) rfl (decide_eq_false (fun z => z hc_4)) rfl ?_
    refine st_go 2 (pc' := 34) (lo' := [(3, .int x3_3), (2, .int x2_2), (1, .int x1_1), (0, .ref 42)]) (st' := [.int 1]) rfl ?_
    refine vmWp.sub (lo' := [(0, .ref 42), (1, .int x1_1), (2, .int x2_2), (3, .int x3_3)]) ⟨rfl, rfl, rfl, rfl, trivial⟩ ?_
    exact tMO_writeLast_34 hQ x1_1 x2_2 x3_3 1 d h
  · have h := Eq.mp (if_neg hc_4) h
    refine st_icmp (t := 33) (b := true) rfl (decide_eq_true hc_4) rfl ?_
    refine st_go 1 (pc' := 34) (lo' := [(3, .int x3_3), (2, .int x2_2), (1, .int x1_1), (0, .ref 42)]) (st' := [.int 0]) rfl ?_
    refine vmWp.sub (lo' := [(0, .ref 42), (1, .int x1_1), (2, .int x2_2), (3, .int x3_3)]) ⟨rfl, rfl, rfl, rfl, trivial⟩ ?_
    exact tMO_writeLast_34 hQ x1_1 x2_2 x3_3 0 d h
