/-! The families at a decoded code -/
def Dec (c r : vmD) (x b : Int32) (g k : Nat) : Prop := Rel c r ∧ gF r 42 59 = i3V g ∧ gF r 42 60 = nI (ixV g) ∧ gF r 42 61 = nI k ∧ (nearV (256 * g + k) = true → gF c 19 8 = gF r 42 62) ∧ gF c 19 9 = nuV (nkV (256 * g + k)) b (nI k) r ∧ (¬ i3V g = 1 → b = gF r 42 64) ∧ (g = 0 → zV g k = 2 → gF r 42 76 = (gF r 42 64 + 1) &&& 65535) ∧ wrd x
def ExAt (c r : vmD) (x : Int32) (g k : Nat) : Prop := ExOk (wV (256 * g + k)) (fV (256 * g + k)) (eV (256 * g + k)) x c r
theorem nu36 (b op : Int32) (r : vmD) : nuV 36 b op r = rb r b := by simp (config := { decide := true }) only [nuV, if_true, if_false]
theorem nu42 (b op : Int32) (r : vmD) : nuV 42 b op r = rb r b := by simp (config := { decide := true }) only [nuV, if_true, if_false]
theorem nu37 (b op : Int32) (r : vmD) : nuV 37 b op r = rw2 r b := by simp (config := { decide := true }) only [nuV, if_true, if_false]
theorem nu43 (b op : Int32) (r : vmD) : nuV 43 b op r = rw2 r b := by simp (config := { decide := true }) only [nuV, if_true, if_false]
theorem nu38 (b op : Int32) (r : vmD) : nuV 38 b op r = ((b + 1) + (Int8.toInt32 (Int32.toInt8 (rb r b)))) &&& 65535 := by simp (config := { decide := true }) only [nuV, if_true, if_false]
theorem nu39 (b op : Int32) (r : vmD) : nuV 39 b op r = (op >>> ((3 : Int32) &&& 31)) &&& 7 := by simp (config := { decide := true }) only [nuV, if_true, if_false]
theorem nu40 (b op : Int32) (r : vmD) : nuV 40 b op r = op &&& 56 := by simp (config := { decide := true }) only [nuV, if_true, if_false]
theorem nu41 (b op : Int32) (r : vmD) : nuV 41 b op r = (if (((op >>> ((3 : Int32) &&& 31)) &&& 7) - 1) < 0 then 0 else (((op >>> ((3 : Int32) &&& 31)) &&& 7) - 1)) := by simp (config := { decide := true }) only [nuV, if_true, if_false]
theorem imp_b {p a : Prop} [Decidable p] [Decidable a] {b : Bool} (h : (!(decide p) || (decide a || b)) = true) (hp : p) : a ∨ b = true := by
  rw [decide_eq_true hp, Bool.not_true, Bool.false_or, Bool.or_eq_true, decide_eq_true_eq] at h
  exact h
theorem or_b {p q : Prop} [Decidable p] [Decidable q] (h : (decide p || decide q) = true) : p ∨ q := by
  rw [Bool.or_eq_true, decide_eq_true_eq, decide_eq_true_eq] at h
  exact h
theorem rst56 : ∀ y, y < 8 → nI (64 * 3 + 8 * y + 7) &&& 56 = nI (8 * y) := by decide +kernel
theorem im_y : ∀ y, y < 8 → (y = 0 ∨ y = 2 ∨ y = 3) → (if (((nI (64 * 1 + 8 * y + 6) >>> ((3 : Int32) &&& 31)) &&& 7) - 1) < 0 then (0 : Int32) else (((nI (64 * 1 + 8 * y + 6) >>> ((3 : Int32) &&& 31)) &&& 7) - 1)) = if y = 0 then 0 else nI (y - 1) := by decide +kernel

theorem m_ld_b : ∀ ix, ix < 3 → ∀ y, y < 8 → ∀ z, z < 8 → (!(decide (¬ (y = 6 ∧ z = 6) ∧ (ix = 0 ∨ y = 6 ∨ z = 6))) || (decide (ix = 0) || nearV (256 * gX ix + (64 * 1 + 8 * y + z)))) = true := by decide +kernel
theorem m_ld : ∀ ix, ix < 3 → ∀ y, y < 8 → ∀ z, z < 8 → ¬ (y = 6 ∧ z = 6) ∧ (ix = 0 ∨ y = 6 ∨ z = 6) → (ix = 0 ∨ nearV (256 * gX ix + (64 * 1 + 8 * y + z)) = true) := fun ix hix y hy z hz hc => imp_b (m_ld_b ix hix y hy z hz) hc
theorem s_ld {c r : vmD} {x b : Int32} {ix y z : Nat} (hix : ix < 3) (hy : y < 8) (hz : z < 8) (hc : ¬ (y = 6 ∧ z = 6) ∧ (ix = 0 ∨ y = 6 ∨ z = 6)) (D : Dec c r x b (gX ix) (64 * 1 + 8 * y + z)) : ExAt c r x (gX ix) (64 * 1 + 8 * y + z) := by
  have ht : cdB (256 * gX ix + (64 * 1 + 8 * y + z)) (36) (kO ix y) (kO ix z) = true := by
    have e := t_ld ix hix y hy z hz
    have e1 : (decide (y = 6) && decide (z = 6)) = false := by rw [← Bool.not_eq_true, Bool.and_eq_true, decide_eq_true_eq, decide_eq_true_eq]; exact hc.1
    have e2 : (decide (ix = 0) || (decide (y = 6) || decide (z = 6))) = true := by rw [Bool.or_eq_true, Bool.or_eq_true, decide_eq_true_eq, decide_eq_true_eq, decide_eq_true_eq]; exact hc.2
    rw [e1, e2] at e
    exact e
  obtain ⟨-, hw, hf, he⟩ := cdB_ok ht
  unfold ExAt
  rw [hw, hf, he]
  obtain ⟨hR, h59, h60, h61, hnr, hnu, hb, hpc, hx⟩ := D
  rw [(gX_3 ix hix).1] at h59 hb
  rw [(gX_3 ix hix).2] at h60
  have hb : b = gF r 42 64 := hb (by decide)
  exact ex_ld hR hix hy hz ((m_ld ix hix y hy z hz hc).imp id hnr) h59 h60 h61 x
theorem m_alu_b : ∀ ix, ix < 3 → ∀ y, y < 8 → ∀ z, z < 8 → (!(decide ((ix = 0 ∨ z = 6))) || (decide (ix = 0) || nearV (256 * gX ix + (64 * 2 + 8 * y + z)))) = true := by decide +kernel
theorem m_alu : ∀ ix, ix < 3 → ∀ y, y < 8 → ∀ z, z < 8 → (ix = 0 ∨ z = 6) → (ix = 0 ∨ nearV (256 * gX ix + (64 * 2 + 8 * y + z)) = true) := fun ix hix y hy z hz hc => imp_b (m_alu_b ix hix y hy z hz) hc
theorem s_alu {c r : vmD} {x b : Int32} {ix y z : Nat} (hix : ix < 3) (hy : y < 8) (hz : z < 8) (hc : (ix = 0 ∨ z = 6)) (D : Dec c r x b (gX ix) (64 * 2 + 8 * y + z)) : ExAt c r x (gX ix) (64 * 2 + 8 * y + z) := by
  obtain ⟨-, hw, hf, he⟩ := cdB_ok (t_alu ix hix y hy z hz hc)
  unfold ExAt
  rw [hw, hf, he]
  obtain ⟨hR, h59, h60, h61, hnr, hnu, hb, hpc, hx⟩ := D
  rw [(gX_3 ix hix).1] at h59 hb
  rw [(gX_3 ix hix).2] at h60
  have hb : b = gF r 42 64 := hb (by decide)
  exact ex_alu hR hix hy hz ((m_alu ix hix y hy z hz hc).imp id hnr) h59 h60 h61 x
theorem m_inc_b : ∀ ix, ix < 3 → ∀ y, y < 8 → (!(decide ((ix = 0 ∨ y = 6))) || (decide (ix = 0) || nearV (256 * gX ix + (64 * 0 + 8 * y + 4)))) = true := by decide +kernel
theorem m_inc : ∀ ix, ix < 3 → ∀ y, y < 8 → (ix = 0 ∨ y = 6) → (ix = 0 ∨ nearV (256 * gX ix + (64 * 0 + 8 * y + 4)) = true) := fun ix hix y hy hc => imp_b (m_inc_b ix hix y hy) hc
theorem s_inc {c r : vmD} {x b : Int32} {ix y : Nat} (hix : ix < 3) (hy : y < 8) (hc : (ix = 0 ∨ y = 6)) (D : Dec c r x b (gX ix) (64 * 0 + 8 * y + 4)) : ExAt c r x (gX ix) (64 * 0 + 8 * y + 4) := by
  obtain ⟨-, hw, hf, he⟩ := cdB_ok (t_inc ix hix y hy hc)
  unfold ExAt
  rw [hw, hf, he]
  obtain ⟨hR, h59, h60, h61, hnr, hnu, hb, hpc, hx⟩ := D
  rw [(gX_3 ix hix).1] at h59 hb
  rw [(gX_3 ix hix).2] at h60
  have hb : b = gF r 42 64 := hb (by decide)
  exact ex_inc hR hix hy ((m_inc ix hix y hy hc).imp id hnr) h59 h60 h61 x
theorem m_dec_b : ∀ ix, ix < 3 → ∀ y, y < 8 → (!(decide ((ix = 0 ∨ y = 6))) || (decide (ix = 0) || nearV (256 * gX ix + (64 * 0 + 8 * y + 5)))) = true := by decide +kernel
theorem m_dec : ∀ ix, ix < 3 → ∀ y, y < 8 → (ix = 0 ∨ y = 6) → (ix = 0 ∨ nearV (256 * gX ix + (64 * 0 + 8 * y + 5)) = true) := fun ix hix y hy hc => imp_b (m_dec_b ix hix y hy) hc
theorem s_dec {c r : vmD} {x b : Int32} {ix y : Nat} (hix : ix < 3) (hy : y < 8) (hc : (ix = 0 ∨ y = 6)) (D : Dec c r x b (gX ix) (64 * 0 + 8 * y + 5)) : ExAt c r x (gX ix) (64 * 0 + 8 * y + 5) := by
  obtain ⟨-, hw, hf, he⟩ := cdB_ok (t_dec ix hix y hy hc)
  unfold ExAt
  rw [hw, hf, he]
  obtain ⟨hR, h59, h60, h61, hnr, hnu, hb, hpc, hx⟩ := D
  rw [(gX_3 ix hix).1] at h59 hb
  rw [(gX_3 ix hix).2] at h60
  have hb : b = gF r 42 64 := hb (by decide)
  exact ex_dec hR hix hy ((m_dec ix hix y hy hc).imp id hnr) h59 h60 h61 x
theorem k_ldn : ∀ ix, ix < 3 → ∀ y, y < 8 → (ix = 0 ∨ y = 6) → nkV (256 * gX ix + (64 * 0 + 8 * y + 6)) = 36 := by decide +kernel
theorem m_ldn_b : ∀ ix, ix < 3 → ∀ y, y < 8 → (!(decide ((ix = 0 ∨ y = 6))) || (decide (ix = 0) || nearV (256 * gX ix + (64 * 0 + 8 * y + 6)))) = true := by decide +kernel
theorem m_ldn : ∀ ix, ix < 3 → ∀ y, y < 8 → (ix = 0 ∨ y = 6) → (ix = 0 ∨ nearV (256 * gX ix + (64 * 0 + 8 * y + 6)) = true) := fun ix hix y hy hc => imp_b (m_ldn_b ix hix y hy) hc
theorem s_ldn {c r : vmD} {x b : Int32} {ix y : Nat} (hix : ix < 3) (hy : y < 8) (hc : (ix = 0 ∨ y = 6)) (D : Dec c r x b (gX ix) (64 * 0 + 8 * y + 6)) : ExAt c r x (gX ix) (64 * 0 + 8 * y + 6) := by
  obtain ⟨-, hw, hf, he⟩ := cdB_ok (t_ldn ix hix y hy hc)
  unfold ExAt
  rw [hw, hf, he]
  obtain ⟨hR, h59, h60, h61, hnr, hnu, hb, hpc, hx⟩ := D
  rw [(gX_3 ix hix).1] at h59 hb
  rw [(gX_3 ix hix).2] at h60
  have hb : b = gF r 42 64 := hb (by decide)
  rw [(k_ldn ix hix y hy hc), nu36] at hnu
  rw [hb] at hnu
  exact ex_ldn hR hix hy ((m_ldn ix hix y hy hc).imp id hnr) hnu h59 h60 h61 x
theorem s_nop {c r : vmD} {x b : Int32} (D : Dec c r x b (0) (64 * 0 + 8 * 0 + 0)) : ExAt c r x (0) (64 * 0 + 8 * 0 + 0) := by
  obtain ⟨-, hw, hf, he⟩ := cdB_ok (t_near0)
  unfold ExAt
  rw [hw, hf, he]
  obtain ⟨hR, h59, h60, h61, hnr, hnu, hb, hpc, hx⟩ := D
  have h59 : gF r 42 59 = 0 := h59
  have hb : b = gF r 42 64 := hb (by decide)
  exact ex_nop hR h59 h61 x
theorem s_exaf {c r : vmD} {x b : Int32} (D : Dec c r x b (0) (64 * 0 + 8 * 1 + 0)) : ExAt c r x (0) (64 * 0 + 8 * 1 + 0) := by
  obtain ⟨-, hw, hf, he⟩ := cdB_ok (t_near1)
  unfold ExAt
  rw [hw, hf, he]
  obtain ⟨hR, h59, h60, h61, hnr, hnu, hb, hpc, hx⟩ := D
  have h59 : gF r 42 59 = 0 := h59
  have hb : b = gF r 42 64 := hb (by decide)
  exact ex_exaf hR h59 h61 x
theorem k_djnz : nkV (256 * 0 + (64 * 0 + 8 * 2 + 0)) = 38 ∧ zV (0) (64 * 0 + 8 * 2 + 0) = 2 := by decide +kernel
theorem s_djnz {c r : vmD} {x b : Int32} (D : Dec c r x b (0) (64 * 0 + 8 * 2 + 0)) : ExAt c r x (0) (64 * 0 + 8 * 2 + 0) := by
  obtain ⟨-, hw, hf, he⟩ := cdB_ok (t_near2)
  unfold ExAt
  rw [hw, hf, he]
  obtain ⟨hR, h59, h60, h61, hnr, hnu, hb, hpc, hx⟩ := D
  have h59 : gF r 42 59 = 0 := h59
  have hb : b = gF r 42 64 := hb (by decide)
  rw [k_djnz.1, nu38, hb] at hnu
  have htg : tgt c r := ⟨hnu, hpc rfl k_djnz.2⟩
  exact ex_djnz hR htg h59 h61 x
theorem k_jr : nkV (256 * 0 + (64 * 0 + 8 * 3 + 0)) = 38 ∧ zV (0) (64 * 0 + 8 * 3 + 0) = 2 := by decide +kernel
theorem s_jr {c r : vmD} {x b : Int32} (D : Dec c r x b (0) (64 * 0 + 8 * 3 + 0)) : ExAt c r x (0) (64 * 0 + 8 * 3 + 0) := by
  obtain ⟨-, hw, hf, he⟩ := cdB_ok (t_near3)
  unfold ExAt
  rw [hw, hf, he]
  obtain ⟨hR, h59, h60, h61, hnr, hnu, hb, hpc, hx⟩ := D
  have h59 : gF r 42 59 = 0 := h59
  have hb : b = gF r 42 64 := hb (by decide)
  rw [k_jr.1, nu38, hb] at hnu
  have htg : tgt c r := ⟨hnu, hpc rfl k_jr.2⟩
  exact ex_jr hR htg h59 h61 x
theorem k_jrc : ∀ y, y < 8 → 4 ≤ y → nkV (256 * 0 + (64 * 0 + 8 * y + 0)) = 38 ∧ zV (0) (64 * 0 + 8 * y + 0) = 2 := by decide +kernel
theorem s_jrc {c r : vmD} {x b : Int32} {y : Nat} (hy : y < 8) (hc : 4 ≤ y) (D : Dec c r x b (0) (64 * 0 + 8 * y + 0)) : ExAt c r x (0) (64 * 0 + 8 * y + 0) := by
  obtain ⟨-, hw, hf, he⟩ := cdB_ok (t_jrc y hy hc)
  unfold ExAt
  rw [hw, hf, he]
  obtain ⟨hR, h59, h60, h61, hnr, hnu, hb, hpc, hx⟩ := D
  have h59 : gF r 42 59 = 0 := h59
  have hb : b = gF r 42 64 := hb (by decide)
  rw [(k_jrc y hy hc).1, nu38, hb] at hnu
  have htg : tgt c r := ⟨hnu, hpc rfl (k_jrc y hy hc).2⟩
  exact ex_jrc hR hc hy htg h59 h61 x
theorem k_ldp : ∀ ix, ix < 3 → ∀ p, p < 4 → (ix = 0 ∨ p = 2) → nkV (256 * gX ix + (64 * 0 + 8 * (2 * p) + 1)) = 37 := by decide +kernel
theorem s_ldp {c r : vmD} {x b : Int32} {ix p : Nat} (hix : ix < 3) (hp : p < 4) (hc : (ix = 0 ∨ p = 2)) (D : Dec c r x b (gX ix) (64 * 0 + 8 * (2 * p) + 1)) : ExAt c r x (gX ix) (64 * 0 + 8 * (2 * p) + 1) := by
  obtain ⟨-, hw, hf, he⟩ := cdB_ok (t_ldp ix hix p hp hc)
  unfold ExAt
  rw [hw, hf, he]
  obtain ⟨hR, h59, h60, h61, hnr, hnu, hb, hpc, hx⟩ := D
  rw [(gX_3 ix hix).1] at h59 hb
  rw [(gX_3 ix hix).2] at h60
  have hb : b = gF r 42 64 := hb (by decide)
  rw [(k_ldp ix hix p hp hc), nu37] at hnu
  rw [hb] at hnu
  exact ex_ldp hR hix hp hnu h59 h60 h61 x
theorem s_addp {c r : vmD} {x b : Int32} {ix p : Nat} (hix : ix < 3) (hp : p < 4) (D : Dec c r x b (gX ix) (64 * 0 + 8 * (2 * p + 1) + 1)) : ExAt c r x (gX ix) (64 * 0 + 8 * (2 * p + 1) + 1) := by
  obtain ⟨-, hw, hf, he⟩ := cdB_ok (t_addp ix hix p hp)
  unfold ExAt
  rw [hw, hf, he]
  obtain ⟨hR, h59, h60, h61, hnr, hnu, hb, hpc, hx⟩ := D
  rw [(gX_3 ix hix).1] at h59 hb
  rw [(gX_3 ix hix).2] at h60
  have hb : b = gF r 42 64 := hb (by decide)
  exact ex_addhl hR hix hp h60 h59 h61 x
theorem s_lm0 {c r : vmD} {x b : Int32} (D : Dec c r x b (0) (64 * 0 + 8 * 0 + 2)) : ExAt c r x (0) (64 * 0 + 8 * 0 + 2) := by
  obtain ⟨-, hw, hf, he⟩ := cdB_ok (t_lm0)
  unfold ExAt
  rw [hw, hf, he]
  obtain ⟨hR, h59, h60, h61, hnr, hnu, hb, hpc, hx⟩ := D
  have h59 : gF r 42 59 = 0 := h59
  have hb : b = gF r 42 64 := hb (by decide)
  exact ex_lm0 hR h59 h61 x
theorem s_lm1 {c r : vmD} {x b : Int32} (D : Dec c r x b (0) (64 * 0 + 8 * 1 + 2)) : ExAt c r x (0) (64 * 0 + 8 * 1 + 2) := by
  obtain ⟨-, hw, hf, he⟩ := cdB_ok (t_lm1)
  unfold ExAt
  rw [hw, hf, he]
  obtain ⟨hR, h59, h60, h61, hnr, hnu, hb, hpc, hx⟩ := D
  have h59 : gF r 42 59 = 0 := h59
  have hb : b = gF r 42 64 := hb (by decide)
  exact ex_lm1 hR h59 h61 x
theorem s_lm2 {c r : vmD} {x b : Int32} (D : Dec c r x b (0) (64 * 0 + 8 * 2 + 2)) : ExAt c r x (0) (64 * 0 + 8 * 2 + 2) := by
  obtain ⟨-, hw, hf, he⟩ := cdB_ok (t_lm2)
  unfold ExAt
  rw [hw, hf, he]
  obtain ⟨hR, h59, h60, h61, hnr, hnu, hb, hpc, hx⟩ := D
  have h59 : gF r 42 59 = 0 := h59
  have hb : b = gF r 42 64 := hb (by decide)
  exact ex_lm2 hR h59 h61 x
theorem s_lm3 {c r : vmD} {x b : Int32} (D : Dec c r x b (0) (64 * 0 + 8 * 3 + 2)) : ExAt c r x (0) (64 * 0 + 8 * 3 + 2) := by
  obtain ⟨-, hw, hf, he⟩ := cdB_ok (t_lm3)
  unfold ExAt
  rw [hw, hf, he]
  obtain ⟨hR, h59, h60, h61, hnr, hnu, hb, hpc, hx⟩ := D
  have h59 : gF r 42 59 = 0 := h59
  have hb : b = gF r 42 64 := hb (by decide)
  exact ex_lm3 hR h59 h61 x
theorem k_lm6 : nkV (256 * 0 + (64 * 0 + 8 * 6 + 2)) = 43 := by decide +kernel
theorem s_lm6 {c r : vmD} {x b : Int32} (D : Dec c r x b (0) (64 * 0 + 8 * 6 + 2)) : ExAt c r x (0) (64 * 0 + 8 * 6 + 2) := by
  obtain ⟨-, hw, hf, he⟩ := cdB_ok (t_lm6)
  unfold ExAt
  rw [hw, hf, he]
  obtain ⟨hR, h59, h60, h61, hnr, hnu, hb, hpc, hx⟩ := D
  have h59 : gF r 42 59 = 0 := h59
  have hb : b = gF r 42 64 := hb (by decide)
  rw [k_lm6, nu43] at hnu
  rw [hb] at hnu
  exact ex_lm6 hR hnu h59 h61 x
theorem k_lm7 : nkV (256 * 0 + (64 * 0 + 8 * 7 + 2)) = 43 := by decide +kernel
theorem s_lm7 {c r : vmD} {x b : Int32} (D : Dec c r x b (0) (64 * 0 + 8 * 7 + 2)) : ExAt c r x (0) (64 * 0 + 8 * 7 + 2) := by
  obtain ⟨-, hw, hf, he⟩ := cdB_ok (t_lm7)
  unfold ExAt
  rw [hw, hf, he]
  obtain ⟨hR, h59, h60, h61, hnr, hnu, hb, hpc, hx⟩ := D
  have h59 : gF r 42 59 = 0 := h59
  have hb : b = gF r 42 64 := hb (by decide)
  rw [k_lm7, nu43] at hnu
  rw [hb] at hnu
  exact ex_lm7 hR hnu h59 h61 x
theorem k_lm4 : ∀ ix, ix < 3 → nkV (256 * gX ix + (64 * 0 + 8 * 4 + 2)) = 43 := by decide +kernel
theorem s_lm4 {c r : vmD} {x b : Int32} {ix : Nat} (hix : ix < 3) (D : Dec c r x b (gX ix) (64 * 0 + 8 * 4 + 2)) : ExAt c r x (gX ix) (64 * 0 + 8 * 4 + 2) := by
  obtain ⟨-, hw, hf, he⟩ := cdB_ok (t_lm4 ix hix)
  unfold ExAt
  rw [hw, hf, he]
  obtain ⟨hR, h59, h60, h61, hnr, hnu, hb, hpc, hx⟩ := D
  rw [(gX_3 ix hix).1] at h59 hb
  rw [(gX_3 ix hix).2] at h60
  have hb : b = gF r 42 64 := hb (by decide)
  rw [(k_lm4 ix hix), nu43] at hnu
  rw [hb] at hnu
  exact ex_lm4 hR hix h60 hnu h59 h61 x
theorem k_lm5 : ∀ ix, ix < 3 → nkV (256 * gX ix + (64 * 0 + 8 * 5 + 2)) = 43 := by decide +kernel
theorem s_lm5 {c r : vmD} {x b : Int32} {ix : Nat} (hix : ix < 3) (D : Dec c r x b (gX ix) (64 * 0 + 8 * 5 + 2)) : ExAt c r x (gX ix) (64 * 0 + 8 * 5 + 2) := by
  obtain ⟨-, hw, hf, he⟩ := cdB_ok (t_lm5 ix hix)
  unfold ExAt
  rw [hw, hf, he]
  obtain ⟨hR, h59, h60, h61, hnr, hnu, hb, hpc, hx⟩ := D
  rw [(gX_3 ix hix).1] at h59 hb
  rw [(gX_3 ix hix).2] at h60
  have hb : b = gF r 42 64 := hb (by decide)
  rw [(k_lm5 ix hix), nu43] at hnu
  rw [hb] at hnu
  exact ex_lm5 hR hix h60 hnu h59 h61 x
theorem s_incp {c r : vmD} {x b : Int32} {ix p q : Nat} (hix : ix < 3) (hp : p < 4) (hq : q < 2) (hc : (ix = 0 ∨ p = 2)) (D : Dec c r x b (gX ix) (64 * 0 + 8 * (2 * p + q) + 3)) : ExAt c r x (gX ix) (64 * 0 + 8 * (2 * p + q) + 3) := by
  obtain ⟨-, hw, hf, he⟩ := cdB_ok (t_incp ix hix p hp q hq hc)
  unfold ExAt
  rw [hw, hf, he]
  obtain ⟨hR, h59, h60, h61, hnr, hnu, hb, hpc, hx⟩ := D
  rw [(gX_3 ix hix).1] at h59 hb
  rw [(gX_3 ix hix).2] at h60
  have hb : b = gF r 42 64 := hb (by decide)
  exact ex_pair hR hix hp hq h59 h60 h61 x
theorem s_turnA {c r : vmD} {x b : Int32} {y : Nat} (hy : y < 8) (hc : y < 4) (D : Dec c r x b (0) (64 * 0 + 8 * y + 7)) : ExAt c r x (0) (64 * 0 + 8 * y + 7) := by
  obtain ⟨-, hw, hf, he⟩ := cdB_ok (t_turnA y hy hc)
  unfold ExAt
  rw [hw, hf, he]
  obtain ⟨hR, h59, h60, h61, hnr, hnu, hb, hpc, hx⟩ := D
  have h59 : gF r 42 59 = 0 := h59
  have hb : b = gF r 42 64 := hb (by decide)
  exact ex_turnA hR hc h59 h61 x
theorem s_daa {c r : vmD} {x b : Int32} (D : Dec c r x b (0) (64 * 0 + 8 * 4 + 7)) : ExAt c r x (0) (64 * 0 + 8 * 4 + 7) := by
  obtain ⟨-, hw, hf, he⟩ := cdB_ok (t_al4)
  unfold ExAt
  rw [hw, hf, he]
  obtain ⟨hR, h59, h60, h61, hnr, hnu, hb, hpc, hx⟩ := D
  have h59 : gF r 42 59 = 0 := h59
  have hb : b = gF r 42 64 := hb (by decide)
  exact ex_daa hR h59 h61 x
theorem s_cpl {c r : vmD} {x b : Int32} (D : Dec c r x b (0) (64 * 0 + 8 * 5 + 7)) : ExAt c r x (0) (64 * 0 + 8 * 5 + 7) := by
  obtain ⟨-, hw, hf, he⟩ := cdB_ok (t_al5)
  unfold ExAt
  rw [hw, hf, he]
  obtain ⟨hR, h59, h60, h61, hnr, hnu, hb, hpc, hx⟩ := D
  have h59 : gF r 42 59 = 0 := h59
  have hb : b = gF r 42 64 := hb (by decide)
  exact ex_cpl hR h59 h61 x
theorem s_scf {c r : vmD} {x b : Int32} (D : Dec c r x b (0) (64 * 0 + 8 * 6 + 7)) : ExAt c r x (0) (64 * 0 + 8 * 6 + 7) := by
  obtain ⟨-, hw, hf, he⟩ := cdB_ok (t_al6)
  unfold ExAt
  rw [hw, hf, he]
  obtain ⟨hR, h59, h60, h61, hnr, hnu, hb, hpc, hx⟩ := D
  have h59 : gF r 42 59 = 0 := h59
  have hb : b = gF r 42 64 := hb (by decide)
  exact ex_scf hR h59 h61 x
theorem s_ccf {c r : vmD} {x b : Int32} (D : Dec c r x b (0) (64 * 0 + 8 * 7 + 7)) : ExAt c r x (0) (64 * 0 + 8 * 7 + 7) := by
  obtain ⟨-, hw, hf, he⟩ := cdB_ok (t_al7)
  unfold ExAt
  rw [hw, hf, he]
  obtain ⟨hR, h59, h60, h61, hnr, hnu, hb, hpc, hx⟩ := D
  have h59 : gF r 42 59 = 0 := h59
  have hb : b = gF r 42 64 := hb (by decide)
  exact ex_ccf hR h59 h61 x
theorem s_retc {c r : vmD} {x b : Int32} {y : Nat} (hy : y < 8) (D : Dec c r x b (0) (64 * 3 + 8 * y + 0)) : ExAt c r x (0) (64 * 3 + 8 * y + 0) := by
  obtain ⟨-, hw, hf, he⟩ := cdB_ok (t_retc y hy)
  unfold ExAt
  rw [hw, hf, he]
  obtain ⟨hR, h59, h60, h61, hnr, hnu, hb, hpc, hx⟩ := D
  have h59 : gF r 42 59 = 0 := h59
  have hb : b = gF r 42 64 := hb (by decide)
  exact ex_retc hR hy h59 h61 x
theorem s_pop {c r : vmD} {x b : Int32} {ix p : Nat} (hix : ix < 3) (hp : p < 4) (hc : (ix = 0 ∨ p = 2)) (D : Dec c r x b (gX ix) (64 * 3 + 8 * (2 * p) + 1)) : ExAt c r x (gX ix) (64 * 3 + 8 * (2 * p) + 1) := by
  obtain ⟨-, hw, hf, he⟩ := cdB_ok (t_pop ix hix p hp hc)
  unfold ExAt
  rw [hw, hf, he]
  obtain ⟨hR, h59, h60, h61, hnr, hnu, hb, hpc, hx⟩ := D
  rw [(gX_3 ix hix).1] at h59 hb
  rw [(gX_3 ix hix).2] at h60
  have hb : b = gF r 42 64 := hb (by decide)
  exact ex_pop hR hix hp h60 h59 h61 x
theorem s_ret {c r : vmD} {x b : Int32} (D : Dec c r x b (0) (64 * 3 + 8 * 1 + 1)) : ExAt c r x (0) (64 * 3 + 8 * 1 + 1) := by
  obtain ⟨-, hw, hf, he⟩ := cdB_ok (t_ret)
  unfold ExAt
  rw [hw, hf, he]
  obtain ⟨hR, h59, h60, h61, hnr, hnu, hb, hpc, hx⟩ := D
  have h59 : gF r 42 59 = 0 := h59
  have hb : b = gF r 42 64 := hb (by decide)
  exact ex_ret hR h59 h61 x
theorem s_exx {c r : vmD} {x b : Int32} (D : Dec c r x b (0) (64 * 3 + 8 * 3 + 1)) : ExAt c r x (0) (64 * 3 + 8 * 3 + 1) := by
  obtain ⟨-, hw, hf, he⟩ := cdB_ok (t_exx)
  unfold ExAt
  rw [hw, hf, he]
  obtain ⟨hR, h59, h60, h61, hnr, hnu, hb, hpc, hx⟩ := D
  have h59 : gF r 42 59 = 0 := h59
  have hb : b = gF r 42 64 := hb (by decide)
  exact ex_exx hR h59 h61 x
theorem s_jphl {c r : vmD} {x b : Int32} {ix : Nat} (hix : ix < 3) (D : Dec c r x b (gX ix) (64 * 3 + 8 * 5 + 1)) : ExAt c r x (gX ix) (64 * 3 + 8 * 5 + 1) := by
  obtain ⟨-, hw, hf, he⟩ := cdB_ok (t_jphl ix hix)
  unfold ExAt
  rw [hw, hf, he]
  obtain ⟨hR, h59, h60, h61, hnr, hnu, hb, hpc, hx⟩ := D
  rw [(gX_3 ix hix).1] at h59 hb
  rw [(gX_3 ix hix).2] at h60
  have hb : b = gF r 42 64 := hb (by decide)
  exact ex_jphl hR hix h60 h59 h61 x
theorem s_ldsp {c r : vmD} {x b : Int32} {ix : Nat} (hix : ix < 3) (D : Dec c r x b (gX ix) (64 * 3 + 8 * 7 + 1)) : ExAt c r x (gX ix) (64 * 3 + 8 * 7 + 1) := by
  obtain ⟨-, hw, hf, he⟩ := cdB_ok (t_ldsp ix hix)
  unfold ExAt
  rw [hw, hf, he]
  obtain ⟨hR, h59, h60, h61, hnr, hnu, hb, hpc, hx⟩ := D
  rw [(gX_3 ix hix).1] at h59 hb
  rw [(gX_3 ix hix).2] at h60
  have hb : b = gF r 42 64 := hb (by decide)
  exact ex_ldsp hR hix h60 h59 h61 x
theorem k_jpc : ∀ y, y < 8 → nkV (256 * 0 + (64 * 3 + 8 * y + 2)) = 37 := by decide +kernel
theorem s_jpc {c r : vmD} {x b : Int32} {y : Nat} (hy : y < 8) (D : Dec c r x b (0) (64 * 3 + 8 * y + 2)) : ExAt c r x (0) (64 * 3 + 8 * y + 2) := by
  obtain ⟨-, hw, hf, he⟩ := cdB_ok (t_jpc y hy)
  unfold ExAt
  rw [hw, hf, he]
  obtain ⟨hR, h59, h60, h61, hnr, hnu, hb, hpc, hx⟩ := D
  have h59 : gF r 42 59 = 0 := h59
  have hb : b = gF r 42 64 := hb (by decide)
  rw [(k_jpc y hy), nu37] at hnu
  rw [hb] at hnu
  exact ex_jpc hR hy hnu h59 h61 x
theorem k_jp : nkV (256 * 0 + (64 * 3 + 8 * 0 + 3)) = 37 := by decide +kernel
theorem s_jp {c r : vmD} {x b : Int32} (D : Dec c r x b (0) (64 * 3 + 8 * 0 + 3)) : ExAt c r x (0) (64 * 3 + 8 * 0 + 3) := by
  obtain ⟨-, hw, hf, he⟩ := cdB_ok (t_jp)
  unfold ExAt
  rw [hw, hf, he]
  obtain ⟨hR, h59, h60, h61, hnr, hnu, hb, hpc, hx⟩ := D
  have h59 : gF r 42 59 = 0 := h59
  have hb : b = gF r 42 64 := hb (by decide)
  rw [k_jp, nu37] at hnu
  rw [hb] at hnu
  exact ex_jp hR hnu h59 h61 x
theorem k_outn : nkV (256 * 0 + (64 * 3 + 8 * 2 + 3)) = 42 := by decide +kernel
theorem s_outn {c r : vmD} {x b : Int32} (D : Dec c r x b (0) (64 * 3 + 8 * 2 + 3)) : ExAt c r x (0) (64 * 3 + 8 * 2 + 3) := by
  obtain ⟨-, hw, hf, he⟩ := cdB_ok (t_outn)
  unfold ExAt
  rw [hw, hf, he]
  obtain ⟨hR, h59, h60, h61, hnr, hnu, hb, hpc, hx⟩ := D
  have h59 : gF r 42 59 = 0 := h59
  have hb : b = gF r 42 64 := hb (by decide)
  rw [k_outn, nu42] at hnu
  rw [hb] at hnu
  exact ex_outn hR hnu h59 h61 x
theorem k_inn : nkV (256 * 0 + (64 * 3 + 8 * 3 + 3)) = 42 := by decide +kernel
theorem s_inn {c r : vmD} {x b : Int32} (D : Dec c r x b (0) (64 * 3 + 8 * 3 + 3)) : ExAt c r x (0) (64 * 3 + 8 * 3 + 3) := by
  obtain ⟨-, hw, hf, he⟩ := cdB_ok (t_inn)
  unfold ExAt
  rw [hw, hf, he]
  obtain ⟨hR, h59, h60, h61, hnr, hnu, hb, hpc, hx⟩ := D
  have h59 : gF r 42 59 = 0 := h59
  have hb : b = gF r 42 64 := hb (by decide)
  rw [k_inn, nu42] at hnu
  rw [hb] at hnu
  exact ex_inn hR hnu h59 h61 x
theorem s_exsp {c r : vmD} {x b : Int32} {ix : Nat} (hix : ix < 3) (D : Dec c r x b (gX ix) (64 * 3 + 8 * 4 + 3)) : ExAt c r x (gX ix) (64 * 3 + 8 * 4 + 3) := by
  obtain ⟨-, hw, hf, he⟩ := cdB_ok (t_exsp ix hix)
  unfold ExAt
  rw [hw, hf, he]
  obtain ⟨hR, h59, h60, h61, hnr, hnu, hb, hpc, hx⟩ := D
  rw [(gX_3 ix hix).1] at h59 hb
  rw [(gX_3 ix hix).2] at h60
  have hb : b = gF r 42 64 := hb (by decide)
  exact ex_exsp hR hix h60 h59 h61 x
theorem s_exde {c r : vmD} {x b : Int32} (D : Dec c r x b (0) (64 * 3 + 8 * 5 + 3)) : ExAt c r x (0) (64 * 3 + 8 * 5 + 3) := by
  obtain ⟨-, hw, hf, he⟩ := cdB_ok (t_exde)
  unfold ExAt
  rw [hw, hf, he]
  obtain ⟨hR, h59, h60, h61, hnr, hnu, hb, hpc, hx⟩ := D
  have h59 : gF r 42 59 = 0 := h59
  have hb : b = gF r 42 64 := hb (by decide)
  exact ex_exde hR h59 h61 x
theorem s_di {c r : vmD} {x b : Int32} (D : Dec c r x b (0) (64 * 3 + 8 * 6 + 3)) : ExAt c r x (0) (64 * 3 + 8 * 6 + 3) := by
  obtain ⟨-, hw, hf, he⟩ := cdB_ok (t_di)
  unfold ExAt
  rw [hw, hf, he]
  obtain ⟨hR, h59, h60, h61, hnr, hnu, hb, hpc, hx⟩ := D
  have h59 : gF r 42 59 = 0 := h59
  have hb : b = gF r 42 64 := hb (by decide)
  exact ex_di hR h59 h61 x
theorem k_callc : ∀ y, y < 8 → nkV (256 * 0 + (64 * 3 + 8 * y + 4)) = 37 := by decide +kernel
theorem s_callc {c r : vmD} {x b : Int32} {y : Nat} (hy : y < 8) (D : Dec c r x b (0) (64 * 3 + 8 * y + 4)) : ExAt c r x (0) (64 * 3 + 8 * y + 4) := by
  obtain ⟨-, hw, hf, he⟩ := cdB_ok (t_callc y hy)
  unfold ExAt
  rw [hw, hf, he]
  obtain ⟨hR, h59, h60, h61, hnr, hnu, hb, hpc, hx⟩ := D
  have h59 : gF r 42 59 = 0 := h59
  have hb : b = gF r 42 64 := hb (by decide)
  rw [(k_callc y hy), nu37] at hnu
  rw [hb] at hnu
  exact ex_callc hR hy hnu h59 h61 x
theorem s_push {c r : vmD} {x b : Int32} {ix p : Nat} (hix : ix < 3) (hp : p < 4) (hc : (ix = 0 ∨ p = 2)) (D : Dec c r x b (gX ix) (64 * 3 + 8 * (2 * p) + 5)) : ExAt c r x (gX ix) (64 * 3 + 8 * (2 * p) + 5) := by
  obtain ⟨-, hw, hf, he⟩ := cdB_ok (t_push ix hix p hp hc)
  unfold ExAt
  rw [hw, hf, he]
  obtain ⟨hR, h59, h60, h61, hnr, hnu, hb, hpc, hx⟩ := D
  rw [(gX_3 ix hix).1] at h59 hb
  rw [(gX_3 ix hix).2] at h60
  have hb : b = gF r 42 64 := hb (by decide)
  exact ex_push hR hix hp h60 h59 h61 x
theorem k_call : nkV (256 * 0 + (64 * 3 + 8 * 1 + 5)) = 37 := by decide +kernel
theorem s_call {c r : vmD} {x b : Int32} (D : Dec c r x b (0) (64 * 3 + 8 * 1 + 5)) : ExAt c r x (0) (64 * 3 + 8 * 1 + 5) := by
  obtain ⟨-, hw, hf, he⟩ := cdB_ok (t_call)
  unfold ExAt
  rw [hw, hf, he]
  obtain ⟨hR, h59, h60, h61, hnr, hnu, hb, hpc, hx⟩ := D
  have h59 : gF r 42 59 = 0 := h59
  have hb : b = gF r 42 64 := hb (by decide)
  rw [k_call, nu37] at hnu
  rw [hb] at hnu
  exact ex_call hR hnu h59 h61 x
theorem k_alun : ∀ y, y < 8 → nkV (256 * 0 + (64 * 3 + 8 * y + 6)) = 36 := by decide +kernel
theorem s_alun {c r : vmD} {x b : Int32} {y : Nat} (hy : y < 8) (D : Dec c r x b (0) (64 * 3 + 8 * y + 6)) : ExAt c r x (0) (64 * 3 + 8 * y + 6) := by
  obtain ⟨-, hw, hf, he⟩ := cdB_ok (t_alun y hy)
  unfold ExAt
  rw [hw, hf, he]
  obtain ⟨hR, h59, h60, h61, hnr, hnu, hb, hpc, hx⟩ := D
  have h59 : gF r 42 59 = 0 := h59
  have hb : b = gF r 42 64 := hb (by decide)
  rw [(k_alun y hy), nu36] at hnu
  rw [hb] at hnu
  exact ex_alun hR hy hnu h59 h61 x
theorem k_rst : ∀ y, y < 8 → nkV (256 * 0 + (64 * 3 + 8 * y + 7)) = 40 := by decide +kernel
theorem s_rst {c r : vmD} {x b : Int32} {y : Nat} (hy : y < 8) (D : Dec c r x b (0) (64 * 3 + 8 * y + 7)) : ExAt c r x (0) (64 * 3 + 8 * y + 7) := by
  obtain ⟨-, hw, hf, he⟩ := cdB_ok (t_rst y hy)
  unfold ExAt
  rw [hw, hf, he]
  obtain ⟨hR, h59, h60, h61, hnr, hnu, hb, hpc, hx⟩ := D
  have h59 : gF r 42 59 = 0 := h59
  have hb : b = gF r 42 64 := hb (by decide)
  rw [(k_rst y hy), nu40] at hnu
  rw [rst56 y hy] at hnu
  exact ex_rst hR hy hnu h59 h61 x
theorem m_cbrot_b : ∀ ix, ix < 3 → ∀ y, y < 8 → ∀ z, z < 8 → (!(decide (¬ y = 6 ∧ (ix = 0 ∨ z = 6))) || (decide (ix = 0) || nearV (256 * gB ix + (64 * 0 + 8 * y + z)))) = true := by decide +kernel
theorem m_cbrot : ∀ ix, ix < 3 → ∀ y, y < 8 → ∀ z, z < 8 → ¬ y = 6 ∧ (ix = 0 ∨ z = 6) → (ix = 0 ∨ nearV (256 * gB ix + (64 * 0 + 8 * y + z)) = true) := fun ix hix y hy z hz hc => imp_b (m_cbrot_b ix hix y hy z hz) hc
theorem s_cbrot {c r : vmD} {x b : Int32} {ix y z : Nat} (hix : ix < 3) (hy : y < 8) (hz : z < 8) (hc : ¬ y = 6 ∧ (ix = 0 ∨ z = 6)) (D : Dec c r x b (gB ix) (64 * 0 + 8 * y + z)) : ExAt c r x (gB ix) (64 * 0 + 8 * y + z) := by
  have ht : cdB (256 * gB ix + (64 * 0 + 8 * y + z)) (nI (67 + way y)) (kO ix z) (0) = true := by
    have e := t_cbrot ix hix y hy z hz
    have e1 : decide (y = 6) = false := decide_eq_false hc.1
    have e2 : (decide (ix = 0) || decide (z = 6)) = true := by rw [Bool.or_eq_true, decide_eq_true_eq, decide_eq_true_eq]; exact hc.2
    rw [e1, e2] at e
    exact e
  obtain ⟨-, hw, hf, he⟩ := cdB_ok ht
  unfold ExAt
  rw [hw, hf, he]
  obtain ⟨hR, h59, h60, h61, hnr, hnu, hb, hpc, hx⟩ := D
  rw [(gB_3 ix hix).1] at h59 hb
  rw [(gB_3 ix hix).2] at h60
  exact ex_cbrot hR hix hy hz ((m_cbrot ix hix y hy z hz hc).imp id hnr) hc.1 h59 h60 h61 x
theorem k_bit : ∀ ix, ix < 3 → ∀ y, y < 8 → ∀ z, z < 8 → (ix = 0 ∨ z = 6) → nkV (256 * gB ix + (64 * 1 + 8 * y + z)) = 39 := by decide +kernel
theorem m_bit_b : ∀ ix, ix < 3 → ∀ y, y < 8 → ∀ z, z < 8 → (!(decide ((ix = 0 ∨ z = 6))) || (decide (ix = 0) || nearV (256 * gB ix + (64 * 1 + 8 * y + z)))) = true := by decide +kernel
theorem m_bit : ∀ ix, ix < 3 → ∀ y, y < 8 → ∀ z, z < 8 → (ix = 0 ∨ z = 6) → (ix = 0 ∨ nearV (256 * gB ix + (64 * 1 + 8 * y + z)) = true) := fun ix hix y hy z hz hc => imp_b (m_bit_b ix hix y hy z hz) hc
theorem s_bit {c r : vmD} {x b : Int32} {ix y z : Nat} (hix : ix < 3) (hy : y < 8) (hz : z < 8) (hc : (ix = 0 ∨ z = 6)) (D : Dec c r x b (gB ix) (64 * 1 + 8 * y + z)) : ExAt c r x (gB ix) (64 * 1 + 8 * y + z) := by
  obtain ⟨-, hw, hf, he⟩ := cdB_ok (t_cb74 ix hix y hy z hz hc)
  unfold ExAt
  rw [hw, hf, he]
  obtain ⟨hR, h59, h60, h61, hnr, hnu, hb, hpc, hx⟩ := D
  rw [(gB_3 ix hix).1] at h59 hb
  rw [(gB_3 ix hix).2] at h60
  rw [(k_bit ix hix y hy z hz hc), nu39] at hnu
  rw [opy (by omega) hy hz] at hnu
  exact ex_bit hR hix hy hz ((m_bit ix hix y hy z hz hc).imp id hnr) hnu h59 h60 h61 x
theorem k_res : ∀ ix, ix < 3 → ∀ y, y < 8 → ∀ z, z < 8 → (ix = 0 ∨ z = 6) → nkV (256 * gB ix + (64 * 2 + 8 * y + z)) = 39 := by decide +kernel
theorem m_res_b : ∀ ix, ix < 3 → ∀ y, y < 8 → ∀ z, z < 8 → (!(decide ((ix = 0 ∨ z = 6))) || (decide (ix = 0) || nearV (256 * gB ix + (64 * 2 + 8 * y + z)))) = true := by decide +kernel
theorem m_res : ∀ ix, ix < 3 → ∀ y, y < 8 → ∀ z, z < 8 → (ix = 0 ∨ z = 6) → (ix = 0 ∨ nearV (256 * gB ix + (64 * 2 + 8 * y + z)) = true) := fun ix hix y hy z hz hc => imp_b (m_res_b ix hix y hy z hz) hc
theorem s_res {c r : vmD} {x b : Int32} {ix y z : Nat} (hix : ix < 3) (hy : y < 8) (hz : z < 8) (hc : (ix = 0 ∨ z = 6)) (D : Dec c r x b (gB ix) (64 * 2 + 8 * y + z)) : ExAt c r x (gB ix) (64 * 2 + 8 * y + z) := by
  obtain ⟨-, hw, hf, he⟩ := cdB_ok (t_cb75 ix hix y hy z hz hc)
  unfold ExAt
  rw [hw, hf, he]
  obtain ⟨hR, h59, h60, h61, hnr, hnu, hb, hpc, hx⟩ := D
  rw [(gB_3 ix hix).1] at h59 hb
  rw [(gB_3 ix hix).2] at h60
  rw [(k_res ix hix y hy z hz hc), nu39] at hnu
  rw [opy (by omega) hy hz] at hnu
  exact ex_res hR hix hy hz ((m_res ix hix y hy z hz hc).imp id hnr) hnu h59 h60 h61 x
theorem k_set : ∀ ix, ix < 3 → ∀ y, y < 8 → ∀ z, z < 8 → (ix = 0 ∨ z = 6) → nkV (256 * gB ix + (64 * 3 + 8 * y + z)) = 39 := by decide +kernel
theorem m_set_b : ∀ ix, ix < 3 → ∀ y, y < 8 → ∀ z, z < 8 → (!(decide ((ix = 0 ∨ z = 6))) || (decide (ix = 0) || nearV (256 * gB ix + (64 * 3 + 8 * y + z)))) = true := by decide +kernel
theorem m_set : ∀ ix, ix < 3 → ∀ y, y < 8 → ∀ z, z < 8 → (ix = 0 ∨ z = 6) → (ix = 0 ∨ nearV (256 * gB ix + (64 * 3 + 8 * y + z)) = true) := fun ix hix y hy z hz hc => imp_b (m_set_b ix hix y hy z hz) hc
theorem s_set {c r : vmD} {x b : Int32} {ix y z : Nat} (hix : ix < 3) (hy : y < 8) (hz : z < 8) (hc : (ix = 0 ∨ z = 6)) (D : Dec c r x b (gB ix) (64 * 3 + 8 * y + z)) : ExAt c r x (gB ix) (64 * 3 + 8 * y + z) := by
  obtain ⟨-, hw, hf, he⟩ := cdB_ok (t_cb76 ix hix y hy z hz hc)
  unfold ExAt
  rw [hw, hf, he]
  obtain ⟨hR, h59, h60, h61, hnr, hnu, hb, hpc, hx⟩ := D
  rw [(gB_3 ix hix).1] at h59 hb
  rw [(gB_3 ix hix).2] at h60
  rw [(k_set ix hix y hy z hz hc), nu39] at hnu
  rw [opy (by omega) hy hz] at hnu
  exact ex_set hR hix hy hz ((m_set ix hix y hy z hz hc).imp id hnr) hnu h59 h60 h61 x
theorem s_edin {c r : vmD} {x b : Int32} {y : Nat} (hy : y < 8) (hc : ¬ y = 6) (D : Dec c r x b (2) (64 * 1 + 8 * y + 0)) : ExAt c r x (2) (64 * 1 + 8 * y + 0) := by
  obtain ⟨-, hw, hf, he⟩ := cdB_ok (t_edin y hy hc)
  unfold ExAt
  rw [hw, hf, he]
  obtain ⟨hR, h59, h60, h61, hnr, hnu, hb, hpc, hx⟩ := D
  have h59 : gF r 42 59 = 2 := h59
  have h60 : gF r 42 60 = nI 0 := h60
  have hb : b = gF r 42 64 := hb (by decide)
  exact ex_inc_ hR hy hc h59 h60 h61 x
theorem s_edout {c r : vmD} {x b : Int32} {y : Nat} (hy : y < 8) (hc : ¬ y = 6) (D : Dec c r x b (2) (64 * 1 + 8 * y + 1)) : ExAt c r x (2) (64 * 1 + 8 * y + 1) := by
  obtain ⟨-, hw, hf, he⟩ := cdB_ok (t_edout y hy hc)
  unfold ExAt
  rw [hw, hf, he]
  obtain ⟨hR, h59, h60, h61, hnr, hnu, hb, hpc, hx⟩ := D
  have h59 : gF r 42 59 = 2 := h59
  have h60 : gF r 42 60 = nI 0 := h60
  have hb : b = gF r 42 64 := hb (by decide)
  exact ex_outc hR hy hc h59 h60 h61 x
theorem s_sbc {c r : vmD} {x b : Int32} {p : Nat} (hp : p < 4) (D : Dec c r x b (2) (64 * 1 + 8 * (2 * p + 0) + 2)) : ExAt c r x (2) (64 * 1 + 8 * (2 * p + 0) + 2) := by
  obtain ⟨-, hw, hf, he⟩ := cdB_ok (t_sbc p hp)
  unfold ExAt
  rw [hw, hf, he]
  obtain ⟨hR, h59, h60, h61, hnr, hnu, hb, hpc, hx⟩ := D
  have h59 : gF r 42 59 = 2 := h59
  have h60 : gF r 42 60 = nI 0 := h60
  have hb : b = gF r 42 64 := hb (by decide)
  exact ex_sbchl hR hp h59 h60 h61 x
theorem s_adc {c r : vmD} {x b : Int32} {p : Nat} (hp : p < 4) (D : Dec c r x b (2) (64 * 1 + 8 * (2 * p + 1) + 2)) : ExAt c r x (2) (64 * 1 + 8 * (2 * p + 1) + 2) := by
  obtain ⟨-, hw, hf, he⟩ := cdB_ok (t_adc p hp)
  unfold ExAt
  rw [hw, hf, he]
  obtain ⟨hR, h59, h60, h61, hnr, hnu, hb, hpc, hx⟩ := D
  have h59 : gF r 42 59 = 2 := h59
  have h60 : gF r 42 60 = nI 0 := h60
  have hb : b = gF r 42 64 := hb (by decide)
  exact ex_adchl hR hp h59 h60 h61 x
theorem k_ldnnp : ∀ p, p < 4 → ¬ p = 2 → nkV (256 * 2 + (64 * 1 + 8 * (2 * p) + 3)) = 43 := by decide +kernel
theorem s_ldnnp {c r : vmD} {x b : Int32} {p : Nat} (hp : p < 4) (hc : ¬ p = 2) (D : Dec c r x b (2) (64 * 1 + 8 * (2 * p) + 3)) : ExAt c r x (2) (64 * 1 + 8 * (2 * p) + 3) := by
  obtain ⟨-, hw, hf, he⟩ := cdB_ok (t_ldnnp p hp hc)
  unfold ExAt
  rw [hw, hf, he]
  obtain ⟨hR, h59, h60, h61, hnr, hnu, hb, hpc, hx⟩ := D
  have h59 : gF r 42 59 = 2 := h59
  have h60 : gF r 42 60 = nI 0 := h60
  have hb : b = gF r 42 64 := hb (by decide)
  rw [(k_ldnnp p hp hc), nu43] at hnu
  rw [hb] at hnu
  exact ex_ldnnp hR hp hnu h59 h60 h61 x
theorem k_ldpnn : ∀ p, p < 4 → ¬ p = 2 → nkV (256 * 2 + (64 * 1 + 8 * (2 * p + 1) + 3)) = 43 := by decide +kernel
theorem s_ldpnn {c r : vmD} {x b : Int32} {p : Nat} (hp : p < 4) (hc : ¬ p = 2) (D : Dec c r x b (2) (64 * 1 + 8 * (2 * p + 1) + 3)) : ExAt c r x (2) (64 * 1 + 8 * (2 * p + 1) + 3) := by
  obtain ⟨-, hw, hf, he⟩ := cdB_ok (t_ldpnn p hp hc)
  unfold ExAt
  rw [hw, hf, he]
  obtain ⟨hR, h59, h60, h61, hnr, hnu, hb, hpc, hx⟩ := D
  have h59 : gF r 42 59 = 2 := h59
  have h60 : gF r 42 60 = nI 0 := h60
  have hb : b = gF r 42 64 := hb (by decide)
  rw [(k_ldpnn p hp hc), nu43] at hnu
  rw [hb] at hnu
  exact ex_ldpnn hR hp hnu h59 h60 h61 x
theorem s_neg {c r : vmD} {x b : Int32} (D : Dec c r x b (2) (64 * 1 + 8 * 0 + 4)) : ExAt c r x (2) (64 * 1 + 8 * 0 + 4) := by
  obtain ⟨-, hw, hf, he⟩ := cdB_ok (t_neg)
  unfold ExAt
  rw [hw, hf, he]
  obtain ⟨hR, h59, h60, h61, hnr, hnu, hb, hpc, hx⟩ := D
  have h59 : gF r 42 59 = 2 := h59
  have h60 : gF r 42 60 = nI 0 := h60
  have hb : b = gF r 42 64 := hb (by decide)
  exact ex_neg hR h59 h60 h61 x
theorem s_retn {c r : vmD} {x b : Int32} (D : Dec c r x b (2) (64 * 1 + 8 * 0 + 5)) : ExAt c r x (2) (64 * 1 + 8 * 0 + 5) := by
  obtain ⟨-, hw, hf, he⟩ := cdB_ok (t_retn)
  unfold ExAt
  rw [hw, hf, he]
  obtain ⟨hR, h59, h60, h61, hnr, hnu, hb, hpc, hx⟩ := D
  have h59 : gF r 42 59 = 2 := h59
  have h60 : gF r 42 60 = nI 0 := h60
  have hb : b = gF r 42 64 := hb (by decide)
  exact ex_ret78 hR h59 h60 h61 x
theorem s_reti {c r : vmD} {x b : Int32} (D : Dec c r x b (2) (64 * 1 + 8 * 1 + 5)) : ExAt c r x (2) (64 * 1 + 8 * 1 + 5) := by
  obtain ⟨-, hw, hf, he⟩ := cdB_ok (t_reti)
  unfold ExAt
  rw [hw, hf, he]
  obtain ⟨hR, h59, h60, h61, hnr, hnu, hb, hpc, hx⟩ := D
  have h59 : gF r 42 59 = 2 := h59
  have h60 : gF r 42 60 = nI 0 := h60
  have hb : b = gF r 42 64 := hb (by decide)
  exact ex_ret79 hR h59 h60 h61 x
theorem k_im : ∀ y, y < 8 → (y = 0 ∨ y = 2 ∨ y = 3) → nkV (256 * 2 + (64 * 1 + 8 * y + 6)) = 41 := by decide +kernel
theorem s_im {c r : vmD} {x b : Int32} {y : Nat} (hy : y < 8) (hc : (y = 0 ∨ y = 2 ∨ y = 3)) (D : Dec c r x b (2) (64 * 1 + 8 * y + 6)) : ExAt c r x (2) (64 * 1 + 8 * y + 6) := by
  obtain ⟨-, hw, hf, he⟩ := cdB_ok (t_im y hy hc)
  unfold ExAt
  rw [hw, hf, he]
  obtain ⟨hR, h59, h60, h61, hnr, hnu, hb, hpc, hx⟩ := D
  have h59 : gF r 42 59 = 2 := h59
  have h60 : gF r 42 60 = nI 0 := h60
  have hb : b = gF r 42 64 := hb (by decide)
  rw [(k_im y hy hc), nu41] at hnu
  rw [im_y y hy hc] at hnu
  exact ex_im hR hc hnu h59 h60 h61 x
theorem s_ldia {c r : vmD} {x b : Int32} (D : Dec c r x b (2) (64 * 1 + 8 * 0 + 7)) : ExAt c r x (2) (64 * 1 + 8 * 0 + 7) := by
  obtain ⟨-, hw, hf, he⟩ := cdB_ok (t_ed70)
  unfold ExAt
  rw [hw, hf, he]
  obtain ⟨hR, h59, h60, h61, hnr, hnu, hb, hpc, hx⟩ := D
  have h59 : gF r 42 59 = 2 := h59
  have h60 : gF r 42 60 = nI 0 := h60
  have hb : b = gF r 42 64 := hb (by decide)
  exact ex_ldia hR h59 h60 h61 x
theorem s_ldra {c r : vmD} {x b : Int32} (D : Dec c r x b (2) (64 * 1 + 8 * 1 + 7)) : ExAt c r x (2) (64 * 1 + 8 * 1 + 7) := by
  obtain ⟨-, hw, hf, he⟩ := cdB_ok (t_ed71)
  unfold ExAt
  rw [hw, hf, he]
  obtain ⟨hR, h59, h60, h61, hnr, hnu, hb, hpc, hx⟩ := D
  have h59 : gF r 42 59 = 2 := h59
  have h60 : gF r 42 60 = nI 0 := h60
  have hb : b = gF r 42 64 := hb (by decide)
  exact ex_ldra hR h59 h60 h61 x
theorem s_ldai {c r : vmD} {x b : Int32} (D : Dec c r x b (2) (64 * 1 + 8 * 2 + 7)) : ExAt c r x (2) (64 * 1 + 8 * 2 + 7) := by
  obtain ⟨-, hw, hf, he⟩ := cdB_ok (t_ed72)
  unfold ExAt
  rw [hw, hf, he]
  obtain ⟨hR, h59, h60, h61, hnr, hnu, hb, hpc, hx⟩ := D
  have h59 : gF r 42 59 = 2 := h59
  have h60 : gF r 42 60 = nI 0 := h60
  have hb : b = gF r 42 64 := hb (by decide)
  exact ex_ldai hR h59 h60 h61 x
theorem s_ldar {c r : vmD} {x b : Int32} (D : Dec c r x b (2) (64 * 1 + 8 * 3 + 7)) : ExAt c r x (2) (64 * 1 + 8 * 3 + 7) := by
  obtain ⟨-, hw, hf, he⟩ := cdB_ok (t_ed73)
  unfold ExAt
  rw [hw, hf, he]
  obtain ⟨hR, h59, h60, h61, hnr, hnu, hb, hpc, hx⟩ := D
  have h59 : gF r 42 59 = 2 := h59
  have h60 : gF r 42 60 = nI 0 := h60
  have hb : b = gF r 42 64 := hb (by decide)
  exact ex_ldar hR h59 h60 h61 x
theorem s_rrd {c r : vmD} {x b : Int32} (D : Dec c r x b (2) (64 * 1 + 8 * 4 + 7)) : ExAt c r x (2) (64 * 1 + 8 * 4 + 7) := by
  obtain ⟨-, hw, hf, he⟩ := cdB_ok (t_ed74)
  unfold ExAt
  rw [hw, hf, he]
  obtain ⟨hR, h59, h60, h61, hnr, hnu, hb, hpc, hx⟩ := D
  have h59 : gF r 42 59 = 2 := h59
  have h60 : gF r 42 60 = nI 0 := h60
  have hb : b = gF r 42 64 := hb (by decide)
  exact ex_rrd hR h59 h60 h61 x
theorem s_rld {c r : vmD} {x b : Int32} (D : Dec c r x b (2) (64 * 1 + 8 * 5 + 7)) : ExAt c r x (2) (64 * 1 + 8 * 5 + 7) := by
  obtain ⟨-, hw, hf, he⟩ := cdB_ok (t_ed75)
  unfold ExAt
  rw [hw, hf, he]
  obtain ⟨hR, h59, h60, h61, hnr, hnu, hb, hpc, hx⟩ := D
  have h59 : gF r 42 59 = 2 := h59
  have h60 : gF r 42 60 = nI 0 := h60
  have hb : b = gF r 42 64 := hb (by decide)
  exact ex_rld hR h59 h60 h61 x
theorem s_ldx {c r : vmD} {x b : Int32} {y : Nat} (hy : y < 8) (hc : 4 ≤ y) (D : Dec c r x b (2) (64 * 2 + 8 * y + 0)) : ExAt c r x (2) (64 * 2 + 8 * y + 0) := by
  obtain ⟨-, hw, hf, he⟩ := cdB_ok (t_blk y hy 0 (by omega) hc)
  unfold ExAt
  rw [hw, hf, he]
  obtain ⟨hR, h59, h60, h61, hnr, hnu, hb, hpc, hx⟩ := D
  have h59 : gF r 42 59 = 2 := h59
  have h60 : gF r 42 60 = nI 0 := h60
  have hb : b = gF r 42 64 := hb (by decide)
  exact ex_ldx hR hc hy h59 h61 x hx
theorem s_cpx {c r : vmD} {x b : Int32} {y : Nat} (hy : y < 8) (hc : 4 ≤ y) (D : Dec c r x b (2) (64 * 2 + 8 * y + 1)) : ExAt c r x (2) (64 * 2 + 8 * y + 1) := by
  obtain ⟨-, hw, hf, he⟩ := cdB_ok (t_blk y hy 1 (by omega) hc)
  unfold ExAt
  rw [hw, hf, he]
  obtain ⟨hR, h59, h60, h61, hnr, hnu, hb, hpc, hx⟩ := D
  have h59 : gF r 42 59 = 2 := h59
  have h60 : gF r 42 60 = nI 0 := h60
  have hb : b = gF r 42 64 := hb (by decide)
  exact ex_cpx hR hc hy h59 h61 x hx
theorem s_inx {c r : vmD} {x b : Int32} {y : Nat} (hy : y < 8) (hc : 4 ≤ y) (D : Dec c r x b (2) (64 * 2 + 8 * y + 2)) : ExAt c r x (2) (64 * 2 + 8 * y + 2) := by
  obtain ⟨-, hw, hf, he⟩ := cdB_ok (t_blk y hy 2 (by omega) hc)
  unfold ExAt
  rw [hw, hf, he]
  obtain ⟨hR, h59, h60, h61, hnr, hnu, hb, hpc, hx⟩ := D
  have h59 : gF r 42 59 = 2 := h59
  have h60 : gF r 42 60 = nI 0 := h60
  have hb : b = gF r 42 64 := hb (by decide)
  exact ex_inx hR hc hy h59 h61 x hx
theorem s_outx {c r : vmD} {x b : Int32} {y : Nat} (hy : y < 8) (hc : 4 ≤ y) (D : Dec c r x b (2) (64 * 2 + 8 * y + 3)) : ExAt c r x (2) (64 * 2 + 8 * y + 3) := by
  obtain ⟨-, hw, hf, he⟩ := cdB_ok (t_blk y hy 3 (by omega) hc)
  unfold ExAt
  rw [hw, hf, he]
  obtain ⟨hR, h59, h60, h61, hnr, hnu, hb, hpc, hx⟩ := D
  have h59 : gF r 42 59 = 2 := h59
  have h60 : gF r 42 60 = nI 0 := h60
  have hb : b = gF r 42 64 := hb (by decide)
  exact ex_outx hR hc hy h59 h61 x hx
theorem n_00_b : ∀ ix, ix < 3 → ∀ y, y < 8 → (decide (ix = 0) || decide (tabS (256 * gX ix + (64 * 0 + 8 * y + 0)) < 0)) = true := by decide +kernel
theorem n_00 : ∀ ix, ix < 3 → ∀ y, y < 8 → (ix = 0) ∨ tabS (256 * gX ix + (64 * 0 + 8 * y + 0)) < 0 := fun ix hix y hy => or_b (n_00_b ix hix y hy)
theorem d_00 {c r : vmD} {x b : Int32} {ix y : Nat} (hix : ix < 3) (hy : y < 8) (hs : ¬ tabS (256 * gX ix + (64 * 0 + 8 * y + 0)) < 0) (D : Dec c r x b (gX ix) (64 * 0 + 8 * y + 0)) : ExAt c r x (gX ix) (64 * 0 + 8 * y + 0) := by
  obtain rfl := (n_00 ix hix y hy).resolve_right hs
  rcases (show y = 0 ∨ y = 1 ∨ y = 2 ∨ y = 3 ∨ 4 ≤ y by omega) with rfl | rfl | rfl | rfl | h4
  · exact s_nop D
  · exact s_exaf D
  · exact s_djnz D
  · exact s_jr D
  · exact s_jrc hy h4 D
theorem n_01_b : ∀ ix, ix < 3 → ∀ p, p < 4 → (decide (ix = 0 ∨ p = 2) || decide (tabS (256 * gX ix + (64 * 0 + 8 * (2 * p) + 1)) < 0)) = true := by decide +kernel
theorem n_01 : ∀ ix, ix < 3 → ∀ p, p < 4 → (ix = 0 ∨ p = 2) ∨ tabS (256 * gX ix + (64 * 0 + 8 * (2 * p) + 1)) < 0 := fun ix hix p hp => or_b (n_01_b ix hix p hp)
theorem d_01 {c r : vmD} {x b : Int32} {ix y : Nat} (hix : ix < 3) (hy : y < 8) (hs : ¬ tabS (256 * gX ix + (64 * 0 + 8 * y + 1)) < 0) (D : Dec c r x b (gX ix) (64 * 0 + 8 * y + 1)) : ExAt c r x (gX ix) (64 * 0 + 8 * y + 1) := by
  obtain ⟨p, q, hp, hq, rfl⟩ : ∃ p q, p < 4 ∧ q < 2 ∧ y = 2 * p + q := ⟨y / 2, y % 2, by omega, by omega, by omega⟩
  rcases (show q = 0 ∨ q = 1 by omega) with rfl | rfl
  · exact s_ldp hix hp ((n_01 ix hix p hp).resolve_right hs) D
  · exact s_addp hix hp D
theorem n_02_b : ∀ ix, ix < 3 → ∀ y, y < 8 → (decide (ix = 0 ∨ y = 4 ∨ y = 5) || decide (tabS (256 * gX ix + (64 * 0 + 8 * y + 2)) < 0)) = true := by decide +kernel
theorem n_02 : ∀ ix, ix < 3 → ∀ y, y < 8 → (ix = 0 ∨ y = 4 ∨ y = 5) ∨ tabS (256 * gX ix + (64 * 0 + 8 * y + 2)) < 0 := fun ix hix y hy => or_b (n_02_b ix hix y hy)
theorem d_02 {c r : vmD} {x b : Int32} {ix y : Nat} (hix : ix < 3) (hy : y < 8) (hs : ¬ tabS (256 * gX ix + (64 * 0 + 8 * y + 2)) < 0) (D : Dec c r x b (gX ix) (64 * 0 + 8 * y + 2)) : ExAt c r x (gX ix) (64 * 0 + 8 * y + 2) := by
  by_cases h4 : y = 4
  · subst h4
    exact s_lm4 hix D
  by_cases h5 : y = 5
  · subst h5
    exact s_lm5 hix D
  obtain rfl : ix = 0 := by
    rcases (n_02 ix hix y hy).resolve_right hs with e | e | e
    · exact e
    · exact absurd e h4
    · exact absurd e h5
  rcases (show y = 0 ∨ y = 1 ∨ y = 2 ∨ y = 3 ∨ y = 6 ∨ y = 7 by omega) with rfl | rfl | rfl | rfl | rfl | rfl
  · exact s_lm0 D
  · exact s_lm1 D
  · exact s_lm2 D
  · exact s_lm3 D
  · exact s_lm6 D
  · exact s_lm7 D
theorem n_03_b : ∀ ix, ix < 3 → ∀ p, p < 4 → ∀ q, q < 2 → (decide (ix = 0 ∨ p = 2) || decide (tabS (256 * gX ix + (64 * 0 + 8 * (2 * p + q) + 3)) < 0)) = true := by decide +kernel
theorem n_03 : ∀ ix, ix < 3 → ∀ p, p < 4 → ∀ q, q < 2 → (ix = 0 ∨ p = 2) ∨ tabS (256 * gX ix + (64 * 0 + 8 * (2 * p + q) + 3)) < 0 := fun ix hix p hp q hq => or_b (n_03_b ix hix p hp q hq)
theorem d_03 {c r : vmD} {x b : Int32} {ix y : Nat} (hix : ix < 3) (hy : y < 8) (hs : ¬ tabS (256 * gX ix + (64 * 0 + 8 * y + 3)) < 0) (D : Dec c r x b (gX ix) (64 * 0 + 8 * y + 3)) : ExAt c r x (gX ix) (64 * 0 + 8 * y + 3) := by
  obtain ⟨p, q, hp, hq, rfl⟩ : ∃ p q, p < 4 ∧ q < 2 ∧ y = 2 * p + q := ⟨y / 2, y % 2, by omega, by omega, by omega⟩
  exact s_incp hix hp hq ((n_03 ix hix p hp q hq).resolve_right hs) D
theorem n_04_b : ∀ ix, ix < 3 → ∀ y, y < 8 → (decide (ix = 0 ∨ y = 6) || decide (tabS (256 * gX ix + (64 * 0 + 8 * y + 4)) < 0)) = true := by decide +kernel
theorem n_04 : ∀ ix, ix < 3 → ∀ y, y < 8 → (ix = 0 ∨ y = 6) ∨ tabS (256 * gX ix + (64 * 0 + 8 * y + 4)) < 0 := fun ix hix y hy => or_b (n_04_b ix hix y hy)
theorem d_04 {c r : vmD} {x b : Int32} {ix y : Nat} (hix : ix < 3) (hy : y < 8) (hs : ¬ tabS (256 * gX ix + (64 * 0 + 8 * y + 4)) < 0) (D : Dec c r x b (gX ix) (64 * 0 + 8 * y + 4)) : ExAt c r x (gX ix) (64 * 0 + 8 * y + 4) := by
  exact s_inc hix hy ((n_04 ix hix y hy).resolve_right hs) D
theorem n_05_b : ∀ ix, ix < 3 → ∀ y, y < 8 → (decide (ix = 0 ∨ y = 6) || decide (tabS (256 * gX ix + (64 * 0 + 8 * y + 5)) < 0)) = true := by decide +kernel
theorem n_05 : ∀ ix, ix < 3 → ∀ y, y < 8 → (ix = 0 ∨ y = 6) ∨ tabS (256 * gX ix + (64 * 0 + 8 * y + 5)) < 0 := fun ix hix y hy => or_b (n_05_b ix hix y hy)
theorem d_05 {c r : vmD} {x b : Int32} {ix y : Nat} (hix : ix < 3) (hy : y < 8) (hs : ¬ tabS (256 * gX ix + (64 * 0 + 8 * y + 5)) < 0) (D : Dec c r x b (gX ix) (64 * 0 + 8 * y + 5)) : ExAt c r x (gX ix) (64 * 0 + 8 * y + 5) := by
  exact s_dec hix hy ((n_05 ix hix y hy).resolve_right hs) D
theorem n_06_b : ∀ ix, ix < 3 → ∀ y, y < 8 → (decide (ix = 0 ∨ y = 6) || decide (tabS (256 * gX ix + (64 * 0 + 8 * y + 6)) < 0)) = true := by decide +kernel
theorem n_06 : ∀ ix, ix < 3 → ∀ y, y < 8 → (ix = 0 ∨ y = 6) ∨ tabS (256 * gX ix + (64 * 0 + 8 * y + 6)) < 0 := fun ix hix y hy => or_b (n_06_b ix hix y hy)
theorem d_06 {c r : vmD} {x b : Int32} {ix y : Nat} (hix : ix < 3) (hy : y < 8) (hs : ¬ tabS (256 * gX ix + (64 * 0 + 8 * y + 6)) < 0) (D : Dec c r x b (gX ix) (64 * 0 + 8 * y + 6)) : ExAt c r x (gX ix) (64 * 0 + 8 * y + 6) := by
  exact s_ldn hix hy ((n_06 ix hix y hy).resolve_right hs) D
theorem n_07_b : ∀ ix, ix < 3 → ∀ y, y < 8 → (decide (ix = 0) || decide (tabS (256 * gX ix + (64 * 0 + 8 * y + 7)) < 0)) = true := by decide +kernel
theorem n_07 : ∀ ix, ix < 3 → ∀ y, y < 8 → (ix = 0) ∨ tabS (256 * gX ix + (64 * 0 + 8 * y + 7)) < 0 := fun ix hix y hy => or_b (n_07_b ix hix y hy)
theorem d_07 {c r : vmD} {x b : Int32} {ix y : Nat} (hix : ix < 3) (hy : y < 8) (hs : ¬ tabS (256 * gX ix + (64 * 0 + 8 * y + 7)) < 0) (D : Dec c r x b (gX ix) (64 * 0 + 8 * y + 7)) : ExAt c r x (gX ix) (64 * 0 + 8 * y + 7) := by
  obtain rfl := (n_07 ix hix y hy).resolve_right hs
  rcases (show y < 4 ∨ y = 4 ∨ y = 5 ∨ y = 6 ∨ y = 7 by omega) with h4 | rfl | rfl | rfl | rfl
  · exact s_turnA hy h4 D
  · exact s_daa D
  · exact s_cpl D
  · exact s_scf D
  · exact s_ccf D
theorem n_1_b : ∀ ix, ix < 3 → ∀ y, y < 8 → ∀ z, z < 8 → (decide ((ix = 0 ∧ y = 6 ∧ z = 6) ∨ (¬ (y = 6 ∧ z = 6) ∧ (ix = 0 ∨ y = 6 ∨ z = 6))) || decide (tabS (256 * gX ix + (64 * 1 + 8 * y + z)) < 0)) = true := by decide +kernel
theorem n_1 : ∀ ix, ix < 3 → ∀ y, y < 8 → ∀ z, z < 8 → ((ix = 0 ∧ y = 6 ∧ z = 6) ∨ (¬ (y = 6 ∧ z = 6) ∧ (ix = 0 ∨ y = 6 ∨ z = 6))) ∨ tabS (256 * gX ix + (64 * 1 + 8 * y + z)) < 0 := fun ix hix y hy z hz => or_b (n_1_b ix hix y hy z hz)
theorem d_1 {c r : vmD} {x b : Int32} {ix y z : Nat} (hix : ix < 3) (hy : y < 8) (hz : z < 8) (hs : ¬ tabS (256 * gX ix + (64 * 1 + 8 * y + z)) < 0) (hh : ¬ (ix = 0 ∧ y = 6 ∧ z = 6)) (D : Dec c r x b (gX ix) (64 * 1 + 8 * y + z)) : ExAt c r x (gX ix) (64 * 1 + 8 * y + z) := by
  exact s_ld hix hy hz (((n_1 ix hix y hy z hz).resolve_right hs).resolve_left hh) D
theorem n_2_b : ∀ ix, ix < 3 → ∀ y, y < 8 → ∀ z, z < 8 → (decide (ix = 0 ∨ z = 6) || decide (tabS (256 * gX ix + (64 * 2 + 8 * y + z)) < 0)) = true := by decide +kernel
theorem n_2 : ∀ ix, ix < 3 → ∀ y, y < 8 → ∀ z, z < 8 → (ix = 0 ∨ z = 6) ∨ tabS (256 * gX ix + (64 * 2 + 8 * y + z)) < 0 := fun ix hix y hy z hz => or_b (n_2_b ix hix y hy z hz)
theorem d_2 {c r : vmD} {x b : Int32} {ix y z : Nat} (hix : ix < 3) (hy : y < 8) (hz : z < 8) (hs : ¬ tabS (256 * gX ix + (64 * 2 + 8 * y + z)) < 0) (D : Dec c r x b (gX ix) (64 * 2 + 8 * y + z)) : ExAt c r x (gX ix) (64 * 2 + 8 * y + z) := by
  exact s_alu hix hy hz ((n_2 ix hix y hy z hz).resolve_right hs) D
theorem n_30_b : ∀ ix, ix < 3 → ∀ y, y < 8 → (decide (ix = 0) || decide (tabS (256 * gX ix + (64 * 3 + 8 * y + 0)) < 0)) = true := by decide +kernel
theorem n_30 : ∀ ix, ix < 3 → ∀ y, y < 8 → (ix = 0) ∨ tabS (256 * gX ix + (64 * 3 + 8 * y + 0)) < 0 := fun ix hix y hy => or_b (n_30_b ix hix y hy)
theorem d_30 {c r : vmD} {x b : Int32} {ix y : Nat} (hix : ix < 3) (hy : y < 8) (hs : ¬ tabS (256 * gX ix + (64 * 3 + 8 * y + 0)) < 0) (D : Dec c r x b (gX ix) (64 * 3 + 8 * y + 0)) : ExAt c r x (gX ix) (64 * 3 + 8 * y + 0) := by
  obtain rfl := (n_30 ix hix y hy).resolve_right hs
  exact s_retc hy D
theorem n_31_b : ∀ ix, ix < 3 → ∀ p, p < 4 → (decide (ix = 0 ∨ p = 2) || decide (tabS (256 * gX ix + (64 * 3 + 8 * (2 * p) + 1)) < 0)) = true := by decide +kernel
theorem n_31 : ∀ ix, ix < 3 → ∀ p, p < 4 → (ix = 0 ∨ p = 2) ∨ tabS (256 * gX ix + (64 * 3 + 8 * (2 * p) + 1)) < 0 := fun ix hix p hp => or_b (n_31_b ix hix p hp)
theorem n_31b_b : ∀ ix, ix < 3 → ∀ p, p < 4 → (decide (ix = 0 ∨ p = 2 ∨ p = 3) || decide (tabS (256 * gX ix + (64 * 3 + 8 * (2 * p + 1) + 1)) < 0)) = true := by decide +kernel
theorem n_31b : ∀ ix, ix < 3 → ∀ p, p < 4 → (ix = 0 ∨ p = 2 ∨ p = 3) ∨ tabS (256 * gX ix + (64 * 3 + 8 * (2 * p + 1) + 1)) < 0 := fun ix hix p hp => or_b (n_31b_b ix hix p hp)
theorem d_31 {c r : vmD} {x b : Int32} {ix y : Nat} (hix : ix < 3) (hy : y < 8) (hs : ¬ tabS (256 * gX ix + (64 * 3 + 8 * y + 1)) < 0) (D : Dec c r x b (gX ix) (64 * 3 + 8 * y + 1)) : ExAt c r x (gX ix) (64 * 3 + 8 * y + 1) := by
  obtain ⟨p, q, hp, hq, rfl⟩ : ∃ p q, p < 4 ∧ q < 2 ∧ y = 2 * p + q := ⟨y / 2, y % 2, by omega, by omega, by omega⟩
  rcases (show q = 0 ∨ q = 1 by omega) with rfl | rfl
  · exact s_pop hix hp ((n_31 ix hix p hp).resolve_right hs) D
  · by_cases h2 : p = 2
    · subst h2
      exact s_jphl hix D
    by_cases h3 : p = 3
    · subst h3
      exact s_ldsp hix D
    obtain rfl : ix = 0 := by
      rcases (n_31b ix hix p hp).resolve_right hs with e | e | e
      · exact e
      · exact absurd e h2
      · exact absurd e h3
    rcases (show p = 0 ∨ p = 1 by omega) with rfl | rfl
    · exact s_ret D
    · exact s_exx D
theorem n_32_b : ∀ ix, ix < 3 → ∀ y, y < 8 → (decide (ix = 0) || decide (tabS (256 * gX ix + (64 * 3 + 8 * y + 2)) < 0)) = true := by decide +kernel
theorem n_32 : ∀ ix, ix < 3 → ∀ y, y < 8 → (ix = 0) ∨ tabS (256 * gX ix + (64 * 3 + 8 * y + 2)) < 0 := fun ix hix y hy => or_b (n_32_b ix hix y hy)
theorem d_32 {c r : vmD} {x b : Int32} {ix y : Nat} (hix : ix < 3) (hy : y < 8) (hs : ¬ tabS (256 * gX ix + (64 * 3 + 8 * y + 2)) < 0) (D : Dec c r x b (gX ix) (64 * 3 + 8 * y + 2)) : ExAt c r x (gX ix) (64 * 3 + 8 * y + 2) := by
  obtain rfl := (n_32 ix hix y hy).resolve_right hs
  exact s_jpc hy D
theorem n_33_b : ∀ ix, ix < 3 → ∀ y, y < 8 → (decide ((ix = 0 ∧ ¬ y = 1) ∨ y = 4) || decide (tabS (256 * gX ix + (64 * 3 + 8 * y + 3)) < 0)) = true := by decide +kernel
theorem n_33 : ∀ ix, ix < 3 → ∀ y, y < 8 → ((ix = 0 ∧ ¬ y = 1) ∨ y = 4) ∨ tabS (256 * gX ix + (64 * 3 + 8 * y + 3)) < 0 := fun ix hix y hy => or_b (n_33_b ix hix y hy)
theorem d_33 {c r : vmD} {x b : Int32} {ix y : Nat} (hix : ix < 3) (hy : y < 8) (hs : ¬ tabS (256 * gX ix + (64 * 3 + 8 * y + 3)) < 0) (hh : ¬ (ix = 0 ∧ y = 7)) (D : Dec c r x b (gX ix) (64 * 3 + 8 * y + 3)) : ExAt c r x (gX ix) (64 * 3 + 8 * y + 3) := by
  by_cases h4 : y = 4
  · subst h4
    exact s_exsp hix D
  obtain ⟨e0, h1⟩ := ((n_33 ix hix y hy).resolve_right hs).resolve_right h4
  subst e0
  rcases (show y = 0 ∨ y = 2 ∨ y = 3 ∨ y = 5 ∨ y = 6 ∨ y = 7 by omega) with rfl | rfl | rfl | rfl | rfl | rfl
  · exact s_jp D
  · exact s_outn D
  · exact s_inn D
  · exact s_exde D
  · exact s_di D
  · exact absurd ⟨rfl, rfl⟩ hh
theorem n_34_b : ∀ ix, ix < 3 → ∀ y, y < 8 → (decide (ix = 0) || decide (tabS (256 * gX ix + (64 * 3 + 8 * y + 4)) < 0)) = true := by decide +kernel
theorem n_34 : ∀ ix, ix < 3 → ∀ y, y < 8 → (ix = 0) ∨ tabS (256 * gX ix + (64 * 3 + 8 * y + 4)) < 0 := fun ix hix y hy => or_b (n_34_b ix hix y hy)
theorem d_34 {c r : vmD} {x b : Int32} {ix y : Nat} (hix : ix < 3) (hy : y < 8) (hs : ¬ tabS (256 * gX ix + (64 * 3 + 8 * y + 4)) < 0) (D : Dec c r x b (gX ix) (64 * 3 + 8 * y + 4)) : ExAt c r x (gX ix) (64 * 3 + 8 * y + 4) := by
  obtain rfl := (n_34 ix hix y hy).resolve_right hs
  exact s_callc hy D
theorem n_35_b : ∀ ix, ix < 3 → ∀ p, p < 4 → (decide (ix = 0 ∨ p = 2) || decide (tabS (256 * gX ix + (64 * 3 + 8 * (2 * p) + 5)) < 0)) = true := by decide +kernel
theorem n_35 : ∀ ix, ix < 3 → ∀ p, p < 4 → (ix = 0 ∨ p = 2) ∨ tabS (256 * gX ix + (64 * 3 + 8 * (2 * p) + 5)) < 0 := fun ix hix p hp => or_b (n_35_b ix hix p hp)
theorem n_35b_b : ∀ ix, ix < 3 → ∀ p, p < 4 → (decide (ix = 0 ∧ p = 0) || decide (tabS (256 * gX ix + (64 * 3 + 8 * (2 * p + 1) + 5)) < 0)) = true := by decide +kernel
theorem n_35b : ∀ ix, ix < 3 → ∀ p, p < 4 → (ix = 0 ∧ p = 0) ∨ tabS (256 * gX ix + (64 * 3 + 8 * (2 * p + 1) + 5)) < 0 := fun ix hix p hp => or_b (n_35b_b ix hix p hp)
theorem d_35 {c r : vmD} {x b : Int32} {ix y : Nat} (hix : ix < 3) (hy : y < 8) (hs : ¬ tabS (256 * gX ix + (64 * 3 + 8 * y + 5)) < 0) (D : Dec c r x b (gX ix) (64 * 3 + 8 * y + 5)) : ExAt c r x (gX ix) (64 * 3 + 8 * y + 5) := by
  obtain ⟨p, q, hp, hq, rfl⟩ : ∃ p q, p < 4 ∧ q < 2 ∧ y = 2 * p + q := ⟨y / 2, y % 2, by omega, by omega, by omega⟩
  rcases (show q = 0 ∨ q = 1 by omega) with rfl | rfl
  · exact s_push hix hp ((n_35 ix hix p hp).resolve_right hs) D
  · obtain ⟨rfl, rfl⟩ := (n_35b ix hix p hp).resolve_right hs
    exact s_call D
theorem n_36_b : ∀ ix, ix < 3 → ∀ y, y < 8 → (decide (ix = 0) || decide (tabS (256 * gX ix + (64 * 3 + 8 * y + 6)) < 0)) = true := by decide +kernel
theorem n_36 : ∀ ix, ix < 3 → ∀ y, y < 8 → (ix = 0) ∨ tabS (256 * gX ix + (64 * 3 + 8 * y + 6)) < 0 := fun ix hix y hy => or_b (n_36_b ix hix y hy)
theorem d_36 {c r : vmD} {x b : Int32} {ix y : Nat} (hix : ix < 3) (hy : y < 8) (hs : ¬ tabS (256 * gX ix + (64 * 3 + 8 * y + 6)) < 0) (D : Dec c r x b (gX ix) (64 * 3 + 8 * y + 6)) : ExAt c r x (gX ix) (64 * 3 + 8 * y + 6) := by
  obtain rfl := (n_36 ix hix y hy).resolve_right hs
  exact s_alun hy D
theorem n_37_b : ∀ ix, ix < 3 → ∀ y, y < 8 → (decide (ix = 0) || decide (tabS (256 * gX ix + (64 * 3 + 8 * y + 7)) < 0)) = true := by decide +kernel
theorem n_37 : ∀ ix, ix < 3 → ∀ y, y < 8 → (ix = 0) ∨ tabS (256 * gX ix + (64 * 3 + 8 * y + 7)) < 0 := fun ix hix y hy => or_b (n_37_b ix hix y hy)
theorem d_37 {c r : vmD} {x b : Int32} {ix y : Nat} (hix : ix < 3) (hy : y < 8) (hs : ¬ tabS (256 * gX ix + (64 * 3 + 8 * y + 7)) < 0) (D : Dec c r x b (gX ix) (64 * 3 + 8 * y + 7)) : ExAt c r x (gX ix) (64 * 3 + 8 * y + 7) := by
  obtain rfl := (n_37 ix hix y hy).resolve_right hs
  exact s_rst hy D
theorem kxyz {k : Nat} (hk : k < 256) : ∃ x y z, x < 4 ∧ y < 8 ∧ z < 8 ∧ k = 64 * x + 8 * y + z := ⟨k / 64, k / 8 % 8, k % 8, by omega, by omega, by omega, by omega⟩
theorem disp_X {c r : vmD} {x b : Int32} {ix k : Nat} (hix : ix < 3) (hk : k < 256) (hs : ¬ tabS (256 * gX ix + k) < 0) (hh : ¬ (ix = 0 ∧ k = 118)) (he : ¬ (ix = 0 ∧ k = 251)) (D : Dec c r x b (gX ix) k) : ExAt c r x (gX ix) k := by
  obtain ⟨x', y, z, hx', hy, hz, rfl⟩ := kxyz hk
  rcases (show x' = 0 ∨ x' = 1 ∨ x' = 2 ∨ x' = 3 by omega) with rfl | rfl | rfl | rfl
  · rcases (show z = 0 ∨ z = 1 ∨ z = 2 ∨ z = 3 ∨ z = 4 ∨ z = 5 ∨ z = 6 ∨ z = 7 by omega) with rfl | rfl | rfl | rfl | rfl | rfl | rfl | rfl
    · exact d_00 hix hy hs D
    · exact d_01 hix hy hs D
    · exact d_02 hix hy hs D
    · exact d_03 hix hy hs D
    · exact d_04 hix hy hs D
    · exact d_05 hix hy hs D
    · exact d_06 hix hy hs D
    · exact d_07 hix hy hs D
  · exact d_1 hix hy hz hs (fun q => hh ⟨q.1, by omega⟩) D
  · exact d_2 hix hy hz hs D
  · rcases (show z = 0 ∨ z = 1 ∨ z = 2 ∨ z = 3 ∨ z = 4 ∨ z = 5 ∨ z = 6 ∨ z = 7 by omega) with rfl | rfl | rfl | rfl | rfl | rfl | rfl | rfl
    · exact d_30 hix hy hs D
    · exact d_31 hix hy hs D
    · exact d_32 hix hy hs D
    · exact d_33 hix hy hs (fun q => he ⟨q.1, by omega⟩) D
    · exact d_34 hix hy hs D
    · exact d_35 hix hy hs D
    · exact d_36 hix hy hs D
    · exact d_37 hix hy hs D
theorem n_B_b : ∀ ix, ix < 3 → ∀ y, y < 8 → ∀ z, z < 8 → (decide (¬ y = 6 ∧ (ix = 0 ∨ z = 6)) || decide (tabS (256 * gB ix + (64 * 0 + 8 * y + z)) < 0)) = true := by decide +kernel
theorem n_B : ∀ ix, ix < 3 → ∀ y, y < 8 → ∀ z, z < 8 → (¬ y = 6 ∧ (ix = 0 ∨ z = 6)) ∨ tabS (256 * gB ix + (64 * 0 + 8 * y + z)) < 0 := fun ix hix y hy z hz => or_b (n_B_b ix hix y hy z hz)
theorem n_B1_b : ∀ ix, ix < 3 → ∀ y, y < 8 → ∀ z, z < 8 → (decide (ix = 0 ∨ z = 6) || decide (tabS (256 * gB ix + (64 * 1 + 8 * y + z)) < 0)) = true := by decide +kernel
theorem n_B1 : ∀ ix, ix < 3 → ∀ y, y < 8 → ∀ z, z < 8 → (ix = 0 ∨ z = 6) ∨ tabS (256 * gB ix + (64 * 1 + 8 * y + z)) < 0 := fun ix hix y hy z hz => or_b (n_B1_b ix hix y hy z hz)
theorem n_B2_b : ∀ ix, ix < 3 → ∀ y, y < 8 → ∀ z, z < 8 → (decide (ix = 0 ∨ z = 6) || decide (tabS (256 * gB ix + (64 * 2 + 8 * y + z)) < 0)) = true := by decide +kernel
theorem n_B2 : ∀ ix, ix < 3 → ∀ y, y < 8 → ∀ z, z < 8 → (ix = 0 ∨ z = 6) ∨ tabS (256 * gB ix + (64 * 2 + 8 * y + z)) < 0 := fun ix hix y hy z hz => or_b (n_B2_b ix hix y hy z hz)
theorem n_B3_b : ∀ ix, ix < 3 → ∀ y, y < 8 → ∀ z, z < 8 → (decide (ix = 0 ∨ z = 6) || decide (tabS (256 * gB ix + (64 * 3 + 8 * y + z)) < 0)) = true := by decide +kernel
theorem n_B3 : ∀ ix, ix < 3 → ∀ y, y < 8 → ∀ z, z < 8 → (ix = 0 ∨ z = 6) ∨ tabS (256 * gB ix + (64 * 3 + 8 * y + z)) < 0 := fun ix hix y hy z hz => or_b (n_B3_b ix hix y hy z hz)
theorem disp_B {c r : vmD} {x b : Int32} {ix k : Nat} (hix : ix < 3) (hk : k < 256) (hs : ¬ tabS (256 * gB ix + k) < 0) (D : Dec c r x b (gB ix) k) : ExAt c r x (gB ix) k := by
  obtain ⟨x', y, z, hx', hy, hz, rfl⟩ := kxyz hk
  rcases (show x' = 0 ∨ x' = 1 ∨ x' = 2 ∨ x' = 3 by omega) with rfl | rfl | rfl | rfl
  · exact s_cbrot hix hy hz ((n_B ix hix y hy z hz).resolve_right hs) D
  · exact s_bit hix hy hz ((n_B1 ix hix y hy z hz).resolve_right hs) D
  · exact s_res hix hy hz ((n_B2 ix hix y hy z hz).resolve_right hs) D
  · exact s_set hix hy hz ((n_B3 ix hix y hy z hz).resolve_right hs) D
theorem n_2x_b : ∀ y, y < 8 → ∀ z, z < 8 → (decide (False) || decide (tabS (256 * 2 + (64 * 0 + 8 * y + z)) < 0)) = true := by decide +kernel
theorem n_2x : ∀ y, y < 8 → ∀ z, z < 8 → (False) ∨ tabS (256 * 2 + (64 * 0 + 8 * y + z)) < 0 := fun y hy z hz => or_b (n_2x_b y hy z hz)
theorem n_2y_b : ∀ y, y < 8 → ∀ z, z < 8 → (decide (False) || decide (tabS (256 * 2 + (64 * 3 + 8 * y + z)) < 0)) = true := by decide +kernel
theorem n_2y : ∀ y, y < 8 → ∀ z, z < 8 → (False) ∨ tabS (256 * 2 + (64 * 3 + 8 * y + z)) < 0 := fun y hy z hz => or_b (n_2y_b y hy z hz)
theorem n_2z_b : ∀ y, y < 8 → ∀ z, z < 8 → (decide (4 ≤ y ∧ z < 4) || decide (tabS (256 * 2 + (64 * 2 + 8 * y + z)) < 0)) = true := by decide +kernel
theorem n_2z : ∀ y, y < 8 → ∀ z, z < 8 → (4 ≤ y ∧ z < 4) ∨ tabS (256 * 2 + (64 * 2 + 8 * y + z)) < 0 := fun y hy z hz => or_b (n_2z_b y hy z hz)
theorem n_20_b : ∀ y, y < 8 → (decide (¬ y = 6) || decide (tabS (256 * 2 + (64 * 1 + 8 * y + 0)) < 0)) = true := by decide +kernel
theorem n_20 : ∀ y, y < 8 → (¬ y = 6) ∨ tabS (256 * 2 + (64 * 1 + 8 * y + 0)) < 0 := fun y hy => or_b (n_20_b y hy)
theorem n_21_b : ∀ y, y < 8 → (decide (¬ y = 6) || decide (tabS (256 * 2 + (64 * 1 + 8 * y + 1)) < 0)) = true := by decide +kernel
theorem n_21 : ∀ y, y < 8 → (¬ y = 6) ∨ tabS (256 * 2 + (64 * 1 + 8 * y + 1)) < 0 := fun y hy => or_b (n_21_b y hy)
theorem n_23_b : ∀ p, p < 4 → ∀ q, q < 2 → (decide (¬ p = 2) || decide (tabS (256 * 2 + (64 * 1 + 8 * (2 * p + q) + 3)) < 0)) = true := by decide +kernel
theorem n_23 : ∀ p, p < 4 → ∀ q, q < 2 → (¬ p = 2) ∨ tabS (256 * 2 + (64 * 1 + 8 * (2 * p + q) + 3)) < 0 := fun p hp q hq => or_b (n_23_b p hp q hq)
theorem n_24_b : ∀ y, y < 8 → (decide (y = 0) || decide (tabS (256 * 2 + (64 * 1 + 8 * y + 4)) < 0)) = true := by decide +kernel
theorem n_24 : ∀ y, y < 8 → (y = 0) ∨ tabS (256 * 2 + (64 * 1 + 8 * y + 4)) < 0 := fun y hy => or_b (n_24_b y hy)
theorem n_25_b : ∀ y, y < 8 → (decide (y = 0 ∨ y = 1) || decide (tabS (256 * 2 + (64 * 1 + 8 * y + 5)) < 0)) = true := by decide +kernel
theorem n_25 : ∀ y, y < 8 → (y = 0 ∨ y = 1) ∨ tabS (256 * 2 + (64 * 1 + 8 * y + 5)) < 0 := fun y hy => or_b (n_25_b y hy)
theorem n_26_b : ∀ y, y < 8 → (decide (y = 0 ∨ y = 2 ∨ y = 3) || decide (tabS (256 * 2 + (64 * 1 + 8 * y + 6)) < 0)) = true := by decide +kernel
theorem n_26 : ∀ y, y < 8 → (y = 0 ∨ y = 2 ∨ y = 3) ∨ tabS (256 * 2 + (64 * 1 + 8 * y + 6)) < 0 := fun y hy => or_b (n_26_b y hy)
theorem n_27_b : ∀ y, y < 8 → (decide (y < 6) || decide (tabS (256 * 2 + (64 * 1 + 8 * y + 7)) < 0)) = true := by decide +kernel
theorem n_27 : ∀ y, y < 8 → (y < 6) ∨ tabS (256 * 2 + (64 * 1 + 8 * y + 7)) < 0 := fun y hy => or_b (n_27_b y hy)
theorem disp_2 {c r : vmD} {x b : Int32} {k : Nat} (hk : k < 256) (hs : ¬ tabS (256 * 2 + k) < 0) (D : Dec c r x b 2 k) : ExAt c r x 2 k := by
  obtain ⟨x', y, z, hx', hy, hz, rfl⟩ := kxyz hk
  rcases (show x' = 0 ∨ x' = 1 ∨ x' = 2 ∨ x' = 3 by omega) with rfl | rfl | rfl | rfl
  · exact ((n_2x y hy z hz).resolve_right hs).elim
  · rcases (show z = 0 ∨ z = 1 ∨ z = 2 ∨ z = 3 ∨ z = 4 ∨ z = 5 ∨ z = 6 ∨ z = 7 by omega) with rfl | rfl | rfl | rfl | rfl | rfl | rfl | rfl
    · exact s_edin hy ((n_20 y hy).resolve_right hs) D
    · exact s_edout hy ((n_21 y hy).resolve_right hs) D
    · obtain ⟨p, q, hp, hq, rfl⟩ : ∃ p q, p < 4 ∧ q < 2 ∧ y = 2 * p + q := ⟨y / 2, y % 2, by omega, by omega, by omega⟩
      rcases (show q = 0 ∨ q = 1 by omega) with rfl | rfl
      · exact s_sbc hp D
      · exact s_adc hp D
    · obtain ⟨p, q, hp, hq, rfl⟩ : ∃ p q, p < 4 ∧ q < 2 ∧ y = 2 * p + q := ⟨y / 2, y % 2, by omega, by omega, by omega⟩
      have h2 := (n_23 p hp q hq).resolve_right hs
      rcases (show q = 0 ∨ q = 1 by omega) with rfl | rfl
      · exact s_ldnnp hp h2 D
      · exact s_ldpnn hp h2 D
    · obtain rfl := (n_24 y hy).resolve_right hs
      exact s_neg D
    · rcases (n_25 y hy).resolve_right hs with rfl | rfl
      · exact s_retn D
      · exact s_reti D
    · exact s_im hy ((n_26 y hy).resolve_right hs) D
    · have h6 := (n_27 y hy).resolve_right hs
      rcases (show y = 0 ∨ y = 1 ∨ y = 2 ∨ y = 3 ∨ y = 4 ∨ y = 5 by omega) with rfl | rfl | rfl | rfl | rfl | rfl
      · exact s_ldia D
      · exact s_ldra D
      · exact s_ldai D
      · exact s_ldar D
      · exact s_rrd D
      · exact s_rld D
  · obtain ⟨h4, hz4⟩ := (n_2z y hy z hz).resolve_right hs
    rcases (show z = 0 ∨ z = 1 ∨ z = 2 ∨ z = 3 by omega) with rfl | rfl | rfl | rfl
    · exact s_ldx hy h4 D
    · exact s_cpx hy h4 D
    · exact s_inx hy h4 D
    · exact s_outx hy h4 D
  · exact ((n_2y y hy z hz).resolve_right hs).elim
theorem disp_all {c r : vmD} {x b : Int32} {g k : Nat} (hg : g < 7) (hk : k < 256) (hs : ¬ tabS (256 * g + k) < 0) (hh : ¬ (g = 0 ∧ k = 118)) (he : ¬ (g = 0 ∧ k = 251)) (D : Dec c r x b g k) : ExAt c r x g k := by
  rcases (show g = 0 ∨ g = 1 ∨ g = 2 ∨ g = 3 ∨ g = 4 ∨ g = 5 ∨ g = 6 by omega) with rfl | rfl | rfl | rfl | rfl | rfl | rfl
  · exact disp_X (ix := 0) (by omega) hk hs (fun q => hh ⟨rfl, q.2⟩) (fun q => he ⟨rfl, q.2⟩) D
  · exact disp_B (ix := 0) (by omega) hk hs D
  · exact disp_2 hk hs D
  · exact disp_X (ix := 1) (by omega) hk hs (fun q => by cases q.1) (fun q => by cases q.1) D
  · exact disp_X (ix := 2) (by omega) hk hs (fun q => by cases q.1) (fun q => by cases q.1) D
  · exact disp_B (ix := 1) (by omega) hk hs D
  · exact disp_B (ix := 2) (by omega) hk hs D
