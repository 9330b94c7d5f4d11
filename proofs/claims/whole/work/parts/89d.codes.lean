/-! The tables say of each code what the families want -/
def gX (ix : Nat) : Nat := if ix = 0 then 0 else ix + 2
def gB (ix : Nat) : Nat := if ix = 0 then 1 else ix + 4
def cdB (n : Nat) (w f e : Int32) : Bool := !(decide (tabS n < 0)) && (decide (wV n = w) && (decide (fV n = f) && decide (eV n = e)))
theorem cdB_ok {n : Nat} {w f e : Int32} (h : cdB n w f e = true) : ¬ tabS n < 0 ∧ wV n = w ∧ fV n = f ∧ eV n = e := by
  unfold cdB at h
  simp only [Bool.and_eq_true, Bool.not_eq_true', decide_eq_true_eq, decide_eq_false_iff_not] at h
  exact h
def alF (y : Nat) (k : Int32) : Int32 := if y = 0 ∨ y = 1 ∨ y = 3 then 8 else k
def alE (y : Nat) (k : Int32) : Int32 := if y = 0 ∨ y = 1 ∨ y = 3 then k else 0
theorem t_ld : ∀ ix, ix < 3 → ∀ y, y < 8 → ∀ z, z < 8 → (((decide (y = 6) && decide (z = 6)) || !(decide (ix = 0) || (decide (y = 6) || decide (z = 6)))) || cdB (256 * gX ix + (64 * 1 + 8 * y + z)) (36) (kO ix y) (kO ix z)) = true := by decide +kernel
theorem t_halt :   cdB (256 * 0 + (64 * 1 + 8 * 6 + 6)) (47) (0) (0) = true := by decide +kernel
theorem t_alu : ∀ ix, ix < 3 → ∀ y, y < 8 → ∀ z, z < 8 → (ix = 0 ∨ z = 6) → cdB (256 * gX ix + (64 * 2 + 8 * y + z)) (nI (48 + y)) (alF y (kO ix z)) (alE y (kO ix z)) = true := by decide +kernel
theorem t_inc : ∀ ix, ix < 3 → ∀ y, y < 8 → (ix = 0 ∨ y = 6) → cdB (256 * gX ix + (64 * 0 + 8 * y + 4)) (37) (kO ix y) (0) = true := by decide +kernel
theorem t_dec : ∀ ix, ix < 3 → ∀ y, y < 8 → (ix = 0 ∨ y = 6) → cdB (256 * gX ix + (64 * 0 + 8 * y + 5)) (38) (kO ix y) (0) = true := by decide +kernel
theorem t_ldn : ∀ ix, ix < 3 → ∀ y, y < 8 → (ix = 0 ∨ y = 6) → cdB (256 * gX ix + (64 * 0 + 8 * y + 6)) (36) (kO ix y) (36) = true := by decide +kernel
theorem t_near0 :   cdB (256 * 0 + (64 * 0 + 8 * 0 + 0)) (32) (0) (0) = true := by decide +kernel
theorem t_near1 :   cdB (256 * 0 + (64 * 0 + 8 * 1 + 0)) (33) (13) (14) = true := by decide +kernel
theorem t_near2 :   cdB (256 * 0 + (64 * 0 + 8 * 2 + 0)) (34) (38) (0) = true := by decide +kernel
theorem t_near3 :   cdB (256 * 0 + (64 * 0 + 8 * 3 + 0)) (35) (38) (0) = true := by decide +kernel
theorem t_jrc : ∀ y, y < 8 → 4 ≤ y → cdB (256 * 0 + (64 * 0 + 8 * y + 0)) (35) (cK (y - 4)) (38) = true := by decide +kernel
theorem t_ldp : ∀ ix, ix < 3 → ∀ p, p < 4 → (ix = 0 ∨ p = 2) → cdB (256 * gX ix + (64 * 0 + 8 * (2 * p) + 1)) (36) (kP ix p) (37) = true := by decide +kernel
theorem t_addp : ∀ ix, ix < 3 → ∀ p, p < 4 →  cdB (256 * gX ix + (64 * 0 + 8 * (2 * p + 1) + 1)) (48) (kP ix 2) (kP ix p) = true := by decide +kernel
theorem t_lm0 :   cdB (256 * 0 + (64 * 0 + 8 * 0 + 2)) (36) (26) (8) = true := by decide +kernel
theorem t_lm1 :   cdB (256 * 0 + (64 * 0 + 8 * 1 + 2)) (36) (8) (26) = true := by decide +kernel
theorem t_lm2 :   cdB (256 * 0 + (64 * 0 + 8 * 2 + 2)) (36) (27) (8) = true := by decide +kernel
theorem t_lm3 :   cdB (256 * 0 + (64 * 0 + 8 * 3 + 2)) (36) (8) (27) = true := by decide +kernel
theorem t_lm6 :   cdB (256 * 0 + (64 * 0 + 8 * 6 + 2)) (36) (43) (8) = true := by decide +kernel
theorem t_lm7 :   cdB (256 * 0 + (64 * 0 + 8 * 7 + 2)) (36) (8) (43) = true := by decide +kernel
theorem t_lm4 : ∀ ix, ix < 3 →  cdB (256 * gX ix + (64 * 0 + 8 * 4 + 2)) (36) (43) (kP ix 2) = true := by decide +kernel
theorem t_lm5 : ∀ ix, ix < 3 →  cdB (256 * gX ix + (64 * 0 + 8 * 5 + 2)) (36) (kP ix 2) (43) = true := by decide +kernel
theorem t_incp : ∀ ix, ix < 3 → ∀ p, p < 4 → ∀ q, q < 2 → (ix = 0 ∨ p = 2) → cdB (256 * gX ix + (64 * 0 + 8 * (2 * p + q) + 3)) (nI (37 + q)) (kP ix p) (0) = true := by decide +kernel
theorem t_turnA : ∀ y, y < 8 → y < 4 → cdB (256 * 0 + (64 * 0 + 8 * y + 7)) (nI (39 + y)) (0) (0) = true := by decide +kernel
theorem t_al4 :   cdB (256 * 0 + (64 * 0 + 8 * 4 + 7)) (43) (0) (0) = true := by decide +kernel
theorem t_al5 :   cdB (256 * 0 + (64 * 0 + 8 * 5 + 7)) (44) (0) (0) = true := by decide +kernel
theorem t_al6 :   cdB (256 * 0 + (64 * 0 + 8 * 6 + 7)) (45) (0) (0) = true := by decide +kernel
theorem t_al7 :   cdB (256 * 0 + (64 * 0 + 8 * 7 + 7)) (46) (0) (0) = true := by decide +kernel
theorem t_retc : ∀ y, y < 8 →  cdB (256 * 0 + (64 * 3 + 8 * y + 0)) (56) (cK y) (0) = true := by decide +kernel
theorem t_pop : ∀ ix, ix < 3 → ∀ p, p < 4 → (ix = 0 ∨ p = 2) → cdB (256 * gX ix + (64 * 3 + 8 * (2 * p) + 1)) (57) (qK ix p) (0) = true := by decide +kernel
theorem t_ret :   cdB (256 * 0 + (64 * 3 + 8 * 1 + 1)) (56) (0) (0) = true := by decide +kernel
theorem t_exx :   cdB (256 * 0 + (64 * 3 + 8 * 3 + 1)) (58) (0) (0) = true := by decide +kernel
theorem t_jphl : ∀ ix, ix < 3 →  cdB (256 * gX ix + (64 * 3 + 8 * 5 + 1)) (59) (jK ix) (0) = true := by decide +kernel
theorem t_ldsp : ∀ ix, ix < 3 →  cdB (256 * gX ix + (64 * 3 + 8 * 7 + 1)) (36) (12) (kP ix 2) = true := by decide +kernel
theorem t_jpc : ∀ y, y < 8 →  cdB (256 * 0 + (64 * 3 + 8 * y + 2)) (59) (cK y) (37) = true := by decide +kernel
theorem t_jp :   cdB (256 * 0 + (64 * 3 + 8 * 0 + 3)) (59) (37) (0) = true := by decide +kernel
theorem t_outn :   cdB (256 * 0 + (64 * 3 + 8 * 2 + 3)) (60) (42) (8) = true := by decide +kernel
theorem t_inn :   cdB (256 * 0 + (64 * 3 + 8 * 3 + 3)) (61) (8) (42) = true := by decide +kernel
theorem t_exsp : ∀ ix, ix < 3 →  cdB (256 * gX ix + (64 * 3 + 8 * 4 + 3)) (33) (28) (kP ix 2) = true := by decide +kernel
theorem t_exde :   cdB (256 * 0 + (64 * 3 + 8 * 5 + 3)) (33) (10) (11) = true := by decide +kernel
theorem t_di :   cdB (256 * 0 + (64 * 3 + 8 * 6 + 3)) (62) (0) (0) = true := by decide +kernel
theorem t_ei :   cdB (256 * 0 + (64 * 3 + 8 * 7 + 3)) (63) (0) (0) = true := by decide +kernel
theorem t_callc : ∀ y, y < 8 →  cdB (256 * 0 + (64 * 3 + 8 * y + 4)) (64) (cK y) (37) = true := by decide +kernel
theorem t_push : ∀ ix, ix < 3 → ∀ p, p < 4 → (ix = 0 ∨ p = 2) → cdB (256 * gX ix + (64 * 3 + 8 * (2 * p) + 5)) (65) (qK ix p) (0) = true := by decide +kernel
theorem t_call :   cdB (256 * 0 + (64 * 3 + 8 * 1 + 5)) (64) (37) (0) = true := by decide +kernel
theorem t_alun : ∀ y, y < 8 →  cdB (256 * 0 + (64 * 3 + 8 * y + 6)) (nI (48 + y)) (alF y 36) (alE y 36) = true := by decide +kernel
theorem t_rst : ∀ y, y < 8 →  cdB (256 * 0 + (64 * 3 + 8 * y + 7)) (66) (40) (0) = true := by decide +kernel
theorem t_cbrot : ∀ ix, ix < 3 → ∀ y, y < 8 → ∀ z, z < 8 → ((decide (y = 6) || !(decide (ix = 0) || decide (z = 6))) || cdB (256 * gB ix + (64 * 0 + 8 * y + z)) (nI (67 + way y)) (kO ix z) (0)) = true := by decide +kernel
theorem t_cb74 : ∀ ix, ix < 3 → ∀ y, y < 8 → ∀ z, z < 8 → (ix = 0 ∨ z = 6) → cdB (256 * gB ix + (64 * 1 + 8 * y + z)) (74) (39) (kO ix z) = true := by decide +kernel
theorem t_cb75 : ∀ ix, ix < 3 → ∀ y, y < 8 → ∀ z, z < 8 → (ix = 0 ∨ z = 6) → cdB (256 * gB ix + (64 * 2 + 8 * y + z)) (75) (39) (kO ix z) = true := by decide +kernel
theorem t_cb76 : ∀ ix, ix < 3 → ∀ y, y < 8 → ∀ z, z < 8 → (ix = 0 ∨ z = 6) → cdB (256 * gB ix + (64 * 3 + 8 * y + z)) (76) (39) (kO ix z) = true := by decide +kernel
theorem t_edin : ∀ y, y < 8 → ¬ y = 6 → cdB (256 * 2 + (64 * 1 + 8 * y + 0)) (61) (kO 0 y) (29) = true := by decide +kernel
theorem t_edout : ∀ y, y < 8 → ¬ y = 6 → cdB (256 * 2 + (64 * 1 + 8 * y + 1)) (60) (29) (kO 0 y) = true := by decide +kernel
theorem t_sbc : ∀ p, p < 4 →  cdB (256 * 2 + (64 * 1 + 8 * (2 * p + 0) + 2)) (51) (11) (kP 0 p) = true := by decide +kernel
theorem t_adc : ∀ p, p < 4 →  cdB (256 * 2 + (64 * 1 + 8 * (2 * p + 1) + 2)) (49) (11) (kP 0 p) = true := by decide +kernel
theorem t_ldnnp : ∀ p, p < 4 → ¬ p = 2 → cdB (256 * 2 + (64 * 1 + 8 * (2 * p) + 3)) (36) (43) (kP 0 p) = true := by decide +kernel
theorem t_ldpnn : ∀ p, p < 4 → ¬ p = 2 → cdB (256 * 2 + (64 * 1 + 8 * (2 * p + 1) + 3)) (36) (kP 0 p) (43) = true := by decide +kernel
theorem t_neg :   cdB (256 * 2 + (64 * 1 + 8 * 0 + 4)) (77) (0) (0) = true := by decide +kernel
theorem t_retn :   cdB (256 * 2 + (64 * 1 + 8 * 0 + 5)) (78) (0) (0) = true := by decide +kernel
theorem t_reti :   cdB (256 * 2 + (64 * 1 + 8 * 1 + 5)) (79) (0) (0) = true := by decide +kernel
theorem t_im : ∀ y, y < 8 → (y = 0 ∨ y = 2 ∨ y = 3) → cdB (256 * 2 + (64 * 1 + 8 * y + 6)) (80) (41) (0) = true := by decide +kernel
theorem t_ed70 :   cdB (256 * 2 + (64 * 1 + 8 * 0 + 7)) (36) (17) (8) = true := by decide +kernel
theorem t_ed71 :   cdB (256 * 2 + (64 * 1 + 8 * 1 + 7)) (36) (18) (8) = true := by decide +kernel
theorem t_ed72 :   cdB (256 * 2 + (64 * 1 + 8 * 2 + 7)) (36) (8) (17) = true := by decide +kernel
theorem t_ed73 :   cdB (256 * 2 + (64 * 1 + 8 * 3 + 7)) (36) (8) (18) = true := by decide +kernel
theorem t_ed74 :   cdB (256 * 2 + (64 * 1 + 8 * 4 + 7)) (81) (0) (0) = true := by decide +kernel
theorem t_ed75 :   cdB (256 * 2 + (64 * 1 + 8 * 5 + 7)) (82) (0) (0) = true := by decide +kernel
theorem t_blk : ∀ y, y < 8 → ∀ z, z < 4 → 4 ≤ y → cdB (256 * 2 + (64 * 2 + 8 * y + z)) (nI (83 + 4 * (y - 4) + z)) (0) (0) = true := by decide +kernel
