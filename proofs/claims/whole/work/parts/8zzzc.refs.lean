/-! The references behind the constructors; our world at the law's loop -/
def endL : List (Nat × Nat) := [(42, 81), (42, 80), (42, 74), (42, 71), (42, 70), (42, 69), (42, 67), (42, 65), (42, 54), (42, 53), (42, 52), (42, 44), (42, 43), (42, 38), (42, 37), (42, 27), (42, 26), (42, 25), (42, 24), (42, 23), (42, 17), (42, 15), (42, 14), (42, 12), (42, 11), (42, 10), (42, 0), (0, 7), (38, 1), (38, 0), (38, 4), (38, 3), (38, 2), (0, 6), (20, 8), (33, 2), (33, 1), (33, 0), (33, 6), (33, 5), (33, 4), (33, 3), (20, 7), (28, 1), (28, 0), (28, 5), (28, 4), (28, 3), (28, 2), (20, 6), (24, 1), (24, 0), (24, 4), (24, 3), (24, 2), (20, 3), (20, 2), (20, 1), (20, 0), (20, 5), (22, 0), (20, 4), (0, 5), (19, 2), (19, 1), (19, 0), (15, 2), (15, 1), (15, 0), (0, 4), (13, 0), (0, 3), (11, 0), (0, 2), (9, 0), (0, 1), (3, 4), (3, 3), (3, 2), (3, 1), (3, 0), (0, 0), (1, 0)]
theorem cond_ap {b : Bool} {g h : Nat → Nat} {f : Nat} (hg : g f = 0) (hh : h f = 0) : (bif b then g else h) f = 0 := by
  cases b
  · exact hh
  · exact hg
theorem cond_ap0 {b : Bool} {x y : Nat} (hx : x = 0) (hy : y = 0) : (bif b then x else y) = 0 := by
  cases b
  · exact hy
  · exact hx
theorem cz {b : Bool} {x : Nat} (hb : b = false) : (bif b then x else 0) = 0 := by rw [hb]; rfl
theorem czf {b : Bool} {g : Nat → Nat} {f : Nat} (hb : b = false) : (bif b then g else fun _ => 0) f = 0 := by rw [hb]; rfl
set_option maxRecDepth 100000 in
theorem endL_ok : (List.range 70).all (fun o => (List.range 128).all (fun f => Nat.beq (S0r o f) 0 || inL o f endL)) = true := by decide +kernel
theorem S0r_far {o f : Nat} (h : 70 ≤ o ∨ 128 ≤ f) : S0r o f = 0 := by
  rcases h with h | h
  · have hl : ∀ c, c ≤ 70 → Nat.blt o c = false := fun c hc => by
      cases e : Nat.blt o c with
      | false => rfl
      | true => exact absurd (Nat.le_of_ble_eq_true e) (by omega)
    have hb : ∀ c, c < 70 → Nat.beq o c = false := fun c hc => by
      cases e : Nat.beq o c with
      | false => rfl
      | true => exact absurd (Nat.eq_of_beq_eq_true e) (by omega)
    unfold S0r
    repeat' (first | exact czf (hb _ (by decide)) | apply cond_ap)
  · have hl : ∀ c, c ≤ 128 → Nat.blt f c = false := fun c hc => by
      cases e : Nat.blt f c with
      | false => rfl
      | true => exact absurd (Nat.le_of_ble_eq_true e) (by omega)
    have hb : ∀ c, c < 128 → Nat.beq f c = false := fun c hc => by
      cases e : Nat.beq f c with
      | false => rfl
      | true => exact absurd (Nat.eq_of_beq_eq_true e) (by omega)
    have xS0r_0 : S0r_0 f = 0 := by
      unfold S0r_0
      repeat' (first | exact cz (hb _ (by decide)) | apply cond_ap0)
    have xS0r_1 : S0r_1 f = 0 := by
      unfold S0r_1
      repeat' (first | exact cz (hb _ (by decide)) | apply cond_ap0)
    have xS0r_3 : S0r_3 f = 0 := by
      unfold S0r_3
      repeat' (first | exact cz (hb _ (by decide)) | apply cond_ap0)
    have xS0r_9 : S0r_9 f = 0 := by
      unfold S0r_9
      repeat' (first | exact cz (hb _ (by decide)) | apply cond_ap0)
    have xS0r_11 : S0r_11 f = 0 := by
      unfold S0r_11
      repeat' (first | exact cz (hb _ (by decide)) | apply cond_ap0)
    have xS0r_13 : S0r_13 f = 0 := by
      unfold S0r_13
      repeat' (first | exact cz (hb _ (by decide)) | apply cond_ap0)
    have xS0r_15 : S0r_15 f = 0 := by
      unfold S0r_15
      repeat' (first | exact cz (hb _ (by decide)) | apply cond_ap0)
    have xS0r_19 : S0r_19 f = 0 := by
      unfold S0r_19
      repeat' (first | exact cz (hb _ (by decide)) | apply cond_ap0)
    have xS0r_20 : S0r_20 f = 0 := by
      unfold S0r_20
      repeat' (first | exact cz (hb _ (by decide)) | apply cond_ap0)
    have xS0r_22 : S0r_22 f = 0 := by
      unfold S0r_22
      repeat' (first | exact cz (hb _ (by decide)) | apply cond_ap0)
    have xS0r_24 : S0r_24 f = 0 := by
      unfold S0r_24
      repeat' (first | exact cz (hb _ (by decide)) | apply cond_ap0)
    have xS0r_28 : S0r_28 f = 0 := by
      unfold S0r_28
      repeat' (first | exact cz (hb _ (by decide)) | apply cond_ap0)
    have xS0r_33 : S0r_33 f = 0 := by
      unfold S0r_33
      repeat' (first | exact cz (hb _ (by decide)) | apply cond_ap0)
    have xS0r_38 : S0r_38 f = 0 := by
      unfold S0r_38
      repeat' (first | exact cz (hb _ (by decide)) | apply cond_ap0)
    have xS0r_42 : S0r_42 f = 0 := by
      unfold S0r_42
      repeat' (first | exact cz (hb _ (by decide)) | apply cond_ap0)
    unfold S0r
    repeat' (first | rfl | exact xS0r_0 | exact xS0r_1 | exact xS0r_3 | exact xS0r_9 | exact xS0r_11 | exact xS0r_13 | exact xS0r_15 | exact xS0r_19 | exact xS0r_20 | exact xS0r_22 | exact xS0r_24 | exact xS0r_28 | exact xS0r_33 | exact xS0r_38 | exact xS0r_42 | apply cond_ap)
theorem Rq_far {o f : Nat} (h : 70 ≤ o ∨ 128 ≤ f) : Rq endL o f = 0 := by
  unfold Rq
  rw [S0r_far h]
  cases inL o f endL <;> rfl
theorem Rq_end : Rq endL = S0r := by
  funext o f
  by_cases h : 70 ≤ o ∨ 128 ≤ f
  · rw [Rq_far h, S0r_far h]
  · have q := rg_all (rg_all endL_ok (show o < 70 by omega)) (show f < 128 by omega)
    unfold Rq
    cases e : inL o f endL with
    | true => rfl
    | false =>
      rw [e, Bool.or_false] at q
      exact (Nat.eq_of_beq_eq_true q).symm
theorem wK_end (L : Nat) (d : vmD) : wK 70 endL 255720 L d = wC L d d := by
  unfold wK wC S0
  rw [Rq_end, mrg_self]
