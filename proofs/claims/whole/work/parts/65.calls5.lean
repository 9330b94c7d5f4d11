/-! The calls feed and labelSign; a name's signs out of its key -/
def fdB (x : Int64) (n : Nat) : Int32 := (Int64.toInt32 (x >>> ((Int32.toInt64 ((8 : Int32) * nI n)) &&& 63))) &&& 255
def fdC (x : Int64) : Nat → Nat → vmD → vmD
  | 0, _, d => d
  | n + 1, k, d => fdC x n (k + 1) (sF (sA d 10 k (fdB x n).toInt8.toInt32.toInt8.toInt32) 9 1 (nI (k + 1)))
def fdR (x : Int64) : Nat → Nat → vmD → vmD
  | 0, _, d => d
  | n + 1, k, d => fdR x n (k + 1) (sF (sA d 43 k (fdB x n)) 42 1 (nI (k + 1)))
theorem nI_m1 (n : Nat) : nI (n + 1) - 1 + (-1) = nI n - 1 := by rw [nI_pred, Int32.sub_eq_add_neg]
theorem OF_feed_loop (x : Int64) : ∀ (n k : Nat) (d : vmD), gF d 9 1 = nI k → k + n ≤ 6000 → ∀ Q : Int32 → vmD → Prop, Q (nI (k + n)) (fdC x n k d) → ∃ m, OF_feed_49 Q m x (nI n - 1) d := by
  intro n
  induction n with
  | zero =>
    intro k d hd hk Q hQ
    refine ⟨1, ?_⟩
    unfold OF_feed_49
    rw [if_pos (by decide)]
    unfold Text_length_src
    rw [hd]
    exact hQ
  | succ n ih =>
    intro k d hd hk Q hQ
    obtain ⟨m, hm⟩ := ih (k + 1) (sF (sA d 10 k (fdB x n).toInt8.toInt32.toInt8.toInt32) 9 1 (nI (k + 1))) (by simp only [gA_sA, gA_sA_ne, gA_sF, gA_sG, gA_sL, gF_sA, gF_sF, gF_sF_ne, gF_sG, gF_sL, gG_sA, gG_sF, gG_sL, gG_sGe, gG_sG_ne, gL_sA, gL_sF, gL_sG, gL_sLe, gL_sL_ne, u1f_eq, u1f_ne, bnd_iff, not_false_eq_true]) (by omega) Q (by rw [show k + 1 + n = k + (n + 1) by omega]; exact hQ)
    refine ⟨m + 1, ?_⟩
    unfold OF_feed_49
    have e2 : nI k < 6000 := nI_lt (b := 6000) (by omega) (by omega)
    rw [nI_m1, nI_pred, if_neg (nI_pos (by omega))]
    simp only [Text_add_src, hd, if_neg (nI_pos (show k < 2 ^ 31 by omega)), if_pos e2, bnd_iff, nI_clamp (show k < 2 ^ 31 by omega), gF_sA, nI_1]
    exact ⟨nI_in (by omega) (by omega), hm⟩
theorem fdB_r (x : Int64) (n : Nat) : Int64.toInt32 ((x >>> ((Int32.toInt64 ((8 : Int32) * nI n)) &&& 63)) &&& 255) = fdB x n := by
  unfold fdB
  rw [Int64.toInt32_and]
  rfl
theorem MO_feed_loop (x : Int64) : ∀ (n k : Nat) (d : vmD), gF d 42 1 = nI k → k + n ≤ 6000 → ∀ Q : Int32 → vmD → Prop, Q (nI (k + n)) (fdR x n k d) → ∃ m, MO_feed_44 Q m x (nI n - 1) d := by
  intro n
  induction n with
  | zero =>
    intro k d hd hk Q hQ
    refine ⟨1, ?_⟩
    unfold MO_feed_44
    rw [if_pos (by decide), hd]
    exact hQ
  | succ n ih =>
    intro k d hd hk Q hQ
    obtain ⟨m, hm⟩ := ih (k + 1) (sF (sA d 43 k (fdB x n)) 42 1 (nI (k + 1))) (by simp only [gA_sA, gA_sA_ne, gA_sF, gA_sG, gA_sL, gF_sA, gF_sF, gF_sF_ne, gF_sG, gF_sL, gG_sA, gG_sF, gG_sL, gG_sGe, gG_sG_ne, gL_sA, gL_sF, gL_sG, gL_sLe, gL_sL_ne, u1f_eq, u1f_ne, bnd_iff, not_false_eq_true]) (by omega) Q (by rw [show k + 1 + n = k + (n + 1) by omega]; exact hQ)
    refine ⟨m + 1, ?_⟩
    unfold MO_feed_44
    rw [nI_m1, nI_pred, if_neg (nI_pos (by omega))]
    simp only [hd, bnd_iff, nI_clamp (show k < 2 ^ 31 by omega), gF_sA, nI_1, fdB_r]
    exact ⟨nI_in (by omega) (by omega), hm⟩
theorem RTxt.step {K k : Nat} {m n : Nat → Int32} (h : ∀ i, i < k → n i = m i &&& 255) (hk : k < K) (x y : Int32) (hx : x &&& 255 = y) : RTxt K (nI (k + 1)) (nI (k + 1)) (u1f m k x) (u1f n k y) := by
  refine ⟨k + 1, by omega, rfl, rfl, fun i hi => ?_⟩
  unfold u1f
  by_cases e : i = k
  · rw [if_pos e, if_pos e, hx]
  · rw [if_neg e, if_neg e]
    exact h i (by omega)
theorem Rel.feed {c r : vmD} (hR : Rel c r) {k : Nat} (hk : gF c 9 1 = nI k) (h6 : k < 6000) (x y : Int32) (hx : x &&& 255 = y) : Rel (sF (sA c 10 k x) 9 1 (nI (k + 1))) (sF (sA r 43 k y) 42 1 (nI (k + 1))) := by
  obtain ⟨q1, q2, ⟨k', h1, h2, h3, h4⟩, q4, q5, q6, q7, q8, q9⟩ := hR
  obtain rfl : k = k' := (nI_eq (by omega) (by omega)).mp (hk.symm.trans h2)
  unfold Rel RTold RReg RReq
  simp only [gA_sA, gA_sA_ne, gA_sF, gA_sG, gA_sL, gF_sA, gF_sF, gF_sF_ne, gF_sG, gF_sL, gG_sA, gG_sF, gG_sL, gG_sGe, gG_sG_ne, gL_sA, gL_sF, gL_sG, gL_sLe, gL_sL_ne, u1f_eq, u1f_ne, bnd_iff, not_false_eq_true, Nat.reduceEqDiff]
  exact ⟨q1, q2, RTxt.step h4 h6 x y hx, q4, q5, q6, q7, q8, q9⟩
theorem Rel.feeds (x : Int64) : ∀ (n k : Nat) (c r : vmD), Rel c r → gF c 9 1 = nI k → k + n ≤ 6000 → Rel (fdC x n k c) (fdR x n k r) := by
  intro n
  induction n with
  | zero => intro k c r h _ _; exact h
  | succ n ih =>
    intro k c r h hk h6
    exact ih (k + 1) _ _ (h.feed hk (by omega) _ _ (by rw [bp_b2]; exact (oct_and _).and)) (by simp only [gA_sA, gA_sA_ne, gA_sF, gA_sG, gA_sL, gF_sA, gF_sF, gF_sF_ne, gF_sG, gF_sL, gG_sA, gG_sF, gG_sL, gG_sGe, gG_sG_ne, gL_sA, gL_sF, gL_sG, gL_sLe, gL_sL_ne, u1f_eq, u1f_ne, bnd_iff, not_false_eq_true]) (by omega)
theorem ok_feed : Ok_feed Rel := by
  intro c r hR x a1
  have hS := hR.2.2.1
  by_cases h0 : a1 < 0
  · exact ⟨-2, c, r, fun Q h => by simp only [OF_feed, if_pos h0]; exact h, fun Q h => by simp only [MO_feed, if_pos h0]; exact h, hR⟩
  by_cases h1 : (8 : Int32) < a1
  · exact ⟨-2, c, r, fun Q h => by simp only [OF_feed, if_neg h0, if_pos h1]; exact h, fun Q h => by simp only [MO_feed, if_neg h0, if_pos h1]; exact h, hR⟩
  by_cases h2 : a1 = 0
  · refine ⟨0, sF c 9 1 0, sF r 42 1 0, fun Q h => ?_, fun Q h => ?_, ?_⟩
    · simp only [OF_feed, if_neg h0, if_neg h1, if_pos h2, Text_empty_src, bnd_iff]; exact h
    · simp only [MO_feed, if_neg h0, if_neg h1, if_pos h2, bnd_iff]; exact h
    · obtain ⟨q1, q2, q3, q4, q5, q6, q7, q8, q9⟩ := hR
      unfold Rel RTold RReg RReq
      simp only [gA_sA, gA_sA_ne, gA_sF, gA_sG, gA_sL, gF_sA, gF_sF, gF_sF_ne, gF_sG, gF_sL, gG_sA, gG_sF, gG_sL, gG_sGe, gG_sG_ne, gL_sA, gL_sF, gL_sG, gL_sLe, gL_sL_ne, u1f_eq, u1f_ne, bnd_iff, not_false_eq_true, Nat.reduceEqDiff]
      exact ⟨q1, q2, ⟨0, by omega, rfl, rfl, fun i hi => absurd hi (by omega)⟩, q4, q5, q6, q7, q8, q9⟩
  obtain ⟨n, hn, rfl⟩ := nat_of_le (n := 8) rfl (by omega) h0 h1
  obtain ⟨k, hk, l1, l2, -⟩ := hS
  by_cases h3 : (6000 : Int32) < nI (k + n)
  · refine ⟨-4, c, r, fun Q h => ?_, fun Q h => ?_, hR⟩
    · simp only [OF_feed, if_neg h0, if_neg h1, if_neg h2, Text_length_src, l1, nI_add, if_pos h3]; exact h
    · simp only [MO_feed, if_neg h0, if_neg h1, if_neg h2, l2, nI_add, if_pos h3]; exact h
  · have h6 : k + n ≤ 6000 := by
      have : ¬ 6000 < k + n := fun h => h3 (nI_lt (a := 6000) h (by omega))
      omega
    refine ⟨nI (k + n), fdC x n k c, fdR x n k r, fun Q h => ?_, fun Q h => ?_, Rel.feeds x n k c r hR l1 h6⟩
    · simp only [OF_feed, if_neg h0, if_neg h1, if_neg h2, Text_length_src, l1, nI_add, if_neg h3, bnd_iff]
      exact OF_feed_loop x n k c l1 h6 Q h
    · simp only [MO_feed, if_neg h0, if_neg h1, if_neg h2, l2, nI_add, if_neg h3, bnd_iff]
      exact MO_feed_loop x n k r l2 h6 Q h
/-! the signs of a name -/
def sgnD (D : Nat) : Int32 := if D = 0 then 39 else if D = 37 then 95 else if D < 27 then nI (64 + D) else nI (21 + D)
theorem sgn_a : ∀ D, D < 38 → (65 : Int32) + nI D - 1 = nI (64 + D) := by decide +kernel
theorem sgn_b : ∀ D, D < 38 → 27 ≤ D → (48 : Int32) + nI D - 27 = nI (21 + D) := by decide +kernel
theorem pow38 : ∀ m, m ≤ 12 → 38 ^ m < 2 ^ 63 := by decide
theorem lN_div38 {n : Nat} (h : n < 2 ^ 63) : lN n / 38 = lN (n / 38) := pk_lDiv (b := 38) h (by omega) (by omega)
theorem lN_rem38 {n : Nat} (h : n < 2 ^ 63) : lN n - lN n / 38 * 38 = lN (n % 38) := pk_lRem (b := 38) h (by omega) (by omega)
theorem div38 (K i : Nat) : K / 38 ^ i / 38 = K / 38 ^ (i + 1) := by rw [Nat.div_div_eq_div_mul, Nat.pow_succ]
theorem signOf51 {K m j : Nat} {d : vmD} {Q : Int32 → vmD → Prop} (hK : K < 2 ^ 63) (hm : m ≤ 12) (h : Q (sgnD (K / 38 ^ (m - 1 - j) % 38)) d) : ∀ (q i : Nat), i = j + q → i + 1 ≤ m → ∃ n, Names_signOf_51 Q n (nI j) (lN (K / 38 ^ (m - 1 - i))) (nI i) d := by
  intro q
  induction q with
  | zero =>
    intro i hi him
    obtain rfl : i = j := by omega
    refine ⟨1, ?_⟩
    have hlt : K / 38 ^ (m - 1 - i) < 2 ^ 63 := Nat.lt_of_le_of_lt (Nat.div_le_self _ _) hK
    unfold Names_signOf_51
    rw [if_neg (nI_nlt (Nat.le_refl _) (by omega)), lN_rem38 hlt, lN_i]
    simp only [bnd_iff]
    have hD : K / 38 ^ (m - 1 - i) % 38 < 38 := Nat.mod_lt _ (by omega)
    revert hD h
    generalize K / 38 ^ (m - 1 - i) % 38 = D
    intro h hD
    unfold sgnD at h
    by_cases e0 : D = 0
    · rw [if_pos e0] at h
      rw [if_pos (by rw [e0]; rfl)]
      exact h
    · rw [if_neg e0] at h
      rw [if_neg (nI_ne0 (by omega) (by omega))]
      by_cases e1 : D = 37
      · rw [if_pos e1] at h
        rw [if_pos (by rw [e1]; rfl)]
        exact h
      · rw [if_neg e1] at h
        have e4 : ¬ nI D = 37 := fun e => e1 ((nI_eq (b := 37) (by omega) (by omega)).mp e)
        rw [if_neg e4]
        by_cases e2 : D < 27
        · rw [if_pos e2] at h
          have e3 : nI D < 27 := nI_lt (b := 27) e2 (by omega)
          rw [if_pos e3, sgn_a D hD]
          exact h
        · rw [if_neg e2] at h
          have e3 : ¬ nI D < 27 := nI_nlt (b := 27) (by omega) (by omega)
          rw [if_neg e3, sgn_b D hD (by omega)]
          exact h
  | succ q ih =>
    intro i hi him
    obtain ⟨n, hn⟩ := ih (i - 1) (by omega) (by omega)
    refine ⟨n + 1, ?_⟩
    have hlt : K / 38 ^ (m - 1 - i) < 2 ^ 63 := Nat.lt_of_le_of_lt (Nat.div_le_self _ _) hK
    unfold Names_signOf_51
    rw [if_pos (nI_lt (by omega) (by omega)), lN_div38 hlt, div38]
    simp only [bnd_iff]
    rw [show m - 1 - i + 1 = m - 1 - (i - 1) by omega, show nI i + (-1) = nI (i - 1) by
      rw [← Int32.sub_eq_add_neg, show i = (i - 1) + 1 by omega, nI_pred, Nat.add_sub_cancel]]
    exact hn
theorem signOf5 {K m : Nat} {x2 : Int32} {d : vmD} {Q : Int32 → vmD → Prop} (hK : K < 38 ^ m) (hK2 : m = 0 ∨ 38 ^ (m - 1) ≤ K) (hm : m ≤ 12) (h : Names_signOf_32 (lN K) x2 (nI m) d Q) : ∀ (q i : Nat), i + q = m → ∃ n, Names_signOf_5 Q n (lN K) x2 (nI i) (lN (K / 38 ^ i)) d := by
  have hK3 : K < 2 ^ 63 := Nat.lt_trans hK (pow38 m hm)
  intro q
  induction q with
  | zero =>
    intro i hi
    obtain rfl : i = m := by omega
    refine ⟨1, ?_⟩
    unfold Names_signOf_5
    rw [Nat.div_eq_of_lt hK, if_neg (by rw [lg_cmp_gt]; exact fun h => absurd ((pk_lLT (a := 0) (b := 0) (by omega) (by omega)).mp h) (by omega))]
    exact h
  | succ q ih =>
    intro i hi
    obtain ⟨n, hn⟩ := ih (i + 1) (by omega)
    refine ⟨n + 1, ?_⟩
    have hlt : K / 38 ^ i < 2 ^ 63 := Nat.lt_of_le_of_lt (Nat.div_le_self _ _) hK3
    have hpos : 0 < K / 38 ^ i := by
      refine Nat.div_pos (Nat.le_trans (Nat.pow_le_pow_right (by omega) (show i ≤ m - 1 by omega)) ?_) (Nat.pow_pos (by omega))
      rcases hK2 with e | e
      · omega
      · exact e
    have e3 : nI i < 12 := nI_lt (b := 12) (by omega) (by omega)
    unfold Names_signOf_5
    rw [if_pos (by rw [lg_cmp_gt]; exact (pk_lLT (a := 0) (by omega) hlt).mpr hpos), if_pos e3]
    simp only [bnd_iff, nI_1, lN_div38 hlt, div38]
    exact hn
theorem signOf_no {K m : Nat} {x2 : Int32} {d : vmD} {Q : Int32 → vmD → Prop} (hK : K < 38 ^ m) (hK2 : m = 0 ∨ 38 ^ (m - 1) ≤ K) (hm : m ≤ 12) (hx : x2 < 0 ∨ ¬ x2 < nI m) (h : Q (-1) d) : Names_signOf (lN K) x2 d Q := by
  have := signOf5 (x2 := x2) (d := d) (Q := Q) hK hK2 hm (by
    unfold Names_signOf_32
    rcases hx with hx | hx
    · rw [if_pos hx]; exact h
    · by_cases e : x2 < 0
      · rw [if_pos e]; exact h
      · rw [if_neg e, if_neg hx]; exact h) m 0 (by omega)
  rw [Nat.pow_zero, Nat.div_one] at this
  exact this
theorem signOf_at {K m j : Nat} {d : vmD} {Q : Int32 → vmD → Prop} (hK : K < 38 ^ m) (hK2 : m = 0 ∨ 38 ^ (m - 1) ≤ K) (hm : m ≤ 12) (hj : j < m) (h : Q (sgnD (K / 38 ^ (m - 1 - j) % 38)) d) : Names_signOf (lN K) (nI j) d Q := by
  have := signOf5 (x2 := nI j) (d := d) (Q := Q) hK hK2 hm (by
    unfold Names_signOf_32
    rw [if_neg (nI_pos (by omega)), if_pos (nI_lt hj (by omega))]
    simp only [bnd_iff]
    have h5 := signOf51 (j := j) (Nat.lt_trans hK (pow38 m hm)) hm h (m - 1 - j) (m - 1) (by omega) (by omega)
    rw [Nat.sub_self, Nat.pow_zero, Nat.div_one] at h5
    rw [show nI m - 1 = nI (m - 1) by rw [show m = (m - 1) + 1 by omega, nI_pred, Nat.add_sub_cancel]]
    exact h5) m 0 (by omega)
  rw [Nat.pow_zero, Nat.div_one] at this
  exact this
theorem dig_let : ∀ k, k < 26 → sgnD (digN (nI (65 + k))) = nI (65 + k) ∧ 1 ≤ digN (nI (65 + k)) ∧ digN (nI (65 + k)) < 38 := by decide +kernel
theorem dig_dig : ∀ k, k < 10 → sgnD (digN (nI (48 + k))) = nI (48 + k) ∧ 1 ≤ digN (nI (48 + k)) ∧ digN (nI (48 + k)) < 38 := by decide +kernel
theorem dig_ok {c : Int32} (h : nmSign c) : sgnD (digN c) = c ∧ 1 ≤ digN c ∧ digN c < 38 := by
  rcases h with rfl | ⟨k, hk, rfl⟩ | ⟨k, hk, rfl⟩
  · decide +kernel
  · exact dig_let k hk
  · exact dig_dig k hk
theorem keyN_b {ch : Nat → Int32} : ∀ m, (∀ j, j < m → nmSign (ch j)) → keyN ch m < 38 ^ m ∧ (m = 0 ∨ 38 ^ (m - 1) ≤ keyN ch m) := by
  intro m
  induction m with
  | zero => intro _; exact ⟨Nat.one_pos, Or.inl rfl⟩
  | succ m ih =>
    intro h
    obtain ⟨i1, i2⟩ := ih (fun j hj => h j (by omega))
    obtain ⟨-, d1, d2⟩ := dig_ok (h m (by omega))
    unfold keyN
    rw [Nat.pow_succ]
    refine ⟨by omega, Or.inr ?_⟩
    rw [Nat.add_sub_cancel]
    rcases i2 with e | e
    · subst e
      rw [Nat.pow_zero]
      omega
    · rcases m with _ | m
      · rw [Nat.pow_zero]; omega
      · rw [Nat.add_sub_cancel] at e
        rw [Nat.pow_succ]
        omega
theorem keyN_d {ch : Nat → Int32} : ∀ m, (∀ j, j < m → nmSign (ch j)) → ∀ j, j < m → keyN ch m / 38 ^ (m - 1 - j) % 38 = digN (ch j) := by
  intro m
  induction m with
  | zero => intro _ j hj; omega
  | succ m ih =>
    intro h j hj
    obtain ⟨-, d1, d2⟩ := dig_ok (h m (by omega))
    unfold keyN
    by_cases e : j = m
    · subst e
      rw [show j + 1 - 1 - j = 0 by omega, Nat.pow_zero, Nat.div_one]
      omega
    · have := ih (fun j hj => h j (by omega)) j (by omega)
      rw [show m + 1 - 1 - j = (m - 1 - j) + 1 by omega, Nat.pow_succ, Nat.mul_comm (38 ^ _) 38, ← Nat.div_div_eq_div_mul, show (keyN ch m * 38 + digN (ch m)) / 38 = keyN ch m by omega]
      exact this
theorem ok_labelSign : Ok_labelSign Rel := by
  intro c r hR a0 a1
  obtain ⟨k, hk, l1, l2, hl⟩ := hR.2.2.2.1
  have hz : ∀ Q : Int32 → vmD → Prop, Q (-1) c → Names_signOf 0 a1 c Q := fun Q h => signOf_no (K := 0) (m := 0) (by decide) (Or.inl rfl) (by omega) (by
    by_cases e : a1 < 0
    · exact Or.inl e
    · exact Or.inr e) h
  by_cases h0 : a0 < 0
  · exact ⟨-1, c, r, fun Q h => by simp only [OF_labelSign, Names_labelKey, Names_labelKey_28, if_pos h0]; exact hz _ h, fun Q h => by simp only [MO_labelSign, if_pos h0]; exact h, hR⟩
  by_cases h1 : a0 < nI k
  · obtain ⟨j, hj, rfl⟩ := nat_of (n := k) rfl (by omega) h0 h1
    have h2 : nI j < 200 := nI_lt (b := 200) (by omega) (by omega)
    obtain ⟨-, m, m1, m2, es, hc, ek⟩ := hl j hj
    obtain ⟨b1, b2⟩ := keyN_b m hc
    have hgo : ∀ Q : Int32 → vmD → Prop, Names_signOf (lN (keyN (fun i => gA r 59 (12 * j + i)) m)) a1 c Q → OF_labelSign (nI j) a1 c Q := fun Q h => by
      simp only [OF_labelSign, Names_labelKey, if_neg h0, l1, if_pos h1, if_pos h2, bnd_iff, clampN hj (by omega), ek]
      exact ⟨nI_in (by omega) (by omega), h⟩
    by_cases h3 : a1 < 0
    · refine ⟨-1, c, r, fun Q h => hgo Q (signOf_no b1 b2 m2 (Or.inl h3) h), fun Q h => ?_, hR⟩
      simp only [MO_labelSign, if_neg h0, l2, if_pos h1, if_pos h3]
      exact h
    by_cases h4 : a1 < nI m
    · obtain ⟨i, hi, rfl⟩ := nat_of (n := m) rfl (by omega) h3 h4
      refine ⟨gA r 59 (12 * j + i), c, r, fun Q h => hgo Q (signOf_at b1 b2 m2 hi ?_), fun Q h => ?_, hR⟩
      · rw [keyN_d m hc i hi, (dig_ok (hc i hi)).1]
        exact h
      · have e5 : (12 : Int32) * nI j + nI i = nI (12 * j + i) := by
          rw [← nI_add]
          congr 1
          show nI 12 * nI j = _
          exact (by first | exact pk_mul _ _ | (unfold nI; rw [Int32.ofNat_mul]))
        simp only [MO_labelSign, if_neg h0, l2, if_pos h1, if_neg h3, bnd_iff, clampN hj (by omega), es, if_pos h4, e5, clampN (show 12 * j + i < 2400 by omega) (by omega)]
        exact ⟨nI_in (by omega) (by omega), nI_in (by omega) (by omega), h⟩
    · refine ⟨-1, c, r, fun Q h => hgo Q (signOf_no b1 b2 m2 (Or.inr h4) h), fun Q h => ?_, hR⟩
      simp only [MO_labelSign, if_neg h0, l2, if_pos h1, if_neg h3, bnd_iff, clampN hj (by omega), es, if_neg h4]
      exact ⟨nI_in (by omega) (by omega), h⟩
  · exact ⟨-1, c, r, fun Q h => by simp only [OF_labelSign, Names_labelKey, Names_labelKey_28, if_neg h0, l1, if_neg h1]; exact hz _ h, fun Q h => by simp only [MO_labelSign, if_neg h0, l2, if_neg h1]; exact h, hR⟩
