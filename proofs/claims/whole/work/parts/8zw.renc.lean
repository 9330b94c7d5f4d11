/-! The reference's instructions: what is encoded -/
theorem stM_self (d : vmD) : stM d (gF d 42) = d := by
  unfold stM
  refine Prod.ext ?_ rfl
  funext o f
  dsimp only
  by_cases z : o = 42 ∧ 29 ≤ f ∧ f ≤ 36
  · rw [if_pos z, z.1]
    rfl
  · rw [if_neg z]
theorem gF_stM (d : vmD) (m : Nat → Int32) {o f : Nat} (h : ¬ (o = 42 ∧ 29 ≤ f ∧ f ≤ 36)) : gF (stM d m) o f = gF d o f := if_neg h
theorem gF_stM' (d : vmD) (m : Nat → Int32) {f : Nat} (h1 : 29 ≤ f) (h2 : f ≤ 36) : gF (stM d m) 42 f = m f := if_pos ⟨rfl, h1, h2⟩
/-- what the reference leaves, at the code x -/
def agP (x : Nat) (m : Nat → Int32) : Prop := m 29 = frG (x / 256) ∧ m 30 = mdG (x / 256) ∧ m 31 = nI (x % 256) ∧ m 36 = mvI (shF x 0) (shF x 1) ∧ m 32 = bkI (shF x 0) + bkI (shF x 1) ∧ m 34 = pkI (shF x 0) ∧ (m 34 = 0 ∨ (m 35 = 0 ∧ x % 256 / 8 % 8 = 0))
theorem agB_P {x : Nat} {m : Nat → Int32} (h : agB x m = true) : agP x m := by
  unfold agB at h
  simp only [Bool.and_eq_true, Bool.or_eq_true, decide_eq_true_eq] at h
  obtain ⟨⟨⟨⟨⟨⟨h1, h2⟩, h3⟩, h4⟩, h5⟩, h6⟩, h7⟩ := h
  exact ⟨h1, h2, h3, h4, h5, h6, h7⟩
theorem no777 : (∀ g, ¬ frG g = 77777) ∧ (∀ g, ¬ mdG g = 77777) ∧ (∀ s t, ¬ mvI s t = 77777) ∧ (∀ s, ¬ pkI s = 77777) ∧ (∀ s t, ¬ bkI s + bkI t = 77777) := by
  refine ⟨fun g => ?_, fun g => ?_, fun s t => ?_, fun s => ?_, fun s t => ?_⟩
  · unfold frG
    repeat' split
    all_goals decide
  · unfold mdG
    repeat' split
    all_goals decide
  · unfold mvI
    repeat' split
    all_goals decide
  · unfold pkI
    repeat' split
    all_goals decide
  · unfold bkI
    repeat' split
    all_goals decide
theorem agP_N {x : Nat} {z z' : Int32 × (Nat → Int32)} {m : Nat → Int32} (h : N2 z z' m tm0) (ha : agP x z'.2) : agP x z.2 := by
  obtain ⟨h1, h2, h3, h4, h5, h6, h7⟩ := ha
  have e : ∀ f v, z'.2 f = v → ¬ v = 77777 → z.2 f = v := by
    intro f v hf hv
    rcases h.2 f with ⟨a, b⟩ | a
    · exfalso
      apply hv
      rw [← hf, b]
      rfl
    · rw [a, hf]
  have n31 : ¬ nI (x % 256) = 77777 := fun q => by
    have := (nI_eq (b := 77777) (by omega) (by omega)).mp q
    omega
  refine ⟨e 29 _ h1 (no777.1 _), e 30 _ h2 (no777.2.1 _), e 31 _ h3 n31, e 36 _ h4 (no777.2.2.1 _ _), e 32 _ h5 (no777.2.2.2.2 _ _), e 34 _ h6 (no777.2.2.2.1 _), ?_⟩
  rcases h7 with q | ⟨q1, q2⟩
  · exact Or.inl (e 34 _ q (by decide))
  · exact Or.inr ⟨e 35 _ q1 (by decide), q2⟩
theorem isI_w : ∀ w, w < 99 → 32 ≤ w → isI w = true := by decide +kernel
theorem encT {w n k0 k1 : Nat} {c1 : Int32} {a1 b1 a0 b0 c0 : Int32} {m : Nat → Int32} (hw : 32 ≤ w ∧ w < 99) (hn : n ≤ 2) (h0 : 0 < n → 0 < k0 ∧ k0 < 36 ∧ a0 = nI (rkT k0) ∧ b0 = nI (rwT k0) ∧ c0 = kbr k0) (h1 : 1 < n → 0 < k1 ∧ k1 < 36 ∧ a1 = nI (rkT k1) ∧ b1 = nI (rwT k1)) (hz0 : n = 0 → k0 = 0) (hz1 : n < 2 → k1 = 0) : match fnT w (adjK w k0) (adjK w k1) with | none => (MO_encode_v (wId w) a0 b0 c0 a1 b1 m (nI n)).1 = 0 | some t => (MO_encode_v (wId w) a0 b0 c0 a1 b1 m (nI n)).1 = 1 ∧ agP t.2.2 (MO_encode_v (wId w) a0 b0 c0 a1 b1 m (nI n)).2 := by
  have hi := isI_w w hw.2 hw.1
  have fin : ∀ (z z' : Int32 × (Nat → Int32)), N2 z z' m tm0 → agA (fnT w (adjK w k0) (adjK w k1)) z' = true → match fnT w (adjK w k0) (adjK w k1) with | none => z.1 = 0 | some t => z.1 = 1 ∧ agP t.2.2 z.2 := by
    intro z z' hN hA
    unfold agA at hA
    cases e : fnT w (adjK w k0) (adjK w k1) with
    | none =>
      rw [e] at hA
      dsimp only at hA ⊢
      rw [hN.1]
      exact of_decide_eq_true hA
    | some t =>
      rw [e] at hA
      dsimp only at hA ⊢
      rw [Bool.and_eq_true, decide_eq_true_eq] at hA
      rw [hN.1]
      exact ⟨hA.1, agP_N hN (agB_P hA.2)⟩
  have : n = 0 ∨ n = 1 ∨ n = 2 := by omega
  rcases this with rfl | rfl | rfl
  · have e0 := hz0 rfl
    have e1 := hz1 (by omega)
    subst e0
    subst e1
    have t := tab0 w (by omega)
    rw [hi, Bool.not_true, Bool.false_or] at t
    have ea := (adjK_lt (w := w) (k := 0)).2.2
    refine fin _ (en0 w) ?_ (by rw [ea]; exact t)
    have e2 : MO_encode_v (wId w) a0 b0 c0 a1 b1 m (nI 0) = MO_encode_v (wId w) 0 0 0 0 0 m 0 := enc_i0 _ _ _ _ _ _ _
    rw [e2]
    exact MO_encode_n
  · obtain ⟨p0, p1, rfl, rfl, rfl⟩ := h0 (by omega)
    have e1 := hz1 (by omega)
    subst e1
    have t := tab1 w (by omega)
    rw [hi, Bool.not_true, Bool.false_or, Nat.all_eq_finRange_all] at t
    have t2 := List.all_eq_true.mp t ⟨k0, p1⟩ (List.mem_finRange _)
    dsimp only at t2
    rw [decide_eq_false (by omega), Bool.false_or] at t2
    have ea := (adjK_lt (w := w) (k := 0)).2.2
    refine fin _ (en1 w k0) ?_ (by rw [ea]; exact t2)
    have e2 : MO_encode_v (wId w) (nI (rkT k0)) (nI (rwT k0)) (kbr k0) a1 b1 m (nI 1) = MO_encode_v (wId w) (nI (rkT k0)) (nI (rwT k0)) (kbr k0) 0 0 m 1 := enc_i1 _ _ _ _ _ _ _
    rw [e2]
    exact MO_encode_n
  · obtain ⟨p0, p1, rfl, rfl, rfl⟩ := h0 (by omega)
    obtain ⟨q0, q1, rfl, rfl⟩ := h1 (by omega)
    have t : agA (fnT w (adjK w k0) (adjK w k1)) (en2 w k0 k1) = true := by
      have two : ∀ t : Bool, t = Nat.all 36 (fun k0 _ => decide (k0 = 0) || Nat.all 36 (fun k1 _ => decide (k1 = 0) || agA (fnT w (adjK w k0) (adjK w k1)) (en2 w k0 k1))) → t = true → agA (fnT w (adjK w k0) (adjK w k1)) (en2 w k0 k1) = true := by
        intro t ht h
        rw [ht, Nat.all_eq_finRange_all] at h
        have t2 := List.all_eq_true.mp h ⟨k0, p1⟩ (List.mem_finRange _)
        dsimp only at t2
        rw [decide_eq_false (by omega), Bool.false_or, Nat.all_eq_finRange_all] at t2
        have t3 := List.all_eq_true.mp t2 ⟨k1, q1⟩ (List.mem_finRange _)
        dsimp only at t3
        rw [decide_eq_false (by omega), Bool.false_or] at t3
        exact t3
      by_cases w36 : w = 36
      · subst w36
        exact two _ rfl tab2l
      · by_cases w50 : w < 50
        · have t := tab2a w w50
          rw [hi, Bool.not_true, Bool.false_or, decide_eq_false w36, Bool.false_or] at t
          exact two _ rfl t
        · by_cases w74 : w < 74
          · have t := tab2b w w74
            rw [decide_eq_false w50, Bool.false_or, hi, Bool.not_true, Bool.false_or] at t
            exact two _ rfl t
          · have t := tab2c w (by omega)
            rw [decide_eq_false w74, Bool.false_or, hi, Bool.not_true, Bool.false_or] at t
            exact two _ rfl t
    refine fin _ (en2 w k0 k1) ?_ t
    exact MO_encode_n
/-- its length -/
def lnX (x : Nat) : Int32 := ((((if 0 < frG (x / 256) then (1 : Int32) else 0) + (if 0 < mdG (x / 256) then (1 : Int32) else 0)) + 1) + (if mvI (shF x 0) (shF x 1) < 0 then (0 : Int32) else 1)) + (if bkI (shF x 0) + bkI (shF x 1) = 2 then (2 : Int32) else if 0 < bkI (shF x 0) + bkI (shF x 1) then 1 else 0)
theorem lnT : ∀ w, w < 107 → (fT w).all (fun t => decide (lnX t.2.2 = nI (szN t.2.2))) = true := by decide +kernel
theorem lenR {r : vmD} {x : Nat} (h : agP x (gF r 42)) (Q : Int32 → vmD → Prop) : MO_lengthOf r Q = Q (lnX x) r := by
  obtain ⟨h1, h2, h3, h4, h5, h6, h7⟩ := h
  unfold MO_lengthOf MO_lengthOf_12 MO_lengthOf_24 MO_lengthOf_39 lnX
  rw [h1, h2, h4, h5]
  by_cases a : 0 < frG (x / 256)
  · by_cases b : 0 < mdG (x / 256)
    · by_cases c : mvI (shF x 0) (shF x 1) < 0
      · by_cases d : bkI (shF x 0) + bkI (shF x 1) = 2
        · simp only [if_pos a, if_pos b, if_pos c, if_pos d]
        · by_cases e : 0 < bkI (shF x 0) + bkI (shF x 1)
          · simp only [if_pos a, if_pos b, if_pos c, if_neg d, if_pos e]
          · simp only [if_pos a, if_pos b, if_pos c, if_neg d, if_neg e]
      · by_cases d : bkI (shF x 0) + bkI (shF x 1) = 2
        · simp only [if_pos a, if_pos b, if_neg c, if_pos d]
        · by_cases e : 0 < bkI (shF x 0) + bkI (shF x 1)
          · simp only [if_pos a, if_pos b, if_neg c, if_neg d, if_pos e]
          · simp only [if_pos a, if_pos b, if_neg c, if_neg d, if_neg e]
    · by_cases c : mvI (shF x 0) (shF x 1) < 0
      · by_cases d : bkI (shF x 0) + bkI (shF x 1) = 2
        · simp only [if_pos a, if_neg b, if_pos c, if_pos d]
        · by_cases e : 0 < bkI (shF x 0) + bkI (shF x 1)
          · simp only [if_pos a, if_neg b, if_pos c, if_neg d, if_pos e]
          · simp only [if_pos a, if_neg b, if_pos c, if_neg d, if_neg e]
      · by_cases d : bkI (shF x 0) + bkI (shF x 1) = 2
        · simp only [if_pos a, if_neg b, if_neg c, if_pos d]
        · by_cases e : 0 < bkI (shF x 0) + bkI (shF x 1)
          · simp only [if_pos a, if_neg b, if_neg c, if_neg d, if_pos e]
          · simp only [if_pos a, if_neg b, if_neg c, if_neg d, if_neg e]
  · by_cases b : 0 < mdG (x / 256)
    · by_cases c : mvI (shF x 0) (shF x 1) < 0
      · by_cases d : bkI (shF x 0) + bkI (shF x 1) = 2
        · simp only [if_neg a, if_pos b, if_pos c, if_pos d]
        · by_cases e : 0 < bkI (shF x 0) + bkI (shF x 1)
          · simp only [if_neg a, if_pos b, if_pos c, if_neg d, if_pos e]
          · simp only [if_neg a, if_pos b, if_pos c, if_neg d, if_neg e]
      · by_cases d : bkI (shF x 0) + bkI (shF x 1) = 2
        · simp only [if_neg a, if_pos b, if_neg c, if_pos d]
        · by_cases e : 0 < bkI (shF x 0) + bkI (shF x 1)
          · simp only [if_neg a, if_pos b, if_neg c, if_neg d, if_pos e]
          · simp only [if_neg a, if_pos b, if_neg c, if_neg d, if_neg e]
    · by_cases c : mvI (shF x 0) (shF x 1) < 0
      · by_cases d : bkI (shF x 0) + bkI (shF x 1) = 2
        · simp only [if_neg a, if_neg b, if_pos c, if_pos d]
        · by_cases e : 0 < bkI (shF x 0) + bkI (shF x 1)
          · simp only [if_neg a, if_neg b, if_pos c, if_neg d, if_pos e]
          · simp only [if_neg a, if_neg b, if_pos c, if_neg d, if_neg e]
      · by_cases d : bkI (shF x 0) + bkI (shF x 1) = 2
        · simp only [if_neg a, if_neg b, if_neg c, if_pos d]
        · by_cases e : 0 < bkI (shF x 0) + bkI (shF x 1)
          · simp only [if_neg a, if_neg b, if_neg c, if_neg d, if_pos e]
          · simp only [if_neg a, if_neg b, if_neg c, if_neg d, if_neg e]
theorem lnX_ok {T : List Tk} {N : Nt} {here : Int32} {t w x : Nat} (hw : w < 107) (h : inX T N here t w = some x) : lnX x = nI (szN x) := by
  unfold inX at h
  cases e : fnT w (adjK w (kdN T N here (t + 1) 0)) (adjK w (kdN T N here (t + 1) 1)) with
  | none => rw [e] at h; cases h
  | some v =>
    rw [e] at h
    have hv : v.2.2 = x := Option.some.inj h
    unfold fnT at e
    have ht := List.all_eq_true.mp (lnT w hw) v (List.mem_of_find?_eq_some e)
    rw [decide_eq_true_eq, hv] at ht
    exact ht
theorem oKd_0 {T : List Tk} {t : Nat} : 0 < oKd T t := by
  unfold oKd
  cases clo T t with
  | none =>
    dsimp only
    split
    · rename_i a
      unfold alonS at a
      rw [Bool.and_eq_true, decide_eq_true_eq] at a
      exact a.1
    · omega
  | some l =>
    dsimp only
    split
    · rename_i a
      unfold atS at a
      rw [Bool.and_eq_true, decide_eq_true_eq, decide_eq_true_eq] at a
      exact a.2
    · split
      · split <;> omega
      · omega
