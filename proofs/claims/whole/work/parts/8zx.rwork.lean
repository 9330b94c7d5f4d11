/-! The reference's instructions: operands are looked at -/
theorem far_eq (x : Int32) : (x <<< ((16 : Int32) &&& 31)) >>> ((16 : Int32) &&& 31) = Int16.toInt32 (Int32.toInt16 x) := by
  apply Int32.toBitVec_inj.mp
  rw [Int32.toBitVec_shiftRight, Int32.toBitVec_shiftLeft]
  have e1 : (((16 : Int32) &&& 31).toBitVec.smod 32) = 16#32 := by decide
  have e2 : (Int16.toInt32 (Int32.toInt16 x)).toBitVec = (x.toBitVec.setWidth 16).signExtend 32 := by
    have e3 : BitVec.signExtend 16 x.toBitVec = BitVec.setWidth 16 x.toBitVec := by
      first
        | exact BitVec.signExtend_eq_setWidth_of_le _ (by decide)
        | exact BitVec.signExtend_eq_setWidth_of_lt _ (by decide)
    rw [← e3]
    simp
  rw [e1, e2]
  apply BitVec.eq_of_getLsbD_eq
  intro i hi
  rw [BitVec.sshiftRight_eq', BitVec.shiftLeft_eq']
  show BitVec.getLsbD (BitVec.sshiftRight (x.toBitVec <<< (16 : Nat)) 16) i = _
  rw [BitVec.getLsbD_sshiftRight, BitVec.getLsbD_signExtend]
  by_cases a : i < 16
  · have a1 : ¬ 32 ≤ i := by omega
    have a2 : 16 + i < 32 := by omega
    have a3 : 16 + i - 16 = i := by omega
    simp only [a, a1, a2, a3, hi, decide_true, decide_false, Bool.not_false, Bool.true_and, if_true, BitVec.getLsbD_shiftLeft, BitVec.getLsbD_setWidth, show ¬ 16 + i < 16 by omega]
  · have a1 : ¬ 32 ≤ i := by omega
    have a2 : ¬ 16 + i < 32 := by omega
    simp only [a, a1, a2, hi, decide_true, decide_false, Bool.not_false, Bool.true_and, if_false, BitVec.msb_eq_getLsbD_last, BitVec.getLsbD_shiftLeft, BitVec.getLsbD_setWidth]
    simp
theorem sub3 (a b c : Int32) : a - (b + c) = a - b - c := by
  rw [Int32.sub_eq_add_neg, Int32.neg_add, Int32.sub_eq_add_neg, Int32.sub_eq_add_neg, Int32.sub_eq_add_neg, Int32.add_assoc]
theorem wk5 {r : vmD} (h8 : gF r 42 8 = 0) (p : Nat) : ∃ r', (∀ Q : Int32 → vmD → Prop, Q 0 r' → MO_work_133 (nI p) r Q) ∧ (∀ Q : Int32 → vmD → Prop, Q 0 r' → MO_work_291 (nI p) r Q) ∧ (∀ Q : Int32 → vmD → Prop, Q 0 r' → MO_work_328 (nI p) r Q) ∧ (∀ Q : Int32 → vmD → Prop, Q 0 r' → MO_work_380 (nI p) r Q) ∧ (∀ Q : Int32 → vmD → Prop, Q 0 r' → MO_work_242 (nI p) 0 r Q) ∧ FlR r' (5, p) ∧ ModR [8, 9] [] r r' := by
  obtain ⟨r', E, a, M, -⟩ := wrgR h8 5 p
  have z : ∀ Q : Int32 → vmD → Prop, Q 0 r' → (if (0 : Int32) = 0 then Q 0 r' else Q 1 r') := fun Q hQ => by rw [if_pos rfl]; exact hQ
  refine ⟨r', fun Q hQ => ?_, fun Q hQ => ?_, fun Q hQ => ?_, fun Q hQ => ?_, fun Q hQ => ?_, a, M⟩
  · unfold MO_work_133
    exact E _ (z Q hQ)
  · unfold MO_work_291
    exact E _ (z Q hQ)
  · unfold MO_work_328
    exact E _ (z Q hQ)
  · unfold MO_work_380
    exact E _ (z Q hQ)
  · unfold MO_work_242
    rw [if_pos rfl]
    exact E _ (z Q hQ)
theorem xvlR {B : Nat → Nat} {n : Nat} {r : vmD} {T : List Tk} {N : Nt} {here : Int32} {i q : Nat} (hLn : LnR B n r T N here) (h8 : gF r 42 8 = 0) (hi : i < 2) (h52 : gA r 52 i = nI (plaT T q)) (hq : q < T.length) (ok : xok T N here q = true) : ∃ r1, (∀ Q : Int32 → vmD → Prop, Q (gF r1 42 22) r1 → MO_expValue (nI i) r Q) ∧ ModR RF RA r r1 ∧ ((xT T N here q = none ∧ gF r1 42 8 = 0 ∧ gF r1 42 22 = xvl T N here q) ∨ (∃ e, xT T N here q = some e ∧ FlR r1 e)) := by
  have hL := hLn.2.1
  have hk : ¬ (tk T q).1 = 0 := by
    intro z
    have h1 := xat_gt ok
    have h2 := exprLt hL (N := N) (here := here) hq
    have := ((hL.2.2 q hq).1.mp (by omega))
    omega
  obtain ⟨r0, E0, C0, M0⟩ := goToR hLn hq hk
  have h80 : gF r0 42 8 = 0 := by
    rw [M0.2.1 8 (by decide)]
    exact h8
  obtain ⟨r1, b, E1, M1, H1⟩ := xprR true hq (hLn.mod M0 (by decide) (by decide)) C0 h80
  rw [if_pos rfl, xF_ok ok] at H1
  refine ⟨r1, fun Q hQ => ?_, (M0.mono (by decide) (by decide)).trans M1, ?_⟩
  · unfold MO_expValue
    refine ⟨nI_in (by omega) (by omega), bnd_iff.mpr ?_⟩
    rw [nI_clamp (by omega), h52]
    exact E0 _ (E1 _ hQ)
  · cases e : xT T N here q with
    | none =>
      obtain ⟨-, -, g1, -, g2⟩ := H1.good e
      exact Or.inl ⟨rfl, g1, g2 rfl⟩
    | some v => exact Or.inr ⟨v, rfl, (H1.bad e).2⟩
/-- what tables say of a code's kinds -/
theorem rawT : ∀ w, w < 107 → (fT w).all (fun t => !(decide (shF t.2.2 0 = 34)) && !(decide (shF t.2.2 0 = 35)) && !(decide (shF t.2.2 1 = 34)) && !(decide (shF t.2.2 1 = 35)) && !((decide (30 ≤ t.1) && decide (t.1 ≤ 33)) && (decide (30 ≤ t.2.1) && decide (t.2.1 ≤ 33)))) = true := by decide +kernel
theorem raw_ok {T : List Tk} {N : Nt} {here : Int32} {t w x : Nat} (hw : w < 107) (h : inX T N here t w = some x) : (∀ i, i < 2 → ¬ shF x i = 34 ∧ ¬ shF x i = 35) ∧ ¬ ((30 ≤ adjK w (kdN T N here (t + 1) 0) ∧ adjK w (kdN T N here (t + 1) 0) ≤ 33) ∧ (30 ≤ adjK w (kdN T N here (t + 1) 1) ∧ adjK w (kdN T N here (t + 1) 1) ≤ 33)) := by
  unfold inX at h
  cases e : fnT w (adjK w (kdN T N here (t + 1) 0)) (adjK w (kdN T N here (t + 1) 1)) with
  | none => rw [e] at h; cases h
  | some v =>
    rw [e] at h
    have hv : v.2.2 = x := Option.some.inj h
    unfold fnT at e
    have hp := List.find?_some e
    rw [Bool.and_eq_true, decide_eq_true_eq, decide_eq_true_eq] at hp
    have ht := List.all_eq_true.mp (rawT w hw) v (List.mem_of_find?_eq_some e)
    simp only [Bool.and_eq_true, Bool.not_eq_true', decide_eq_false_iff_not, Bool.and_eq_false_iff] at ht
    rw [hv, hp.1, hp.2] at ht
    obtain ⟨⟨⟨⟨t1, t2⟩, t3⟩, t4⟩, t5⟩ := ht
    refine ⟨fun i hi => ?_, fun q => ?_⟩
    · have : i = 0 ∨ i = 1 := by omega
      rcases this with rfl | rfl
      · exact ⟨t1, t2⟩
      · exact ⟨t3, t4⟩
    · omega
/-- kinds behind an operand with an exp of its own -/
theorem asr_34 {s : Int32} (h : asrI s = 34) (n34 : ¬ s = 34) : s = 36 ∨ s = 37 ∨ s = 38 ∨ s = 39 ∨ s = 40 ∨ s = 41 := by
  unfold asrI at h
  by_cases a : s < 36
  · rw [if_pos a] at h
    split at h
    · exact absurd h (by decide)
    · split at h
      · exact absurd h (by decide)
      · exact absurd h n34
  · rw [if_neg a] at h
    by_cases b : 41 < s
    · rw [if_pos b] at h
      split at h
      · exact absurd h (by decide)
      · split at h
        · exact absurd h (by decide)
        · exact absurd h n34
    · obtain ⟨j, hj, e⟩ := nat_of_le (n := 41) (N := 41) rfl (by omega) (show ¬ s < 0 from fun q => a (by
        have h1 := Int32.lt_iff_toInt_lt.mp q
        have e0 : (0 : Int32).toInt = 0 := by decide
        have e36 : (36 : Int32).toInt = 36 := by decide
        rw [e0] at h1
        exact Int32.lt_iff_toInt_lt.mpr (by rw [e36]; omega))) b
      subst e
      have : ¬ j < 36 := fun q => a (show nI j < (36 : Int32) from nI_lt (b := 36) q (by omega))
      have : j = 36 ∨ j = 37 ∨ j = 38 ∨ j = 39 ∨ j = 40 ∨ j = 41 := by omega
      rcases this with rfl | rfl | rfl | rfl | rfl | rfl
      · exact Or.inl rfl
      · exact Or.inr (Or.inl rfl)
      · exact Or.inr (Or.inr (Or.inl rfl))
      · exact Or.inr (Or.inr (Or.inr (Or.inl rfl)))
      · exact Or.inr (Or.inr (Or.inr (Or.inr (Or.inl rfl))))
      · exact Or.inr (Or.inr (Or.inr (Or.inr (Or.inr rfl))))
theorem asr_35 {s : Int32} (h : asrI s = 35) (n35 : ¬ s = 35) : s = 42 ∨ s = 43 := by
  unfold asrI at h
  by_cases a : s < 36
  · rw [if_pos a] at h
    by_cases c : s = 42
    · exact Or.inl c
    · rw [if_neg c] at h
      by_cases d : s = 43
      · exact Or.inr d
      · rw [if_neg d] at h
        exact absurd h n35
  · rw [if_neg a] at h
    by_cases b : 41 < s
    · rw [if_pos b] at h
      by_cases c : s = 42
      · exact Or.inl c
      · rw [if_neg c] at h
        by_cases d : s = 43
        · exact Or.inr d
        · rw [if_neg d] at h
          exact absurd h n35
    · rw [if_neg b] at h
      exact absurd h (by decide)
abbrev WF : List Nat := [2, 3, 4, 5, 6, 8, 9, 16, 18, 19, 22, 55, 56, 57]
/-- what an operand's look leaves -/
def WkS (T : List Tk) (N : Nt) (here : Int32) (p h w x i : Nat) (r r' : vmD) : Prop := gF r' 42 8 = 0 ∧ (shF x i = 32 ∨ shF x i = 33 → gF r' 42 56 = vlI T N here p i) ∧ (¬ (30 ≤ adjK w (kdN T N here p i) ∧ adjK w (kdN T N here p i) ≤ 33) → gF r' 42 56 = gF r 42 56) ∧ (¬ pkI (shF x i) = 0 → gF r' 42 55 = vlI T N here p i) ∧ (pkI (shF x i) = 0 → gF r' 42 55 = gF r 42 55) ∧ (¬ bkI (shF x i) = 0 → gF r' 42 57 = cvI T N here p h x i) ∧ (bkI (shF x i) = 0 → gF r' 42 57 = gF r 42 57)
theorem kb_dd (k : Nat) : kb (decide (k = 30) || decide (k = 31)) = 0 ↔ ¬ (k = 30 ∨ k = 31) := by
  rw [kb_0, Bool.or_eq_true, decide_eq_true_eq, decide_eq_true_eq]
theorem rkT_3 : ∀ k, k < 36 → ((rkT k = 14 ↔ 30 ≤ k ∧ k ≤ 33) ∧ (rkT k = 16 ↔ k = 34) ∧ (rkT k = 15 ↔ k = 35)) ∧ rkT k < 20 := by decide +kernel
theorem oKd_fr {T : List Tk} {t : Nat} : ((oKd T t = 30 ∨ oKd T t = 31) → oFr T t = none) ∧ (32 ≤ oKd T t → ∃ q, oFr T t = some q) := by
  unfold oKd oFr
  cases clo T t with
  | none =>
    dsimp only
    by_cases a : alonS T t = true
    · rw [if_pos a, if_pos a]
      unfold alonS at a
      rw [Bool.and_eq_true, Bool.and_eq_true, decide_eq_true_eq, decide_eq_true_eq] at a
      exact ⟨fun _ => rfl, fun q => by omega⟩
    · rw [if_neg a, if_neg a]
      exact ⟨fun q => by omega, fun _ => ⟨_, rfl⟩⟩
  | some l =>
    dsimp only
    have := pOf_lt (nmI T (t + 1))
    by_cases a : atS T t l = true
    · rw [if_pos a, if_pos a]
      exact ⟨fun _ => rfl, fun q => by omega⟩
    · rw [if_neg a, if_neg a]
      by_cases b : nearS T t = true
      · rw [if_pos b, if_pos b]
        exact ⟨fun q => by split at q <;> omega, fun _ => ⟨_, rfl⟩⟩
      · rw [if_neg b, if_neg b]
        exact ⟨fun q => by omega, fun _ => ⟨_, rfl⟩⟩
theorem mod8 {k : Nat} (hk : k ≤ 56) : (nI k - nI k / 8 * 8 = 0) ↔ (nI k &&& 7 = 0) := by
  have : ∀ k, k < 57 → ((nI k - nI k / 8 * 8 = 0) ↔ (nI k &&& 7 = 0)) := by decide +kernel
  exact this k (by omega)
theorem oKd_fr' {T : List Tk} {t q : Nat} (h : oFr T t = some q) : 32 ≤ oKd T t := by
  unfold oFr at h
  unfold oKd
  cases hc : clo T t with
  | none =>
    rw [hc] at h
    dsimp only at h ⊢
    by_cases a : alonS T t = true
    · rw [if_pos a] at h
      cases h
    · rw [if_neg a]
      omega
  | some l =>
    rw [hc] at h
    dsimp only at h ⊢
    by_cases a : atS T t l = true
    · rw [if_pos a] at h
      cases h
    · rw [if_neg a]
      split
      · split <;> omega
      · omega
