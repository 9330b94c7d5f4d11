/-! Operands: the reference reads one -/
def rkT (k : Nat) : Nat := if k ≤ 6 ∨ k = 8 then 1 else if k = 7 then 9 else if k ≤ 12 then 2 else if k = 13 then 3 else if k = 14 then 4 else if k ≤ 16 then 5 else if k = 17 then 6 else if k = 18 then 7 else if k ≤ 25 then 8 else if k = 26 then 10 else if k = 27 then 11 else if k = 28 then 12 else if k = 29 then 13 else if k ≤ 33 then 14 else if k = 34 then 16 else 15
def rwT (k : Nat) : Nat := if k ≤ 6 then k - 1 else if k = 7 then 0 else if k = 8 then 7 else if k ≤ 12 then k - 9 else if k = 15 then 1 else if k = 16 then 2 else if k = 20 then 1 else if k = 21 then 2 else if k ≤ 21 then 0 else if k ≤ 25 then k - 18 else if k = 30 ∨ k = 32 then 1 else if k = 31 ∨ k = 33 then 2 else 0
def srK (W : Int64) : Int32 := if MO_register8_v W < 0 then (if MO_pair_v W < 0 then (if MO_index_v W < 0 then (if MO_condition_v W < 0 then (if lg_cmp W 16710 = 0 then 3 else if lg_cmp W 4277799 = 0 then 4 else if lg_cmp W 73 = 0 then 6 else 7) else 8) else 5) else 2) else 1
def srW (W : Int64) : Int32 := if MO_register8_v W < 0 then (if MO_pair_v W < 0 then (if MO_index_v W < 0 then (if MO_condition_v W < 0 then 0 else MO_condition_v W) else MO_index_v W) else MO_pair_v W) else MO_register8_v W
def plS (W : Int64) : Int32 := if lg_cmp W 18508 = 0 then 9 else if lg_cmp W 16963 = 0 then 10 else if lg_cmp W 17477 = 0 then 11 else if lg_cmp W 21328 = 0 then 12 else if lg_cmp W 67 = 0 then 13 else 0
def plT (i : Nat) : Nat := if i = 11 then 9 else if i = 9 then 10 else if i = 10 then 11 else if i = 12 then 12 else if i = 2 then 13 else 0
theorem sr_i : ∀ i, i < 26 → (decide (kK (tabN i) = 0) || (decide (srK (wId i) = nI (rkT i)) && decide (srW (wId i) = nI (rwT i)))) = true := by decide +kernel
theorem reg_i : ∀ i, i < 107 → (decide (kK (tabN i) = 0) || decide (MO_isRegister_v (wId i) = if 0 < i ∧ i ≤ 25 then 1 else 0)) = true := by decide +kernel
theorem pl_i : ∀ i, i < 107 → (decide (kK (tabN i) = 0) || (decide (plS (wId i) = nI (plT i)) && decide (MO_index_v (wId i) = if i = 15 then 1 else if i = 16 then 2 else -1))) = true := by decide +kernel
theorem reg_K {K : Nat} (hg : goodK K) : MO_isRegister_v (wOfK K) = if 0 < idN K ∧ idN K ≤ 25 then 1 else 0 := by
  by_cases h : idN K = 0
  · rw [MO_isRegister_0 hg h, if_neg (by omega)]
  · have := reg_i (idN K) (idN_lt K)
    rw [Bool.or_eq_true, decide_eq_true_eq, decide_eq_true_eq] at this
    rw [wId_k h]
    exact this.resolve_left (idN_p h)
theorem sr_K {K : Nat} (h : 0 < idN K ∧ idN K ≤ 25) : srK (wOfK K) = nI (rkT (idN K)) ∧ srW (wOfK K) = nI (rwT (idN K)) := by
  have := sr_i (idN K) (by omega)
  rw [Bool.or_eq_true, Bool.and_eq_true, decide_eq_true_eq, decide_eq_true_eq, decide_eq_true_eq] at this
  have h0 : ¬ idN K = 0 := by omega
  rw [wId_k h0]
  exact this.resolve_left (idN_p h0)
theorem pl_K {K : Nat} (hg : goodK K) : plS (wOfK K) = nI (plT (idN K)) ∧ MO_index_v (wOfK K) = if idN K = 15 then 1 else if idN K = 16 then 2 else -1 := by
  by_cases h : idN K = 0
  · rw [MO_index_0 hg h, h]
    refine ⟨?_, by decide⟩
    unfold plS
    rw [if_neg (show ¬ lg_cmp (wOfK K) 18508 = 0 from noW hg h 18508 (by decide) (by decide) (by decide +kernel)), if_neg (show ¬ lg_cmp (wOfK K) 16963 = 0 from noW hg h 16963 (by decide) (by decide) (by decide +kernel)), if_neg (show ¬ lg_cmp (wOfK K) 17477 = 0 from noW hg h 17477 (by decide) (by decide) (by decide +kernel)), if_neg (show ¬ lg_cmp (wOfK K) 21328 = 0 from noW hg h 21328 (by decide) (by decide) (by decide +kernel)), if_neg (show ¬ lg_cmp (wOfK K) 67 = 0 from noW hg h 67 (by decide) (by decide) (by decide +kernel))]
    rfl
  · have := pl_i (idN K) (idN_lt K)
    rw [Bool.or_eq_true, Bool.and_eq_true, decide_eq_true_eq, decide_eq_true_eq, decide_eq_true_eq] at this
    rw [wId_k h]
    exact this.resolve_left (idN_p h)
abbrev ROF : List Nat := [2, 3, 4, 5, 6, 8, 9, 16, 18, 19, 22, 28]
abbrev ROA : List Nat := [47, 48, 49, 50, 51, 52, 53, 54]
def ROx (r : vmD) (i k : Nat) (ng : Bool) : Prop := gA r 50 i = nI (rkT k) ∧ gA r 51 i = nI (rwT k) ∧ gA r 53 i = kb ng ∧ gA r 54 i = kb (decide (k = 30) || decide (k = 31))
/-- what stays of the operands -/
def RO (i : Nat) (r r' : vmD) : Prop := ∀ o j, 50 ≤ o → o ≤ 54 → ¬ j = i → gA r' o j = gA r o j
theorem setRegR {r : vmD} {i : Nat} (hi : i < 8) (W : Int64) (h51 : gA r 51 i = 0) : ∃ r', (∀ Q : vmD → Prop, Q r' → MO_setRegister (nI i) W r Q) ∧ gA r' 50 i = srK W ∧ gA r' 51 i = srW W ∧ (∀ j, ¬ j = i → gA r' 50 j = gA r 50 j ∧ gA r' 51 j = gA r 51 j) ∧ ModR [] [50, 51] r r' ∧ gG r' = gG r := by
  have hix : ixOk (nI i) 8 := nI_in (by omega) (by omega)
  have hic : (nI i).toNatClampNeg = i := nI_clamp (by omega)
  have two : ∀ (k w : Int32), gA (sA (sA r 50 i k) 51 i w) 50 i = k ∧ gA (sA (sA r 50 i k) 51 i w) 51 i = w ∧ (∀ j, ¬ j = i → gA (sA (sA r 50 i k) 51 i w) 50 j = gA r 50 j ∧ gA (sA (sA r 50 i k) 51 i w) 51 j = gA r 51 j) ∧ ModR [] [50, 51] r (sA (sA r 50 i k) 51 i w) ∧ gG (sA (sA r 50 i k) 51 i w) = gG r := by
    intro k w
    refine ⟨?_, ?_, fun j hj => ⟨?_, ?_⟩, ((ModR.refl [] [50, 51] r).sA (by decide) _ _).sA (by decide) _ _, rfl⟩
    · rw [gA_sA_ne _ _ _ (by decide), gA_sA, u1f_eq]
    · rw [gA_sA, u1f_eq]
    · rw [gA_sA_ne _ _ _ (by decide), gA_sA, u1f_ne _ _ hj]
    · rw [gA_sA, u1f_ne _ _ hj, gA_sA_ne _ _ _ (by decide)]
  have one : ∀ (k : Int32), gA (sA r 50 i k) 50 i = k ∧ gA (sA r 50 i k) 51 i = 0 ∧ (∀ j, ¬ j = i → gA (sA r 50 i k) 50 j = gA r 50 j ∧ gA (sA r 50 i k) 51 j = gA r 51 j) ∧ ModR [] [50, 51] r (sA r 50 i k) ∧ gG (sA r 50 i k) = gG r := by
    intro k
    refine ⟨?_, ?_, fun j hj => ⟨?_, ?_⟩, (ModR.refl [] [50, 51] r).sA (by decide) _ _, rfl⟩
    · rw [gA_sA, u1f_eq]
    · rw [gA_sA_ne _ _ _ (by decide), h51]
    · rw [gA_sA, u1f_ne _ _ hj]
    · rw [gA_sA_ne _ _ _ (by decide)]
  have l161 : ∀ (k : Int32) (Q : vmD → Prop), Q (sA r 50 i k) → MO_setRegister_161 k (nI i) r Q := by
    intro k Q hQ
    unfold MO_setRegister_161
    rw [hic]
    exact ⟨hix, bnd_iff.mpr hQ⟩
  unfold srK srW MO_setRegister
  by_cases a : MO_register8_v W < 0
  · simp only [if_pos a, MO_register8_e, MO_pair_e]
    by_cases b : MO_pair_v W < 0
    · simp only [if_pos b, MO_index_e]
      by_cases e : MO_index_v W < 0
      · simp only [if_pos e, MO_condition_e]
        by_cases g : MO_condition_v W < 0
        · simp only [if_pos g]
          by_cases z1 : lg_cmp W 16710 = 0
          · simp only [if_pos z1]
            exact ⟨_, fun Q hQ => l161 3 Q hQ, one 3⟩
          · simp only [if_neg z1]
            by_cases z2 : lg_cmp W 4277799 = 0
            · simp only [if_pos z2]
              exact ⟨_, fun Q hQ => l161 4 Q hQ, one 4⟩
            · simp only [if_neg z2]
              by_cases z3 : lg_cmp W 73 = 0
              · simp only [if_pos z3]
                exact ⟨_, fun Q hQ => l161 6 Q hQ, one 6⟩
              · simp only [if_neg z3]
                exact ⟨_, fun Q hQ => l161 7 Q hQ, one 7⟩
        · simp only [if_neg g, hic]
          exact ⟨_, fun Q hQ => ⟨hix, bnd_iff.mpr ⟨hix, bnd_iff.mpr hQ⟩⟩, two 8 _⟩
      · simp only [if_neg e, hic]
        exact ⟨_, fun Q hQ => ⟨hix, bnd_iff.mpr ⟨hix, bnd_iff.mpr hQ⟩⟩, two 5 _⟩
    · simp only [if_neg b, hic, MO_pair_e]
      exact ⟨_, fun Q hQ => ⟨hix, bnd_iff.mpr ⟨hix, bnd_iff.mpr hQ⟩⟩, two 2 _⟩
  · simp only [if_neg a, hic, MO_register8_e]
    exact ⟨_, fun Q hQ => ⟨hix, bnd_iff.mpr ⟨hix, bnd_iff.mpr hQ⟩⟩, two 1 _⟩
theorem endsR {r : vmD} {T : List Tk} {p : Nat} (hC : CurR r (tk T p)) (hk : (tk T p).1 < 128) (Q : Int32 → vmD → Prop) : MO_endsOperand r Q = Q (kb (ends T p)) r := by
  have k1 : rkd (tk T p).1 = 1 ↔ (tk T p).1 = 0 := by
    have : ∀ k, k < 128 → (rkd k = 1 ↔ k = 0) := by decide +kernel
    exact this _ hk
  unfold MO_endsOperand
  rw [hC.1, show (44 : Int32) = nI 44 from rfl, sign_e hC hk (by omega) (by omega) (by omega) (by omega)]
  by_cases z : (tk T p).1 = 0
  · have e : ends T p = true := by
      unfold ends
      rw [decide_eq_true z]
      rfl
    rw [if_pos (k1.mpr z), e]
    rfl
  · rw [if_neg (fun w => z (k1.mp w))]
    by_cases z2 : (tk T p).1 = 44
    · have e : ends T p = true := by
        unfold ends
        rw [decide_eq_true z2, Bool.or_true]
      rw [if_pos z2, if_neg (by decide), e]
      rfl
    · have e : ends T p = false := by
        unfold ends
        rw [decide_eq_false z, decide_eq_false z2]
        rfl
      rw [if_neg z2, if_pos rfl, e]
      rfl
theorem goToR {B : Nat → Nat} {n : Nat} {r : vmD} {T : List Tk} {N : Nt} {here : Int32} (h : LnR B n r T N here) {t : Nat} (ht : t < T.length) (hk : ¬ (tk T t).1 = 0) : ∃ r', (∀ Q : vmD → Prop, Q r' → MO_goTo (nI (tk T t).2.1) r Q) ∧ CurR r' (tk T t) ∧ ModR LF [] r r' := by
  obtain ⟨h0, h1, h2, h3, h4⟩ := h
  obtain ⟨q1, q2, q3, q4, q5, q6, -⟩ := h1.2.2 t ht
  obtain ⟨r', E, C, M⟩ := goTo_ok h0 h2 q6
  exact ⟨r', E, by rw [← q5 hk]; exact C, M⟩
/-- the reference looks for an operand's bracket -/
theorem plLoop {B : Nat → Nat} {n : Nat} {T : List Tk} {N : Nt} {here : Int32} {t : Nat} (ht : t < T.length) (hk0 : ¬ (tk T t).1 = 0) : ∀ (f p d : Nat) (r : vmD), T.length ≤ p + f → p < T.length → 1 ≤ d → d ≤ p + 1 → LnR B n r T N here → CurR r (tk T p) → ∃ r', CurR r' (tk T t) ∧ ModR LF [] r r' ∧ ∀ Q : Int32 → vmD → Prop, Q (kb (cl T d p).isSome) r' → ∃ m, MO_isPlace_12 Q m (nI (tk T t).2.1) (nI d) 0 1 r := by
  intro f
  induction f with
  | zero => intro p d r hf hp; exact absurd hp (by omega)
  | succ f ih =>
    intro p d r hf hp hd hdp hLn hC
    have hL := hLn.2.1
    have hl := hL.2.1
    have hkd := tk_kd hL p
    have k1 : rkd (tk T p).1 = 1 ↔ (tk T p).1 = 0 := by
      have : ∀ k, k < 128 → (rkd k = 1 ↔ k = 0) := by decide +kernel
      exact this _ hkd
    have k0 : rkd (tk T p).1 = 0 ↔ (tk T p).1 = 1 := by
      have : ∀ k, k < 128 → (rkd k = 0 ↔ k = 1) := by decide +kernel
      exact this _ hkd
    have sg40 := sign_e hC hkd (s := 40) (by omega) (by omega) (by omega) (by omega)
    have sg41 := sign_e hC hkd (s := 41) (by omega) (by omega) (by omega) (by omega)
    have fin : ∀ (r2 : vmD) (b : Bool), LnR B n r2 T N here → ∃ r', CurR r' (tk T t) ∧ ModR LF [] r2 r' ∧ ∀ (x2 : Int32) (Q : Int32 → vmD → Prop), Q (kb b) r' → MO_isPlace_12 Q 1 (nI (tk T t).2.1) x2 (kb b) 0 r2 := by
      intro r2 b h2
      obtain ⟨r', E, C, M⟩ := goToR h2 ht hk0
      refine ⟨r', C, M, fun x2 Q hQ => ?_⟩
      unfold MO_isPlace_12
      rw [if_pos rfl]
      exact E _ ⟨by cases b <;> decide, hQ⟩
    rw [cl_e hp]
    by_cases c1 : (tk T p).1 ≤ 1
    · rw [if_pos c1]
      obtain ⟨r', C, M, E⟩ := fin r false hLn
      refine ⟨r', C, M, fun Q hQ => ⟨2, ?_⟩⟩
      have e32 : MO_isPlace_32 (MO_isPlace_12 Q 1) (nI (tk T t).2.1) (nI d) 0 r Q := by
        unfold MO_isPlace_32
        exact E _ Q hQ
      unfold MO_isPlace_12
      rw [if_neg (by decide), hC.1]
      by_cases z : (tk T p).1 = 0
      · rw [if_pos (k1.mpr z)]
        exact e32
      · rw [if_neg (fun w => z (k1.mp w)), if_pos (k0.mpr (by omega))]
        exact e32
    · rw [if_neg c1]
      have ht1 := more hL hp (by omega)
      obtain ⟨r2, E2, C2, M2⟩ := nxR hLn ht1 hC
      have hLn2 := hLn.mod M2 (by decide) (by decide)
      have st : ∀ (m : Nat) (Q : Int32 → vmD → Prop), (if (tk T p).1 = 40 then MO_isPlace_66 (MO_isPlace_12 Q m) (nI (tk T t).2.1) 0 1 1 (nI d) r Q else if (tk T p).1 = 41 then MO_isPlace_66 (MO_isPlace_12 Q m) (nI (tk T t).2.1) 0 1 (-1) (nI d) r Q else MO_isPlace_66 (MO_isPlace_12 Q m) (nI (tk T t).2.1) 0 1 0 (nI d) r Q) → MO_isPlace_12 Q (m + 1) (nI (tk T t).2.1) (nI d) 0 1 r := by
        intro m Q hQ
        unfold MO_isPlace_12
        rw [if_neg (by decide), hC.1, if_neg (fun w => by have := k1.mp w; omega), if_neg (fun w => by have := k0.mp w; omega), show (40 : Int32) = nI 40 from rfl, sg40]
        by_cases z : (tk T p).1 = 40
        · rw [if_pos z] at hQ ⊢
          rw [if_neg (by decide)]
          exact hQ
        · rw [if_neg z] at hQ ⊢
          rw [if_pos rfl, show (41 : Int32) = nI 41 from rfl, sg41]
          by_cases z2 : (tk T p).1 = 41
          · rw [if_pos z2] at hQ ⊢
            rw [if_neg (by decide)]
            exact hQ
          · rw [if_neg z2] at hQ ⊢
            rw [if_pos rfl]
            exact hQ
      by_cases kc : (tk T p).1 = 41 ∧ d = 1
      · rw [if_pos kc]
        obtain ⟨r', C, M, E⟩ := fin r2 (ends T (p + 1)) hLn2
        have eb : (if ends T (p + 1) = true then some p else none).isSome = ends T (p + 1) := by
          cases ends T (p + 1) <;> rfl
        rw [eb]
        refine ⟨r', C, M2.trans M, fun Q hQ => ⟨2, st 1 Q ?_⟩⟩
        rw [if_neg (by omega), if_pos kc.1, kc.2]
        unfold MO_isPlace_66
        refine bnd_iff.mpr (E2 _ ?_)
        rw [if_pos (by decide), endsR C2 (tk_kd hL _)]
        exact E _ Q hQ
      · rw [if_neg kc]
        have on : ∀ (m e : Nat) (Q : Int32 → vmD → Prop) (s0 : Int32), nI d + s0 = nI e → 1 ≤ e → e ≤ p + 2 → MO_isPlace_12 Q m (nI (tk T t).2.1) (nI e) 0 1 r2 → MO_isPlace_66 (MO_isPlace_12 Q m) (nI (tk T t).2.1) 0 1 s0 (nI d) r Q := by
          intro m e Q s0 hs he he2 hm
          unfold MO_isPlace_66
          rw [hs]
          refine bnd_iff.mpr (E2 _ ?_)
          rw [if_neg (fun w => by have := (nI_eq (a := e) (b := 0) (by omega) (by omega)).mp w; omega)]
          exact hm
        have bd : 1 ≤ (if (tk T p).1 = 40 then d + 1 else if (tk T p).1 = 41 then d - 1 else d) ∧ (if (tk T p).1 = 40 then d + 1 else if (tk T p).1 = 41 then d - 1 else d) ≤ p + 1 + 1 := by
          split
          · omega
          · split <;> omega
        obtain ⟨r', C, M, E⟩ := ih (p + 1) _ r2 (by omega) ht1 bd.1 bd.2 hLn2 C2
        refine ⟨r', C, M2.trans M, fun Q hQ => ?_⟩
        obtain ⟨m, hm⟩ := E Q hQ
        refine ⟨m + 1, st m Q ?_⟩
        by_cases z : (tk T p).1 = 40
        · rw [if_pos z] at hm ⊢
          exact on m _ Q 1 (nI_p1 d) (by omega) (by omega) hm
        · rw [if_neg z] at hm ⊢
          by_cases z2 : (tk T p).1 = 41
          · rw [if_pos z2] at hm ⊢
            exact on m _ Q (-1) (nI_m hd) (by omega) (by omega) hm
          · rw [if_neg z2] at hm ⊢
            exact on m _ Q 0 (Int32.add_zero _) (by omega) (by omega) hm
theorem isPlR {B : Nat → Nat} {n : Nat} {r : vmD} {T : List Tk} {N : Nt} {here : Int32} (hLn : LnR B n r T N here) {t : Nat} (ht : t < T.length) (hk : (tk T t).1 = 40) (hC : CurR r (tk T t)) : ∃ r', CurR r' (tk T t) ∧ ModR LF [] r r' ∧ ∀ Q : Int32 → vmD → Prop, Q (kb (clo T t).isSome) r' → MO_isPlace r Q := by
  have hL := hLn.2.1
  have hl := hL.2.1
  have ht1 := more hL ht (by omega)
  have k1 : ∀ k, k < 128 → (¬ (rkd 40 = 1) ∧ ¬ rkd 40 = 0) := by decide
  have sg40 := sign_e hC (by omega) (s := 40) (by omega) (by omega) (by omega) (by omega)
  obtain ⟨r2, E2, C2, M2⟩ := nxR hLn ht1 hC
  obtain ⟨r', C, M, E⟩ := plLoop ht (by omega) (T.length - (t + 1)) (t + 1) 1 r2 (by omega) ht1 (by omega) (by omega) (hLn.mod M2 (by decide) (by decide)) C2
  refine ⟨r', C, M2.trans M, fun Q hQ => ?_⟩
  unfold clo at hQ
  rw [if_pos hk] at hQ
  obtain ⟨m, hm⟩ := E Q hQ
  unfold MO_isPlace
  rw [hC.2.1]
  refine bnd_iff.mpr ⟨m + 1, ?_⟩
  unfold MO_isPlace_12
  rw [if_neg (by decide), hC.1, hk, if_neg (k1 0 (by omega)).1, if_neg (k1 0 (by omega)).2, show (40 : Int32) = nI 40 from rfl, sg40, if_pos hk, if_neg (by decide)]
  unfold MO_isPlace_66
  refine bnd_iff.mpr (E2 _ ?_)
  rw [if_neg (by decide)]
  exact hm
