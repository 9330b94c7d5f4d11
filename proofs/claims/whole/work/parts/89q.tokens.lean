/-! Tokens, and the class's cut -/
def numV (base : Nat) (B : Nat → Nat) (p : Nat) : Nat → Nat
  | 0 => 0
  | m + 1 => min (numV base B p m * base + wrN (B (p + m))) 65536
def wrB (base b : Nat) : Bool := decide (wrN b < base)
def numK (B : Nat → Nat) (n q p base : Nat) : Nat × Nat × Nat := if sc (wrB base) B n p = p ∨ 65536 ≤ numV base B p (sc (wrB base) B n p - p) then (1, q, 0) else (3, sc (wrB base) B n p, numV base B p (sc (wrB base) B n p - p))
def nameK (B : Nat → Nat) (n q : Nat) : Nat × Nat × Nat := if 12 < sc isN B n q - q then (1, q, 0) else if sc isN B n q = q + 2 ∧ keyD B q 2 = 44 ∧ byR B n (q + 2) = 39 then (2, q + 3, 1672) else (2, sc isN B n q, keyD B q (sc isN B n q - q))
def quoK (B : Nat → Nat) (n q : Nat) : Nat × Nat × Nat := if 32 ≤ byR B n (q + 1) ∧ byR B n (q + 1) ≤ 126 ∧ byR B n (q + 2) = 39 then (3, q + 3, byR B n (q + 1)) else (1, q, 0)
def texK (B : Nat → Nat) (n q : Nat) : Nat × Nat × Nat := if byR B n (sc txtB B n (q + 1)) = 34 then (4, sc txtB B n (q + 1) + 1, sc txtB B n (q + 1) - q - 1) else (1, q, 0)
def sgnB (b : Nat) : Bool := decide (b = 40) || decide (b = 41) || decide (b = 44) || decide (b = 58) || decide (b = 43) || decide (b = 45) || decide (b = 42) || decide (b = 47) || decide (b = 38) || decide (b = 124) || decide (b = 94) || decide (b = 126) || decide (b = 64)
def tokF (B : Nat → Nat) (n q : Nat) : Nat × Nat × Nat :=
  if byR B n q = 10 ∨ byR B n q = 59 then (0, q, 0)
  else if isS (byR B n q) = true then nameK B n q
  else if isD (byR B n q) = true then numK B n q q 10
  else if byR B n q = 34 then texK B n q
  else if byR B n q = 36 then numK B n q (q + 1) 16
  else if byR B n q = 37 then numK B n q (q + 1) 2
  else if byR B n q = 39 then quoK B n q
  else if byR B n q = 60 ∨ byR B n q = 62 then (if byR B n (q + 1) = byR B n q then (byR B n q, q + 2, 0) else (1, q, 0))
  else if sgnB (byR B n q) = true then (byR B n q, q + 1, 0) else (1, q, 0)
/-- a token: its kind, its place, the place behind it, its value -/
abbrev Tk : Type := Nat × Nat × Nat × Nat
def lexT (B : Nat → Nat) (n e : Nat) : Nat → Nat → List Tk
  | 0, _ => []
  | f + 1, p => if (tokF B n (sc blk B n p)).1 = 0 then [(0, e, sc blk B n p, 0)] else if (tokF B n (sc blk B n p)).1 = 1 then [(1, sc blk B n p, sc blk B n p, 0)] else ((tokF B n (sc blk B n p)).1, sc blk B n p, (tokF B n (sc blk B n p)).2.1, (tokF B n (sc blk B n p)).2.2) :: lexT B n e f (tokF B n (sc blk B n p)).2.1
def free10 (B : Nat → Nat) (n q e : Nat) : Prop := ∀ i, q ≤ i → i < e → ¬ byR B n i = 10
theorem free_sc {P : Nat → Bool} {B : Nat → Nat} {n p : Nat} (hp : p ≤ n) (hP : ∀ b, P b = true → ¬ b = 10) : free10 B n p (sc P B n p) := by
  intro i h1 h2
  have := (sc_le (P := P) (B := B) hp).2
  rw [byR_in (by omega)]
  exact hP _ (sc_in hp i h1 h2)
theorem free_lt {B : Nat → Nat} {n q e : Nat} (h : free10 B n q e) (hq : q ≤ n) : e ≤ n := by
  have key : ¬ n < e := fun hc => by
    have := h n hq hc
    rw [byR_out (Nat.le_refl _)] at this
    exact this rfl
  omega
theorem free_one {B : Nat → Nat} {n q e : Nat} (h : ¬ byR B n q = 10) (h2 : free10 B n (q + 1) e) : free10 B n q e := by
  intro i h1 hi
  by_cases e : i = q
  · rw [e]
    exact h
  · exact h2 i (by omega) hi
theorem free_snoc {B : Nat → Nat} {n q e : Nat} (h : free10 B n q e) (h2 : ¬ byR B n e = 10) : free10 B n q (e + 1) := by
  intro i h1 hi
  by_cases q2 : i = e
  · rw [q2]
    exact h2
  · exact h i h1 (by omega)
theorem free_nil {B : Nat → Nat} {n q : Nat} : free10 B n q q := fun i h1 h2 => absurd h1 (by omega)
theorem in_of {B : Nat → Nat} {n q : Nat} (h : ¬ byR B n q = 10) : q < n := by
  have key : ¬ n ≤ q := fun hc => h (byR_out hc)
  omega
theorem isN_10 (b : Nat) (h : isN b = true) : ¬ b = 10 := by
  rintro rfl
  revert h
  decide
theorem txt_10 (b : Nat) (h : txtB b = true) : ¬ b = 10 := by
  rintro rfl
  revert h
  decide
theorem blk_10 (b : Nat) (h : blk b = true) : ¬ b = 10 := by
  rintro rfl
  revert h
  decide
theorem wrB_10 {base : Nat} (hb : base ≤ 16) (b : Nat) (h : wrB base b = true) : ¬ b = 10 := by
  rintro rfl
  unfold wrB at h
  rw [decide_eq_true_eq] at h
  have : wrN 10 = 99 := by decide
  omega
theorem isS_N (b : Nat) (h : isS b = true) : isN b = true := by
  unfold isS at h
  unfold isN
  simp only [Bool.or_eq_true, Bool.and_eq_true, decide_eq_true_eq] at h ⊢
  omega
theorem num_free {B : Nat → Nat} {n q p base : Nat} (hb : base ≤ 16) (hp : p ≤ n) (hqp : p = q ∨ (p = q + 1 ∧ ¬ byR B n q = 10)) (h : ¬ (numK B n q p base).1 = 1) : q < (numK B n q p base).2.1 ∧ free10 B n q (numK B n q p base).2.1 := by
  unfold numK at h ⊢
  split
  · rename_i e
    rw [if_pos e] at h
    exact absurd rfl h
  · rename_i e
    have h1 := sc_le (P := wrB base) (B := B) hp
    have h2 := free_sc (B := B) hp (wrB_10 hb)
    have h3 : ¬ sc (wrB base) B n p = p := fun z => e (Or.inl z)
    rcases hqp with rfl | ⟨rfl, h4⟩
    · exact ⟨by show p < sc (wrB base) B n p; omega, h2⟩
    · exact ⟨by show q < sc (wrB base) B n (q + 1); omega, free_one h4 h2⟩
theorem tok_free {B : Nat → Nat} {n q : Nat} (hq : q ≤ n) (h0 : ¬ (tokF B n q).1 = 0) (h1 : ¬ (tokF B n q).1 = 1) : q < (tokF B n q).2.1 ∧ free10 B n q (tokF B n q).2.1 := by
  unfold tokF at h0 h1 ⊢
  by_cases c1 : byR B n q = 10 ∨ byR B n q = 59
  · rw [if_pos c1] at h0
    exact absurd rfl h0
  rw [if_neg c1] at h0 h1 ⊢
  have hn10 : ¬ byR B n q = 10 := fun z => c1 (Or.inl z)
  have hqn := in_of hn10
  by_cases c2 : isS (byR B n q) = true
  · rw [if_pos c2] at h0 h1 ⊢
    have hN := isS_N _ c2
    rw [byR_in hqn] at hN
    have hs := sc_le (P := isN) (B := B) (show q + 1 ≤ n by omega)
    have hy := sc_yes (P := isN) (B := B) (n := n) hqn hN
    have hf := free_sc (B := B) hq isN_10
    unfold nameK at h0 h1 ⊢
    split
    · rename_i e
      rw [if_pos e] at h1
      exact absurd rfl h1
    · split
      · rename_i e
        refine ⟨by show q < q + 3; omega, ?_⟩
        rw [e.1] at hf
        exact free_snoc hf (by rw [e.2.2]; omega)
      · exact ⟨by show q < sc isN B n q; omega, hf⟩
  rw [if_neg c2] at h0 h1 ⊢
  by_cases c3 : isD (byR B n q) = true
  · rw [if_pos c3] at h0 h1 ⊢
    exact num_free (by omega) hq (Or.inl rfl) h1
  rw [if_neg c3] at h0 h1 ⊢
  by_cases c4 : byR B n q = 34
  · rw [if_pos c4] at h0 h1 ⊢
    have hs := sc_le (P := txtB) (B := B) (show q + 1 ≤ n by omega)
    have hf := free_sc (B := B) (show q + 1 ≤ n by omega) txt_10
    unfold texK at h0 h1 ⊢
    split
    · rename_i e
      exact ⟨by show q < sc txtB B n (q + 1) + 1; omega, free_one hn10 (free_snoc hf (by rw [e]; omega))⟩
    · rename_i e
      rw [if_neg e] at h1
      exact absurd rfl h1
  rw [if_neg c4] at h0 h1 ⊢
  by_cases c5 : byR B n q = 36
  · rw [if_pos c5] at h0 h1 ⊢
    exact num_free (by omega) (by omega) (Or.inr ⟨rfl, hn10⟩) h1
  rw [if_neg c5] at h0 h1 ⊢
  by_cases c6 : byR B n q = 37
  · rw [if_pos c6] at h0 h1 ⊢
    exact num_free (by omega) (by omega) (Or.inr ⟨rfl, hn10⟩) h1
  rw [if_neg c6] at h0 h1 ⊢
  by_cases c7 : byR B n q = 39
  · rw [if_pos c7] at h0 h1 ⊢
    unfold quoK at h0 h1 ⊢
    split
    · rename_i e
      exact ⟨by show q < q + 3; omega, free_snoc (free_snoc (free_snoc free_nil hn10) (by omega)) (by omega)⟩
    · rename_i e
      rw [if_neg e] at h1
      exact absurd rfl h1
  rw [if_neg c7] at h0 h1 ⊢
  by_cases c8 : byR B n q = 60 ∨ byR B n q = 62
  · rw [if_pos c8] at h0 h1 ⊢
    split
    · rename_i e
      exact ⟨by show q < q + 2; omega, free_snoc (free_snoc free_nil hn10) (by omega)⟩
    · rename_i e
      rw [if_neg e] at h1
      exact absurd rfl h1
  rw [if_neg c8] at h0 h1 ⊢
  split
  · exact ⟨by show q < q + 1; omega, free_snoc free_nil hn10⟩
  · rename_i e
    rw [if_neg e] at h1
    exact absurd rfl h1
/-- a token put behind the others -/
def apT (k kd pl vl : Nat) (c : vmD) : vmD := sF (sL (sA (sA c 25 k (byt (nI kd))) 26 k (nI pl)) 27 k (lN vl)) 24 5 (nI (k + 1))
theorem append_e {c : vmD} {k : Nat} (hk : gF c 24 5 = nI k) (h6 : k < 6001) (kd pl vl : Nat) (Q : vmD → Prop) : Tokens_append (nI kd) (nI pl) (lN vl) c Q = Q (apT k kd pl vl c) := by
  unfold Tokens_append
  rw [hk, if_neg (nI_pos (by omega)), if_pos (show nI k < 6001 from nI_lt (b := 6001) h6 (by omega)), if_pos (show nI k < 6001 from nI_lt (b := 6001) h6 (by omega)), if_pos (show nI k < 6001 from nI_lt (b := 6001) h6 (by omega)), tA (nI_in h6 (by omega))]
  refine (propext bnd_iff).trans ?_
  rw [gF_sA, hk, tA (nI_in h6 (by omega))]
  refine (propext bnd_iff).trans ?_
  rw [gF_sA, gF_sA, hk, tA (nI_in h6 (by omega))]
  refine (propext bnd_iff).trans ?_
  refine (propext bnd_iff).trans ?_
  rw [gF_sL, gF_sA, gF_sA, hk, nI_clamp (by omega), nI_1]
  rfl
def tkRes (c : vmD) (k q : Nat) (t : Nat × Nat × Nat) (Q : Int32 → vmD → Prop) : Prop := if t.1 = 1 then Q (-1) c else Q (nI t.2.1) (apT k t.1 q t.2.2 c)
theorem wr_dg {B : Nat → Nat} {n : Nat} (h : SrcOk B n) {p base : Nat} (hb : base ≤ 16) : (p < n ∧ wrB base (B p) = true → dgaV (byC B n p) = nI (wrN (B p)) ∧ wrN (B p) < base) ∧ (¬ (p < n ∧ wrB base (B p) = true) → n ≤ p ∨ dgaV (byC B n p) < 0 ∨ ¬ dgaV (byC B n p) < nI base) := by
  constructor
  · rintro ⟨h1, h2⟩
    unfold wrB at h2
    rw [decide_eq_true_eq] at h2
    rw [byC_in h1, dga_b _ (h.2 p), if_neg (by omega)]
    exact ⟨rfl, h2⟩
  · intro hc
    by_cases q : p < n
    · have h2 : ¬ wrN (B p) < base := fun z => hc ⟨q, by unfold wrB; exact decide_eq_true z⟩
      rw [byC_in q, dga_b _ (h.2 p)]
      by_cases e : wrN (B p) = 99
      · rw [if_pos e]
        exact Or.inr (Or.inl (by decide))
      · rw [if_neg e]
        exact Or.inr (Or.inr (nI_nlt (by omega) (by have := wr_16 (B p); omega)))
    · exact Or.inl (by omega)
theorem dga_e {B : Nat → Nat} {n : Nat} (h : SrcOk B n) {c : vmD} (hc : SrcC B n c) {i : Nat} (hi : i < 65536) (Q : Int32 → vmD → Prop) : Tokens_digitAt (nI i) c Q = Q (dgaV (byC B n i)) c := by
  unfold Tokens_digitAt dgaV
  rw [atC h hc hi, Names_digitOf_e]
  simp only [Tokens_digitAt_29_e]
  repeat' split
  all_goals rfl
theorem numV_le (base : Nat) (B : Nat → Nat) (p : Nat) : ∀ m, numV base B p m ≤ 65536 := by
  intro m
  cases m with
  | zero => exact Nat.zero_le _
  | succ m => exact Nat.min_le_right _ _
theorem numC {B : Nat → Nat} {n : Nat} (h : SrcOk B n) {c : vmD} (hc : SrcC B n c) {k : Nat} (hk : gF c 24 5 = nI k) (h6 : k < 6001) {q p base : Nat} (hb : base ≤ 16) (hb1 : 1 ≤ base) (hp : p ≤ n) (Q : Int32 → vmD → Prop) (hQ : tkRes c k q (numK B n q p base) Q) : Tokens_takeNumber (nI q) (nI p) (nI base) c Q := by
  have hn := h.1
  unfold Tokens_takeNumber
  rw [dga_e h hc (by omega)]
  have hs := sc_le (P := wrB base) (B := B) hp
  have fin : ∃ m, Tokens_takeNumber_14 Q m (nI q) (nI p) (nI base) (nI (numV base B p (sc (wrB base) B n p - p))) (nI (sc (wrB base) B n p)) (dgaV (byC B n (sc (wrB base) B n p))) c := by
    have stop : ¬ (sc (wrB base) B n p < n ∧ wrB base (B (sc (wrB base) B n p)) = true) := by
      rintro ⟨z1, z2⟩
      rcases sc_at (P := wrB base) (B := B) hp with z | z
      · omega
      · rw [z2] at z
        cases z
    have h65 : Tokens_takeNumber_65 (nI q) (nI p) (nI (numV base B p (sc (wrB base) B n p - p))) (nI (sc (wrB base) B n p)) c Q := by
      unfold Tokens_takeNumber_65
      unfold tkRes numK at hQ
      have hv := numV_le base B p (sc (wrB base) B n p - p)
      by_cases e : sc (wrB base) B n p = p
      · rw [if_pos (Or.inl e), if_pos rfl] at hQ
        rw [if_pos (by rw [e])]
        exact hQ
      · rw [if_neg (fun z => e ((nI_eq (by omega) (by omega)).mp z))]
        by_cases e2 : 65536 ≤ numV base B p (sc (wrB base) B n p - p)
        · rw [if_pos (Or.inr e2), if_pos rfl] at hQ
          rw [if_neg (show ¬ nI (numV base B p (sc (wrB base) B n p - p)) < 65536 from nI_nlt (b := 65536) e2 (by omega))]
          exact hQ
        · rw [if_neg (show ¬ (sc (wrB base) B n p = p ∨ 65536 ≤ numV base B p (sc (wrB base) B n p - p)) from fun z => z.elim e e2), if_neg (show ¬ (3 : Nat) = 1 by decide)] at hQ
          rw [if_pos (show nI (numV base B p (sc (wrB base) B n p - p)) < 65536 from nI_lt (b := 65536) (by omega) (by omega)), nI_l (by omega)]
          rw [show (3 : Int32) = nI 3 from rfl, append_e hk h6]
          exact hQ
    refine ⟨1, ?_⟩
    unfold Tokens_takeNumber_14 Text_length_src
    rw [hc.1]
    dsimp only
    rcases (wr_dg h hb (p := sc (wrB base) B n p)).2 stop with z | z | z
    · rw [if_neg (nI_nlt z (by omega))]
      exact h65
    · repeat' (first | exact h65 | split)
    · repeat' (first | exact h65 | split)
  have key : ∀ f m, p + m + f = sc (wrB base) B n p → ∃ j, Tokens_takeNumber_14 Q j (nI q) (nI p) (nI base) (nI (numV base B p m)) (nI (p + m)) (dgaV (byC B n (p + m))) c := by
    intro f
    induction f with
    | zero =>
      intro m hm
      have e1 : p + m = sc (wrB base) B n p := by omega
      rw [e1, show m = sc (wrB base) B n p - p by omega]
      exact fin
    | succ f ih =>
      intro m hm
      obtain ⟨j, hj⟩ := ih (m + 1) (by omega)
      have hin := sc_in (P := wrB base) (B := B) hp (p + m) (by omega) (by omega)
      obtain ⟨w1, w2⟩ := (wr_dg h hb (p := p + m)).1 ⟨by omega, hin⟩
      have hw := wr_16 (B (p + m))
      have hv := numV_le base B p m
      have hvb : numV base B p m * base ≤ 65536 * 16 := Nat.mul_le_mul hv hb
      refine ⟨j + 1, ?_⟩
      unfold Tokens_takeNumber_14 Text_length_src
      rw [hc.1]
      dsimp only
      rw [if_pos (nI_lt (by omega) (by omega)), w1, if_neg (nI_pos (by omega)), if_pos (nI_lt w2 (by omega))]
      refine bnd_iff.mpr (bnd_iff.mpr ?_)
      rw [nI_1, dga_e h hc (by omega), pk_mul, nI_add]
      have ev : (if (65536 : Int32) < nI (numV base B p m * base + wrN (B (p + m))) then (65536 : Int32) else nI (numV base B p m * base + wrN (B (p + m)))) = nI (numV base B p (m + 1)) := by
        show _ = nI (min (numV base B p m * base + wrN (B (p + m))) 65536)
        by_cases z : 65536 < numV base B p m * base + wrN (B (p + m))
        · rw [if_pos (show (65536 : Int32) < nI (numV base B p m * base + wrN (B (p + m))) from nI_lt (a := 65536) z (by omega)), Nat.min_eq_right (by omega)]
          rfl
        · rw [if_neg (show ¬ (65536 : Int32) < nI (numV base B p m * base + wrN (B (p + m))) from nI_nlt (a := 65536) (by omega) (by omega)), Nat.min_eq_left (by omega)]
      rw [ev]
      exact hj
  have := key (sc (wrB base) B n p - p) 0 (by omega)
  exact this
theorem nameC {B : Nat → Nat} {n : Nat} (h : SrcOk B n) {c : vmD} (hc : SrcC B n c) {k : Nat} (hk : gF c 24 5 = nI k) (h6 : k < 6001) {q : Nat} (hq : q < n) (hS : isS (byR B n q) = true) (Q : Int32 → vmD → Prop) (hQ : tkRes c k q (nameK B n q) Q) : Tokens_takeName (nI q) c Q := by
  have hn := h.1
  have hN := isS_N _ hS
  rw [byR_in hq] at hN
  have hy := sc_yes (P := isN) (B := B) (n := n) hq hN
  have hs := sc_le (P := isN) (B := B) (show q + 1 ≤ n by omega)
  unfold Tokens_takeName
  refine nmEndC h hc _ (by omega) ?_
  unfold nmE
  rw [if_pos hS]
  refine keyC h hc _ (by omega) (by omega) ?_
  unfold tkRes nameK at hQ
  by_cases e12 : 12 < sc isN B n q - q
  · rw [if_pos e12, if_pos rfl] at hQ
    rw [if_pos e12, if_pos (by decide)]
    exact hQ
  rw [if_neg e12] at hQ ⊢
  have hKpos : 0 < keyD B q (sc isN B n q - q) := by
    have key : ∀ m, 0 < m → m ≤ sc isN B n q - q → 0 < keyD B q m := by
      intro m
      induction m with
      | zero => intro h0; omega
      | succ m ih =>
        intro _ hm
        show 0 < keyD B q m * 38 + _
        by_cases e : m = 0
        · subst e
          have hd : 0 < dgC (B (q + 0)) ∧ dgC (B (q + 0)) < 38 := by
            unfold isN at hN
            simp only [Bool.and_eq_true, decide_eq_true_eq] at hN
            exact hN
          rw [if_neg (by omega)]
          omega
        · have := ih (by omega) (by omega)
          omega
    exact key _ (by omega) (Nat.le_refl _)
  have hKlt : keyD B q (sc isN B n q - q) < 2 ^ 63 := Nat.lt_trans (keyD_lt B q _) (pow38 _ (by omega))
  have ne0 : ¬ lg_cmp (lN (keyD B q (sc isN B n q - q))) 0 = 0 := by
    rw [lg_cmp_eq]
    exact fun z => by
      have := (pk_lEQ (a := keyD B q (sc isN B n q - q)) (b := 0) hKlt (by omega)).mp z
      omega
  rw [if_neg ne0]
  have t79 : ∀ (e' K : Nat), Q (nI e') (apT k 2 q K c) → Tokens_takeName_79 (nI q) (nI e') (lN K) c Q := by
    intro e' K hq2
    unfold Tokens_takeName_79
    rw [show (2 : Int32) = nI 2 from rfl, append_e hk h6]
    exact hq2
  by_cases e2 : sc isN B n q = q + 2
  · rw [if_pos (show nI (sc isN B n q) = nI q + 2 by rw [e2]; exact (nI_add q 2).symm)]
    have eA : ∀ Q : Int64 → vmD → Prop, Names_longer 0 65 c Q = Q (lN 1) c := fun Q => longer_e 0 (b := 65) (by omega) c Q
    have eF : ∀ Q : Int64 → vmD → Prop, Names_longer (lN 1) 70 c Q = Q (lN 44) c := fun Q => longer_e 1 (b := 70) (by omega) c Q
    rw [eA, eF]
    rw [show sc isN B n q - q = 2 by omega] at hQ hKlt ⊢
    have hc44 : lg_cmp (lN (keyD B q 2)) (lN 44) = 0 ↔ keyD B q 2 = 44 := (lg_cmp_eq _ _).trans (pk_lEQ hKlt (show 44 < 2 ^ 63 by omega))
    by_cases e44 : keyD B q 2 = 44
    · rw [if_pos (hc44.mpr e44)]
      unfold Tokens_takeName_49
      rw [if_neg (by decide), e2, atC h hc (by omega)]
      by_cases e39 : byR B n (q + 2) = 39
      · have hlt : q + 2 < n := in_of (by rw [e39]; omega)
        rw [if_pos (show sc isN B n q = q + 2 ∧ keyD B q 2 = 44 ∧ byR B n (q + 2) = 39 from ⟨e2, e44, e39⟩), if_neg (show ¬ (2 : Nat) = 1 by decide)] at hQ
        rw [byC_in hlt, show B (q + 2) = 39 from (byR_in (B := B) hlt).symm.trans e39, if_pos (show nI 39 = 39 from rfl), e44]
        have e3 : ∀ Q : Int64 → vmD → Prop, Names_longer (lN 44) 39 c Q = Q (lN 1672) c := fun Q => longer_e 44 (b := 39) (by omega) c Q
        rw [e3]
        refine bnd_iff.mpr ?_
        rw [nI_1]
        exact t79 _ _ hQ
      · rw [if_neg (show ¬ (sc isN B n q = q + 2 ∧ keyD B q 2 = 44 ∧ byR B n (q + 2) = 39) from fun z => e39 z.2.2), if_neg (show ¬ (2 : Nat) = 1 by decide), e2] at hQ
        have hne : ¬ byC B n (q + 2) = 39 := by
          by_cases z : q + 2 < n
          · rw [byC_in z]
            intro w
            have := (nI_eq (b := 39) (by have := h.2 (q + 2); omega) (by omega)).mp w
            rw [byR_in z] at e39
            exact e39 this
          · rw [byC_out (by omega)]
            decide
        rw [if_neg hne]
        exact t79 _ _ hQ
    · rw [if_neg (show ¬ (sc isN B n q = q + 2 ∧ keyD B q 2 = 44 ∧ byR B n (q + 2) = 39) from fun z => e44 z.2.1), if_neg (show ¬ (2 : Nat) = 1 by decide)] at hQ
      rw [if_neg (fun z => e44 (hc44.mp z))]
      unfold Tokens_takeName_48 Tokens_takeName_49
      rw [if_pos rfl]
      exact t79 _ _ hQ
  · rw [if_neg (show ¬ (sc isN B n q = q + 2 ∧ keyD B q 2 = 44 ∧ byR B n (q + 2) = 39) from fun z => e2 z.1), if_neg (show ¬ (2 : Nat) = 1 by decide)] at hQ
    rw [if_neg (fun z => e2 (by
      have : nI (sc isN B n q) = nI (q + 2) := z.trans (nI_add q 2)
      exact (nI_eq (by omega) (by omega)).mp this))]
    unfold Tokens_takeName_48 Tokens_takeName_49
    rw [if_pos rfl]
    exact t79 _ _ hQ
theorem nI_p1 (q : Nat) : nI q + 1 = nI (q + 1) := nI_1 q
theorem nI_p2 (q : Nat) : nI q + 2 = nI (q + 2) := nI_add q 2
theorem nI_p3 (q : Nat) : nI q + 3 = nI (q + 3) := nI_add q 3
theorem quoC {B : Nat → Nat} {n : Nat} (h : SrcOk B n) {c : vmD} (hc : SrcC B n c) {k : Nat} (hk : gF c 24 5 = nI k) (h6 : k < 6001) {q : Nat} (hq : q < n) (Q : Int32 → vmD → Prop) (hQ : tkRes c k q (quoK B n q) Q) : Tokens_takeQuoted (nI q) c Q := by
  have hn := h.1
  unfold Tokens_takeQuoted
  rw [nI_p1, nI_p2, nI_p3, atC h hc (by omega)]
  unfold tkRes quoK at hQ
  have hb1 := byR_lt h (q + 1)
  by_cases l1 : q + 1 < n
  · rw [byC_in l1]
    rw [byR_in l1] at hQ hb1
    by_cases c1 : 32 ≤ B (q + 1) ∧ B (q + 1) ≤ 126
    · rw [if_neg (show ¬ nI (B (q + 1)) < 32 from nI_nlt (b := 32) c1.1 (by omega)), if_neg (show ¬ (126 : Int32) < nI (B (q + 1)) from nI_nlt (a := 126) c1.2 (by omega)), atC h hc (by omega)]
      by_cases e39 : byR B n (q + 2) = 39
      · have l2 : q + 2 < n := in_of (by rw [e39]; omega)
        rw [if_pos (show 32 ≤ B (q + 1) ∧ B (q + 1) ≤ 126 ∧ byR B n (q + 2) = 39 from ⟨c1.1, c1.2, e39⟩), if_neg (show ¬ (3 : Nat) = 1 by decide)] at hQ
        rw [byC_in l2, show B (q + 2) = 39 from (byR_in (B := B) l2).symm.trans e39, if_pos (show nI 39 = 39 from rfl), nI_l (by omega), show (3 : Int32) = nI 3 from rfl, append_e hk h6]
        exact hQ
      · rw [if_neg (show ¬ (32 ≤ B (q + 1) ∧ B (q + 1) ≤ 126 ∧ byR B n (q + 2) = 39) from fun z => e39 z.2.2), if_pos rfl] at hQ
        have hne : ¬ byC B n (q + 2) = 39 := by
          by_cases z : q + 2 < n
          · rw [byC_in z]
            intro w
            have := (nI_eq (b := 39) (by have := h.2 (q + 2); omega) (by omega)).mp w
            rw [byR_in z] at e39
            exact e39 this
          · rw [byC_out (by omega)]
            decide
        rw [if_neg hne]
        exact hQ
    · rw [if_neg (show ¬ (32 ≤ B (q + 1) ∧ B (q + 1) ≤ 126 ∧ byR B n (q + 2) = 39) from fun z => c1 ⟨z.1, z.2.1⟩), if_pos rfl] at hQ
      by_cases c2 : B (q + 1) < 32
      · rw [if_pos (show nI (B (q + 1)) < 32 from nI_lt (b := 32) c2 (by omega))]
        exact hQ
      · rw [if_neg (show ¬ nI (B (q + 1)) < 32 from nI_nlt (b := 32) (by omega) (by omega)), if_pos (show (126 : Int32) < nI (B (q + 1)) from nI_lt (a := 126) (by omega) (by omega))]
        exact hQ
  · rw [byC_out (by omega), if_pos (by decide)]
    rw [byR_out (show n ≤ q + 1 by omega), if_neg (show ¬ (32 ≤ 10 ∧ 10 ≤ 126 ∧ byR B n (q + 2) = 39) from fun z => by omega), if_pos rfl] at hQ
    exact hQ
theorem texC {B : Nat → Nat} {n : Nat} (h : SrcOk B n) {c : vmD} (hc : SrcC B n c) {k : Nat} (hk : gF c 24 5 = nI k) (h6 : k < 6001) {q : Nat} (hq : q < n) (Q : Int32 → vmD → Prop) (hQ : tkRes c k q (texK B n q) Q) : Tokens_takeText (nI q) c Q := by
  have hn := h.1
  unfold Tokens_takeText
  refine bnd_iff.mpr ?_
  rw [nI_1]
  unfold tkRes texK at hQ
  have hle : q + 1 ≤ n := by omega
  have hs := sc_le (P := txtB) (B := B) hle
  have fin : ∀ s, q < s → s ≤ n → s = sc txtB B n (q + 1) → Tokens_takeText_60 (nI q) (nI s) c Q := by
    intro s hs1 hs2 es
    unfold Tokens_takeText_60
    rw [atC h hc (by omega)]
    rw [← es] at hQ
    by_cases e : byR B n s = 34
    · have l2 : s < n := in_of (by rw [e]; omega)
      rw [if_pos e, if_neg (show ¬ (4 : Nat) = 1 by decide)] at hQ
      rw [byC_in l2, show B s = 34 from (byR_in (B := B) l2).symm.trans e, if_pos (show nI 34 = 34 from rfl), pk_sub (by omega), show nI (s - q) - 1 = nI (s - q - 1) from pk_sub (b := 1) (by omega), nI_l (by omega), show (4 : Int32) = nI 4 from rfl, append_e hk h6, nI_p1]
      exact hQ
    · rw [if_neg e, if_pos rfl] at hQ
      have hne : ¬ byC B n s = 34 := by
        by_cases z : s < n
        · rw [byC_in z]
          intro w
          have := (nI_eq (b := 34) (by have := h.2 s; omega) (by omega)).mp w
          rw [byR_in z] at e
          exact e this
        · rw [byC_out (by omega)]
          decide
      rw [if_neg hne]
      exact hQ
  have key : ∀ p, p ≤ n → (q < p ∧ sc txtB B n p = sc txtB B n (q + 1)) → ∃ m, Tokens_takeText_4 Q m (nI q) (nI p) c := by
    refine sc_ind (P := txtB) (B := B) (n := n) _ (fun p hp e => ?_) (fun p hp e ih => ?_)
    · rintro ⟨hqp, hsp⟩
      rw [sc_no e] at hsp
      have f := fin p hqp hp hsp
      refine ⟨1, ?_⟩
      unfold Tokens_takeText_4 Text_length_src
      rw [hc.1]
      dsimp only
      by_cases z : p < n
      · have hb := h.2 p
        have e2 := e.resolve_left (by omega)
        unfold txtB at e2
        rw [if_pos (nI_lt z (by omega)), atC h hc (by omega), byC_in z]
        by_cases c1 : B p < 32
        · rw [if_pos (show nI (B p) < 32 from nI_lt (b := 32) c1 (by omega))]
          exact f
        · rw [if_neg (show ¬ nI (B p) < 32 from nI_nlt (b := 32) (by omega) (by omega)), atC h hc (by omega), byC_in z]
          by_cases c2 : 126 < B p
          · rw [if_pos (show (126 : Int32) < nI (B p) from nI_lt (a := 126) c2 (by omega))]
            exact f
          · rw [if_neg (show ¬ (126 : Int32) < nI (B p) from nI_nlt (a := 126) (by omega) (by omega)), atC h hc (by omega), byC_in z]
            have e34 : B p = 34 := by
              simp only [Bool.and_eq_false_iff, decide_eq_false_iff_not, Bool.not_eq_false', decide_eq_true_eq] at e2
              omega
            rw [if_pos (by rw [e34]; rfl)]
            exact f
      · rw [if_neg (nI_nlt (by omega) (by omega))]
        exact f
    · rintro ⟨hqp, hsp⟩
      rw [sc_yes hp e] at hsp
      obtain ⟨m, hm⟩ := ih ⟨by omega, hsp⟩
      have hb := h.2 p
      have e2 := e
      unfold txtB at e2
      simp only [Bool.and_eq_true, decide_eq_true_eq, Bool.not_eq_true', decide_eq_false_iff_not] at e2
      refine ⟨m + 1, ?_⟩
      unfold Tokens_takeText_4 Text_length_src
      rw [hc.1]
      dsimp only
      rw [if_pos (nI_lt hp (by omega)), atC h hc (by omega), byC_in hp, if_neg (show ¬ nI (B p) < 32 from nI_nlt (b := 32) e2.1 (by omega)), atC h hc (by omega), byC_in hp, if_neg (show ¬ (126 : Int32) < nI (B p) from nI_nlt (a := 126) e2.2.1 (by omega)), atC h hc (by omega), byC_in hp, if_neg (show ¬ nI (B p) = 34 from fun z => e2.2.2 ((nI_eq (b := 34) (by omega) (by omega)).mp z))]
      refine bnd_iff.mpr ?_
      rw [nI_1]
      exact hm
  exact key (q + 1) hle ⟨by omega, rfl⟩
theorem vmIx_6 : ∀ b, b < 256 → (decide (vmIx (UInt32.toInt32 ((Int32.toUInt32 (nI b)) % 65536)) (sB 6) 0 < 0) = !(sgnB b)) := by decide +kernel
theorem sg_ne : ∀ b, b < 256 → sgnB b = true → ¬ b = 34 ∧ ¬ b = 36 ∧ ¬ b = 37 ∧ ¬ b = 39 ∧ ¬ b = 60 ∧ ¬ b = 62 := by decide +kernel
theorem bgn_S {b : Nat} (hb : b < 256) : bgnV (nI b) = 0 ↔ ¬ isS b = true := by
  rw [bgn_b b hb]
  by_cases s : isS b = true
  · rw [if_pos s]
    exact ⟨fun z => absurd z (by decide), fun z => absurd s z⟩
  · rw [if_neg s]
    exact ⟨fun _ => s, fun _ => rfl⟩
theorem nI_e {a b : Nat} (ha : a < 256) (hb : b < 256) : nI a = nI b ↔ a = b := nI_eq (by omega) (by omega)
/-- one token of the class -/
theorem tokC {B : Nat → Nat} {n : Nat} (h : SrcOk B n) {c : vmD} (hc : SrcC B n c) {k : Nat} (hk : gF c 24 5 = nI k) (h6 : k < 6001) {q : Nat} (hq : q < n) (h0 : ¬ (tokF B n q).1 = 0) (Q : Int32 → vmD → Prop) (hQ : tkRes c k q (tokF B n q) Q) : Tokens_takeToken (nI q) c Q := by
  have hn := h.1
  have hb := h.2 q
  have eb : byR B n q = B q := byR_in hq
  unfold Tokens_takeToken
  rw [atC h hc (by omega), byC_in hq, bgn_e]
  unfold tokF at h0 hQ
  by_cases c1 : byR B n q = 10 ∨ byR B n q = 59
  · rw [if_pos c1] at h0
    exact absurd rfl h0
  rw [if_neg c1] at h0 hQ
  by_cases c2 : isS (byR B n q) = true
  · rw [if_pos c2] at hQ
    rw [if_neg (fun z => (bgn_S hb).mp z (eb ▸ c2))]
    exact nameC h hc hk h6 hq c2 Q hQ
  rw [if_neg c2] at h0 hQ
  rw [if_pos ((bgn_S hb).mpr (eb ▸ c2))]
  rw [eb] at hQ h0 c1 c2
  by_cases c3 : isD (B q) = true
  · rw [if_pos c3] at hQ
    unfold isD at c3
    simp only [Bool.and_eq_true, decide_eq_true_eq] at c3
    rw [if_neg (show ¬ nI (B q) < 48 from nI_nlt (b := 48) c3.1 (by omega)), if_neg (show ¬ (57 : Int32) < nI (B q) from nI_nlt (a := 57) c3.2 (by omega))]
    exact numC h hc hk h6 (base := 10) (by omega) (by omega) (by omega) Q hQ
  rw [if_neg c3] at h0 hQ
  have h43 : Tokens_takeToken_43 (nI q) (nI (B q)) c Q := by
    have ne : ∀ (m : Nat) (M : Int32), M = nI m → m < 256 → ¬ B q = m → ¬ nI (B q) = M := fun m M hM hm z w => z ((nI_e hb hm).mp (w.trans hM))
    unfold Tokens_takeToken_43
    by_cases c4 : B q = 34
    · rw [if_pos c4] at hQ
      rw [if_pos (show nI (B q) = 34 by rw [c4]; rfl)]
      exact texC h hc hk h6 hq Q hQ
    rw [if_neg c4] at h0 hQ
    rw [if_neg (ne 34 34 rfl (by omega) c4)]
    by_cases c5 : B q = 36
    · rw [if_pos c5] at hQ
      rw [if_pos (show nI (B q) = 36 by rw [c5]; rfl), nI_1]
      exact numC h hc hk h6 (base := 16) (by omega) (by omega) (by omega) Q hQ
    rw [if_neg c5] at h0 hQ
    rw [if_neg (ne 36 36 rfl (by omega) c5)]
    by_cases c6 : B q = 37
    · rw [if_pos c6] at hQ
      rw [if_pos (show nI (B q) = 37 by rw [c6]; rfl), nI_1]
      exact numC h hc hk h6 (base := 2) (by omega) (by omega) (by omega) Q hQ
    rw [if_neg c6] at h0 hQ
    rw [if_neg (ne 37 37 rfl (by omega) c6)]
    by_cases c7 : B q = 39
    · rw [if_pos c7] at hQ
      rw [if_pos (show nI (B q) = 39 by rw [c7]; rfl)]
      exact quoC h hc hk h6 hq Q hQ
    rw [if_neg c7] at h0 hQ
    rw [if_neg (ne 39 39 rfl (by omega) c7)]
    have two : ∀ v, B q = v → (v = 60 ∨ v = 62) → Text_at_src (nI q + 1) c (fun r_21 d_20 => if r_21 = nI (B q) then (Tokens_append (nI (B q)) (nI q) 0 d_20 fun d_23 => Q (nI q + 2) d_23) else (Q (-1) d_20)) := by
      intro v ev hv
      rw [nI_1, atC h hc (by omega)]
      rw [if_pos (show B q = 60 ∨ B q = 62 by rw [ev]; exact hv)] at hQ
      unfold tkRes at hQ
      by_cases e : byR B n (q + 1) = B q
      · have l2 : q + 1 < n := in_of (by rw [e, ev]; omega)
        rw [if_pos e, if_neg (show ¬ B q = 1 by rw [ev]; omega)] at hQ
        rw [byC_in l2, if_pos (show nI (B (q + 1)) = nI (B q) from congrArg nI ((byR_in (B := B) l2).symm.trans e))]
        rw [show (0 : Int64) = lN 0 from rfl, append_e hk h6, nI_p2]
        exact hQ
      · rw [if_neg e, if_pos rfl] at hQ
        have hne : ¬ byC B n (q + 1) = nI (B q) := by
          by_cases z : q + 1 < n
          · rw [byC_in z]
            intro w
            have := (nI_e (h.2 (q + 1)) hb).mp w
            rw [byR_in z] at e
            exact e this
          · rw [byC_out (by omega)]
            intro w
            have : ¬ nI (B q) < 0 := nI_pos (by omega)
            rw [← w] at this
            exact this (by decide)
        rw [if_neg hne]
        exact hQ
    by_cases c8 : B q = 60
    · rw [if_pos (show nI (B q) = 60 by rw [c8]; rfl)]
      exact two 60 c8 (Or.inl rfl)
    rw [if_neg (ne 60 60 rfl (by omega) c8)]
    by_cases c9 : B q = 62
    · rw [if_pos (show nI (B q) = 62 by rw [c9]; rfl)]
      exact two 62 c9 (Or.inr rfl)
    rw [if_neg (ne 62 62 rfl (by omega) c9), if_neg (nI_pos (by omega))]
    rw [if_neg (show ¬ (B q = 60 ∨ B q = 62) by omega)] at h0 hQ
    have hx := vmIx_6 _ hb
    unfold tkRes at hQ
    by_cases s : sgnB (B q) = true
    · rw [s, Bool.not_true, decide_eq_false_iff_not] at hx
      rw [if_neg hx]
      have s1 : ¬ B q = 1 := by
        intro z
        rw [z] at s
        revert s
        decide
      rw [if_pos s, if_neg s1] at hQ
      rw [show (0 : Int64) = lN 0 from rfl, append_e hk h6, nI_1]
      exact hQ
    · rw [show sgnB (B q) = false by rw [← Bool.not_eq_true]; exact s, Bool.not_false, decide_eq_true_eq] at hx
      rw [if_pos hx]
      rw [if_neg s, if_pos rfl] at hQ
      exact hQ
  split
  · exact h43
  · split
    · exact h43
    · rename_i z1 z2
      exfalso
      apply c3
      unfold isD
      simp only [Bool.and_eq_true, decide_eq_true_eq]
      refine ⟨?_, ?_⟩
      · have : ¬ B q < 48 := fun w => z1 (nI_lt (b := 48) w (by omega))
        omega
      · have : ¬ 57 < B q := fun w => z2 (nI_lt (a := 57) w (by omega))
        omega
/-- all tokens of a line -/
def apL (k : Nat) : List Tk → vmD → vmD
  | [], c => c
  | t :: T, c => apL (k + 1) T (apT k t.1 t.2.1 t.2.2.2 c)
theorem apT_x (k kd pl vl : Nat) (c : vmD) : (∀ o, ¬ o = 24 → gF (apT k kd pl vl c) o = gF c o) ∧ (∀ f, ¬ f = 5 → gF (apT k kd pl vl c) 24 f = gF c 24 f) ∧ gF (apT k kd pl vl c) 24 5 = nI (k + 1) ∧ (∀ o, ¬ o = 25 → ¬ o = 26 → gA (apT k kd pl vl c) o = gA c o) ∧ (∀ o, ¬ o = 27 → gL (apT k kd pl vl c) o = gL c o) ∧ gG (apT k kd pl vl c) = gG c ∧ gA (apT k kd pl vl c) 25 = u1f (gA c 25) k (byt (nI kd)) ∧ gA (apT k kd pl vl c) 26 = u1f (gA c 26) k (nI pl) ∧ gL (apT k kd pl vl c) 27 = u1f (gL c 27) k (lN vl) := by
  unfold apT
  refine ⟨fun o h => ?_, fun f h => ?_, ?_, fun o h1 h2 => ?_, fun o h => ?_, ?_, ?_, ?_, ?_⟩
  · rw [gF_sF_ne _ _ _ h, gF_sL, gF_sA, gF_sA]
  · rw [gF_sF, u1f_ne _ _ h, gF_sL, gF_sA, gF_sA]
  · rw [gF_sF, u1f_eq]
  · rw [gA_sF, gA_sL, gA_sA_ne _ _ _ h2, gA_sA_ne _ _ _ h1]
  · rw [gL_sF, gL_sL_ne _ _ _ h, gL_sA, gL_sA]
  · rfl
  · rw [gA_sF, gA_sL, gA_sA_ne _ _ _ (by decide), gA_sA]
  · rw [gA_sF, gA_sL, gA_sA, gA_sA_ne _ _ _ (by decide)]
  · rw [gL_sF, gL_sLe, gL_sA, gL_sA]
