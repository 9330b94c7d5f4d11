/-! Names that are told, on both sides -/
abbrev Nt : Type := List (Nat × Int32)
/-- where a key stands, or the length -/
def fnd (K : Nat) : Nt → Nat
  | [] => 0
  | x :: N => if x.1 = K then 0 else fnd K N + 1
theorem fnd_le (K : Nat) : ∀ N : Nt, fnd K N ≤ N.length := by
  intro N
  induction N with
  | nil => exact Nat.le_refl _
  | cons x N ih =>
    unfold fnd
    split
    · exact Nat.zero_le _
    · rw [List.length_cons]
      omega
theorem fnd_at (K : Nat) : ∀ (N : Nt) (h : fnd K N < N.length), (N[fnd K N]).1 = K := by
  intro N
  induction N with
  | nil => intro h; exact absurd h (Nat.lt_irrefl 0)
  | cons x N ih =>
    intro h
    by_cases e : x.1 = K
    · have e0 : fnd K (x :: N) = 0 := by unfold fnd; rw [if_pos e]
      simp only [e0]
      exact e
    · have e0 : fnd K (x :: N) = fnd K N + 1 := by show (if x.1 = K then 0 else fnd K N + 1) = _; rw [if_neg e]
      simp only [e0, List.length_cons] at h ⊢
      exact ih (by omega)
theorem fnd_lt (K : Nat) : ∀ (N : Nt) (i : Nat) (hi : i < N.length), i < fnd K N → ¬ (N[i]).1 = K := by
  intro N
  induction N with
  | nil => intro i hi; exact absurd hi (Nat.not_lt_zero _)
  | cons x N ih =>
    intro i hi hf
    unfold fnd at hf
    by_cases e : x.1 = K
    · rw [if_pos e] at hf
      exact absurd hf (Nat.not_lt_zero _)
    · rw [if_neg e] at hf
      cases i with
      | zero => exact e
      | succ i =>
        rw [List.length_cons] at hi
        exact ih i (by omega) (by omega)
def FnC (c : vmD) (N : Nt) : Prop := gF c 3 6 = nI N.length ∧ N.length ≤ 200 ∧ ∀ i (h : i < N.length), gL c 7 i = lN (N[i]).1 ∧ gA c 8 i = (N[i]).2 ∧ (N[i]).1 < 38 ^ 12
def FnR (r : vmD) (N : Nt) : Prop := gF r 42 13 = nI N.length ∧ N.length ≤ 200 ∧ ∀ i (h : i < N.length), (∃ m, 1 ≤ m ∧ m ≤ 12 ∧ gA r 45 i = nI m ∧ (∀ j, j < m → nmSign (gA r 44 (12 * i + j))) ∧ (N[i]).1 = keyN (fun j => gA r 44 (12 * i + j)) m) ∧ gA r 46 i = (N[i]).2
theorem findC {c : vmD} {N : Nt} (h : FnC c N) {K : Nat} (hK : K < 38 ^ 12) (Q : Int32 → vmD → Prop) (hQ : Q (if fnd K N < N.length then nI (fnd K N) else -1) c) : Names_find (lN K) c Q := by
  obtain ⟨h1, h2, h3⟩ := h
  have p12 : (38 : Nat) ^ 12 < 2 ^ 63 := by decide
  unfold Names_find
  have hle := fnd_le K N
  have key : ∀ f i, i + f = N.length → i ≤ fnd K N → ∃ m, Names_find_2 Q m (lN K) (nI i) c := by
    intro f
    induction f with
    | zero =>
      intro i hi hf
      refine ⟨1, ?_⟩
      unfold Names_find_2
      rw [h1, if_neg (nI_nlt (by omega) (by omega))]
      rw [if_neg (by omega)] at hQ
      exact hQ
    | succ f ih =>
      intro i hi hf
      obtain ⟨g1, g2, g3⟩ := h3 i (by omega)
      have hiff : lg_cmp (gL c 7 i) (lN K) = 0 ↔ (N[i]'(by omega)).1 = K := by
        rw [lg_cmp_eq, g1]
        exact pk_lEQ (by omega) (by omega)
      by_cases e : i = fnd K N
      · rw [if_pos (by omega)] at hQ
        refine ⟨1, ?_⟩
        unfold Names_find_2
        rw [h1, if_pos (nI_lt (by omega) (by omega)), if_pos (show nI i < 200 from nI_lt (b := 200) (by omega) (by omega))]
        refine ⟨nI_in (by omega) (by omega), bnd_iff.mpr ?_⟩
        rw [nI_clamp (by omega)]
        have hat := fnd_at K N (by omega)
        have e2 : (N[i]'(by omega)).1 = K := by
          simp only [e]
          exact hat
        rw [if_pos (hiff.mpr e2), e]
        exact hQ
      · obtain ⟨m, hm⟩ := ih (i + 1) (by omega) (by omega)
        refine ⟨m + 1, ?_⟩
        unfold Names_find_2
        rw [h1, if_pos (nI_lt (by omega) (by omega)), if_pos (show nI i < 200 from nI_lt (b := 200) (by omega) (by omega))]
        refine ⟨nI_in (by omega) (by omega), bnd_iff.mpr ?_⟩
        rw [nI_clamp (by omega), if_neg (fun z => fnd_lt K N i (by omega) (by omega) (hiff.mp z))]
        refine bnd_iff.mpr ?_
        rw [nI_p1]
        exact hm
  exact key N.length 0 (by omega) (by omega)
theorem foundC {c : vmD} {N : Nt} (h : FnC c N) {i : Nat} (hi : i < N.length) (Q : Int32 → vmD → Prop) : Names_foundValue (nI i) c Q = Q (N[i]).2 c := by
  obtain ⟨h1, h2, h3⟩ := h
  unfold Names_foundValue
  rw [if_neg (nI_pos (by omega)), h1, if_pos (nI_lt hi (by omega)), if_pos (show nI i < 200 from nI_lt (b := 200) (by omega) (by omega)), tA (nI_in (by omega) (by omega))]
  refine (propext bnd_iff).trans ?_
  rw [nI_clamp (by omega), (h3 i hi).2.1]
theorem found1 (c : vmD) (Q : Int32 → vmD → Prop) : Names_foundValue (-1) c Q = Q 0 c := by
  unfold Names_foundValue
  rw [if_pos (by decide)]
/-- the reference's comparison of names -/
theorem digN_cap : ∀ b, b < 256 → isN b = true → nmSign (nI (capN b)) ∧ digN (nI (capN b)) = dgC b := by
  have h : ∀ b, b < 256 → isN b = true → (capN b = 95 ∨ (65 ≤ capN b ∧ capN b < 91) ∨ (48 ≤ capN b ∧ capN b < 58)) ∧ digN (nI (capN b)) = dgC b := by decide +kernel
  intro b hb hN
  obtain ⟨h1, h2⟩ := h b hb hN
  refine ⟨?_, h2⟩
  rcases h1 with e | e | e
  · exact Or.inl (by rw [e]; rfl)
  · exact Or.inr (Or.inl ⟨capN b - 65, by omega, congrArg nI (by omega)⟩)
  · exact Or.inr (Or.inr ⟨capN b - 48, by omega, congrArg nI (by omega)⟩)
theorem nm_dig {c : Int32} (h : nmSign c) : ∃ k, k < 128 ∧ c = nI k ∧ 0 < digN c ∧ digN c < 38 := by
  have h1 : ∀ k, k < 26 → 0 < digN (nI (65 + k)) ∧ digN (nI (65 + k)) < 38 := by decide +kernel
  have h2 : ∀ k, k < 10 → 0 < digN (nI (48 + k)) ∧ digN (nI (48 + k)) < 38 := by decide +kernel
  rcases h with rfl | ⟨k, hk, rfl⟩ | ⟨k, hk, rfl⟩
  · exact ⟨95, by omega, rfl, by decide, by decide⟩
  · exact ⟨65 + k, by omega, rfl, (h1 k hk).1, (h1 k hk).2⟩
  · exact ⟨48 + k, by omega, rfl, (h2 k hk).1, (h2 k hk).2⟩
def sgOf (d : Nat) : Int32 := if d = 37 then 95 else if d < 27 then nI (64 + d) else nI (21 + d)
theorem nm_inj {c : Int32} (h : nmSign c) : c = sgOf (digN c) := by
  have h1 : ∀ k, k < 26 → nI (65 + k) = sgOf (digN (nI (65 + k))) := by decide +kernel
  have h2 : ∀ k, k < 10 → nI (48 + k) = sgOf (digN (nI (48 + k))) := by decide +kernel
  rcases h with rfl | ⟨k, hk, rfl⟩ | ⟨k, hk, rfl⟩
  · decide
  · exact h1 k hk
  · exact h2 k hk
theorem keyN_D {B : Nat → Nat} {q : Nat} (hB : ∀ i, B i < 256) (ch : Nat → Int32) : ∀ m, (∀ i, i < m → isN (B (q + i)) = true) → (∀ i, i < m → ch i = nI (capN (B (q + i)))) → keyN ch m = keyD B q m := by
  intro m
  induction m with
  | zero => intro _ _; rfl
  | succ m ih =>
    intro hN hc
    rw [keyD_s hB (hN m (by omega))]
    show keyN ch m * 38 + digN (ch m) = _
    rw [ih (fun i hi => hN i (by omega)) (fun i hi => hc i (by omega)), hc m (by omega), (digN_cap _ (hB _) (hN m (by omega))).2]
theorem key_inj {B : Nat → Nat} {q : Nat} (hB : ∀ i, B i < 256) (ch : Nat → Int32) : ∀ m m', (∀ j, j < m → nmSign (ch j)) → (∀ i, i < m' → isN (B (q + i)) = true) → keyN ch m = keyD B q m' → m = m' ∧ ∀ j, j < m → ch j = nI (capN (B (q + j))) := by
  intro m
  induction m with
  | zero =>
    intro m' _ hN he
    cases m' with
    | zero => exact ⟨rfl, fun j hj => absurd hj (Nat.not_lt_zero _)⟩
    | succ m' =>
      have := key_big hB m' hN
      have p : 0 < 38 ^ m' := Nat.pow_pos (by omega)
      have he : 0 = keyD B q (m' + 1) := he
      omega
  | succ m ih =>
    intro m' hc hN he
    obtain ⟨k, hk, ek, d1, d2⟩ := nm_dig (hc m (by omega))
    have he : keyN ch m * 38 + digN (ch m) = keyD B q m' := he
    cases m' with
    | zero =>
      have he : keyN ch m * 38 + digN (ch m) = 0 := he
      omega
    | succ m' =>
      rw [keyD_s hB (hN m' (by omega))] at he
      have hd := nm_b _ (hB (q + m')) (hN m' (by omega))
      have e1 : keyN ch m = keyD B q m' := by omega
      have e2 : digN (ch m) = dgC (B (q + m')) := by omega
      obtain ⟨i1, i2⟩ := ih m' (fun j hj => hc j (by omega)) (fun i hi => hN i (by omega)) e1
      subst i1
      refine ⟨rfl, fun j hj => ?_⟩
      by_cases e : j = m
      · subst e
        rw [nm_inj (hc j (by omega)), e2]
        obtain ⟨n1, n2⟩ := digN_cap _ (hB (q + j)) (hN j (by omega))
        rw [nm_inj n1, n2]
      · exact i2 j (by omega)
theorem findR {B : Nat → Nat} {n : Nat} (h : SrcOk B n) {r : vmD} (hr : SrcR B n r) {N : Nt} (hF : FnR r N) {q m : Nat} (h1 : 1 ≤ m) (h2 : m ≤ 12) (hq : q + m ≤ n) (hN : ∀ i, i < m → isN (B (q + i)) = true) (Q : Int32 → vmD → Prop) (hQ : Q (if fnd (keyD B q m) N < N.length then nI (fnd (keyD B q m) N) else -1) r) : MO_find (nI q) (nI (q + m)) r Q := by
  have hn := h.1
  obtain ⟨f1, f2, f3⟩ := hF
  have hle := fnd_le (keyD B q m) N
  have esub : nI (q + m) - nI q = nI m := by rw [pk_sub (by omega)]; exact congrArg nI (by omega)
  -- the inner loop: whether name i is the one
  have inner : ∀ (b2 : Int32 → Int32 → Int32 → vmD → Prop) (i : Nat) (hi : i < N.length), (if (N[i]).1 = keyD B q m then Q (nI i) r else b2 (nI q) (nI (q + m)) (nI (i + 1)) r) → (if gA r 45 i = nI (q + m) - nI q then MO_find_27 b2 (nI q) (nI (q + m)) (nI i) 1 r Q else MO_find_27 b2 (nI q) (nI (q + m)) (nI i) 0 r Q) := by
    intro b2 i hi hres
    obtain ⟨⟨mi, m1, m2, m3, m4, m5⟩, -⟩ := f3 i hi
    rw [esub, m3]
    have no86 : ¬ (N[i]).1 = keyD B q m → MO_find_86 b2 (nI q) (nI (q + m)) (nI i) 0 r Q := by
      intro z
      rw [if_neg z] at hres
      unfold MO_find_86
      rw [if_pos rfl]
      refine bnd_iff.mpr ?_
      rw [nI_p1]
      exact hres
    by_cases em : mi = m
    · subst em
      rw [if_pos rfl]
      unfold MO_find_27
      have key : ∀ f j, j + f = mi → (∀ j', j' < j → gA r 44 (12 * i + j') = nI (capN (B (q + j')))) → ∃ k, MO_find_32 b2 Q k (nI q) (nI (q + mi)) (nI i) 1 (nI j) r := by
        intro f
        induction f with
        | zero =>
          intro j hj hs
          have e : (N[i]).1 = keyD B q mi := by
            rw [m5]
            exact keyN_D h.2 _ mi hN (fun x hx => hs x (by omega))
          rw [if_pos e] at hres
          refine ⟨1, ?_⟩
          unfold MO_find_32
          rw [esub, if_neg (nI_nlt (by omega) (by omega))]
          unfold MO_find_86
          rw [if_neg (by decide)]
          exact hres
        | succ f ih =>
          intro j hj hs
          have hb := h.2 (q + j)
          have e12 : (12 : Int32) * nI i + nI j = nI (12 * i + j) := by
            rw [show (12 : Int32) = nI 12 from rfl, pk_mul, nI_add]
          have hcap : capN (B (q + j)) < 256 := by
            unfold capN
            split <;> omega
          by_cases es : gA r 44 (12 * i + j) = nI (capN (B (q + j)))
          · obtain ⟨k, hk⟩ := ih (j + 1) (by omega) (fun x hx => by
              by_cases z : x = j
              · rw [z]
                exact es
              · exact hs x (by omega))
            refine ⟨k + 1, ?_⟩
            unfold MO_find_32
            rw [esub, if_pos (nI_lt (by omega) (by omega)), if_neg (by decide), e12]
            refine ⟨nI_in (by omega) (by omega), bnd_iff.mpr ?_⟩
            rw [nI_add]
            refine ⟨nI_in (by omega) (by omega), bnd_iff.mpr ?_⟩
            rw [nI_clamp (by omega), nI_clamp (by omega), hr.2 _ (by omega), MO_capital_e, cap_b _ hb, if_pos es]
            unfold MO_find_78
            refine bnd_iff.mpr ?_
            rw [nI_p1]
            exact hk
          · have ne : ¬ (N[i]).1 = keyD B q mi := by
              intro z
              rw [m5] at z
              exact es ((key_inj h.2 _ mi mi m4 hN z).2 j (by omega))
            refine ⟨2, ?_⟩
            unfold MO_find_32
            rw [esub, if_pos (nI_lt (by omega) (by omega)), if_neg (by decide), e12]
            refine ⟨nI_in (by omega) (by omega), bnd_iff.mpr ?_⟩
            rw [nI_add]
            refine ⟨nI_in (by omega) (by omega), bnd_iff.mpr ?_⟩
            rw [nI_clamp (by omega), nI_clamp (by omega), hr.2 _ (by omega), MO_capital_e, cap_b _ hb, if_neg es]
            unfold MO_find_78
            refine bnd_iff.mpr ?_
            rw [nI_p1]
            unfold MO_find_32
            rw [esub]
            split
            · rw [if_pos rfl]
              exact no86 ne
            · exact no86 ne
      exact key mi 0 (by omega) (fun j hj => absurd hj (Nat.not_lt_zero _))
    · have ne : ¬ (N[i]).1 = keyD B q m := by
        intro z
        rw [m5] at z
        exact em (key_inj h.2 _ mi m m4 hN z).1
      rw [if_neg (fun z => em ((nI_eq (by omega) (by omega)).mp z))]
      unfold MO_find_27
      refine ⟨1, ?_⟩
      unfold MO_find_32
      rw [esub]
      split
      · rw [if_pos rfl]
        exact no86 ne
      · exact no86 ne
  unfold MO_find
  have outer : ∀ f i, i + f = N.length → i ≤ fnd (keyD B q m) N → ∃ k, MO_find_2 Q k (nI q) (nI (q + m)) (nI i) r := by
    intro f
    induction f with
    | zero =>
      intro i hi hf
      refine ⟨1, ?_⟩
      unfold MO_find_2
      rw [f1, if_neg (nI_nlt (by omega) (by omega))]
      rw [if_neg (by omega)] at hQ
      exact hQ
    | succ f ih =>
      intro i hi hf
      by_cases e : i = fnd (keyD B q m) N
      · rw [if_pos (by omega)] at hQ
        have hat := fnd_at (keyD B q m) N (by omega)
        have e2 : (N[i]'(by omega)).1 = keyD B q m := by
          simp only [e]
          exact hat
        refine ⟨1, ?_⟩
        unfold MO_find_2
        rw [f1, if_pos (nI_lt (by omega) (by omega))]
        refine ⟨nI_in (by omega) (by omega), bnd_iff.mpr ?_⟩
        rw [nI_clamp (by omega)]
        refine inner _ i (by omega) ?_
        rw [if_pos e2, e]
        exact hQ
      · obtain ⟨k, hk⟩ := ih (i + 1) (by omega) (by omega)
        refine ⟨k + 1, ?_⟩
        unfold MO_find_2
        rw [f1, if_pos (nI_lt (by omega) (by omega))]
        refine ⟨nI_in (by omega) (by omega), bnd_iff.mpr ?_⟩
        rw [nI_clamp (by omega)]
        refine inner _ i (by omega) ?_
        rw [if_neg (fnd_lt _ N i (by omega) (by omega))]
        exact hk
  exact outer N.length 0 (by omega) (by omega)
