/-! Statements: what they come to. FAULTS first: a code and a place -/
abbrev Fo : Type := Option (Nat × Nat)
def plaT (T : List Tk) (t : Nat) : Nat := (tk T t).2.1
def rfF (T : List Tk) (t : Nat) : Fo := some (rfc T t, plaT T t)
def thF (a b : Fo) : Fo := match a with
  | some f => some f
  | none => b
def endF (T : List Tk) (t : Nat) : Fo := if (tk T t).1 = 0 then none else rfF T t
/-- an exp's FAULT: where it needn't be known, its trouble, where it has to be -/
def xS (T : List Tk) (N : Nt) (here : Int32) (t : Nat) : Fo := if xok T N here t = true then none else rfF T (xat T N here t)
def xT (T : List Tk) (N : Nt) (here : Int32) (t : Nat) : Fo := if (xtr T N here t).1 = 0 then none else some ((xtr T N here t).1, plaT T (xtr T N here t).2)
def xF (T : List Tk) (N : Nt) (here : Int32) (t : Nat) : Fo := thF (xT T N here t) (xS T N here t)
def rgF (v lo hi : Int32) (p : Nat) : Fo := if v < lo then some (5, p) else if hi < v then some (5, p) else none
/-- the first FAULT wins -/
def setF (ln : Nat) (F : Fo) (f : Fl) : Fl := if f.2.2 = 0 then (match F with | none => f | some q => (ln, q.2, q.1)) else f
def OKf (f : Fl) (p : Nat) : Prop := f.2.2 = 0 ∨ f.2.1 < p
/-- codes and places of a FAULT -/
def InF (F : Fo) (a b : Nat) : Prop := ∀ q, F = some q → 0 < q.1 ∧ q.1 < 10 ∧ a ≤ q.2 ∧ q.2 < b
theorem thF_none (b : Fo) : thF none b = b := rfl
theorem thF_some (q : Nat × Nat) (b : Fo) : thF (some q) b = some q := rfl
theorem thF_n (a : Fo) : thF a none = a := by
  cases a <;> rfl
theorem thF_assoc (a b c : Fo) : thF (thF a b) c = thF a (thF b c) := by
  cases a <;> rfl
theorem thF_eq {a b : Fo} (h : thF a b = none) : a = none ∧ b = none := by
  cases a with
  | none => exact ⟨rfl, h⟩
  | some q => cases h
theorem OKf.mono {f : Fl} {p q : Nat} (h : OKf f p) (hp : p ≤ q) : OKf f q := by
  rcases h with h | h
  · exact Or.inl h
  · exact Or.inr (Nat.lt_of_lt_of_le h hp)
theorem setF_none (ln : Nat) (f : Fl) : setF ln none f = f := by
  unfold setF
  split <;> rfl
theorem setF_add {f : Fl} {ln p k : Nat} (h : OKf f p) : addF f ln p k = setF ln (some (k, p)) f := by
  unfold addF setF
  by_cases z : f.2.2 = 0
  · rw [if_pos (Or.inl z), if_pos z]
  · rw [if_neg z]
    have := h.resolve_left z
    rw [if_neg (by omega)]
theorem setF_z {ln : Nat} {F : Fo} {f : Fl} {a b : Nat} (hF : InF F a b) (h : (setF ln F f).2.2 = 0) : f.2.2 = 0 ∧ F = none := by
  unfold setF at h
  by_cases z : f.2.2 = 0
  · rw [if_pos z] at h
    cases F with
    | none => exact ⟨z, rfl⟩
    | some q =>
      have := (hF q rfl).1
      dsimp only at h
      omega
  · rw [if_neg z] at h
    exact absurd h z
theorem setF_th {ln : Nat} {F G : Fo} {f : Fl} {a b : Nat} (hF : InF F a b) : setF ln G (setF ln F f) = setF ln (thF F G) f := by
  by_cases z : f.2.2 = 0
  · cases F with
    | none => rw [setF_none, thF_none]
    | some q =>
      have := (hF q rfl).1
      have e : setF ln (some q) f = (ln, q.2, q.1) := by
        unfold setF
        rw [if_pos z]
      rw [thF_some, e]
      unfold setF
      rw [if_neg (show ¬ q.1 = 0 by omega)]
  · unfold setF
    rw [if_neg z, if_neg z, if_neg z]
theorem setF_OK {ln : Nat} {F : Fo} {f : Fl} {a b p : Nat} (h : OKf f p) (hF : InF F a b) (hb : b ≤ p) : OKf (setF ln F f) p := by
  unfold setF
  by_cases z : f.2.2 = 0
  · rw [if_pos z]
    cases F with
    | none => exact h
    | some q => exact Or.inr (Nat.lt_of_lt_of_le (hF q rfl).2.2.2 hb)
  · rw [if_neg z]
    exact h
theorem InF.none (a b : Nat) : InF none a b := by
  intro q h
  cases h
theorem InF.mono {F : Fo} {a b a' b' : Nat} (h : InF F a b) (ha : a' ≤ a) (hb : b ≤ b') : InF F a' b' := by
  intro q e
  obtain ⟨h1, h2, h3, h4⟩ := h q e
  exact ⟨h1, h2, Nat.le_trans ha h3, Nat.lt_of_lt_of_le h4 hb⟩
theorem InF.th {F G : Fo} {a b : Nat} (h : InF F a b) (g : InF G a b) : InF (thF F G) a b := by
  cases F with
  | none => exact g
  | some q => exact h
theorem InF.one {k p a b : Nat} (h0 : 0 < k) (h1 : k < 10) (h2 : a ≤ p) (h3 : p < b) : InF (some (k, p)) a b := by
  intro q e
  cases e
  exact ⟨h0, h1, h2, h3⟩
theorem rfc_12 (T : List Tk) (t : Nat) : 0 < rfc T t ∧ rfc T t < 10 := by
  unfold rfc
  split <;> omega
theorem rgF_in {v lo hi : Int32} {p a b : Nat} (h2 : a ≤ p) (h3 : p < b) : InF (rgF v lo hi p) a b := by
  unfold rgF
  split
  · exact InF.one (by omega) (by omega) h2 h3
  · split
    · exact InF.one (by omega) (by omega) h2 h3
    · exact InF.none _ _
/-- places of tokens -/
theorem pl_lt {B : Nat → Nat} {n : Nat} {T : List Tk} (hL : Lx B n T) : ∀ (b a : Nat), a < b → b < T.length → plaT T a < plaT T b := by
  intro b
  induction b with
  | zero => intro a h; omega
  | succ b ih =>
    intro a h hb
    have e := ((hL.2.2 b (by omega)).2.2.1 hb).2
    by_cases z : a = b
    · subst z
      exact e
    · exact Nat.lt_trans (ih a (by omega) (by omega)) e
theorem pl_le {B : Nat → Nat} {n : Nat} {T : List Tk} (hL : Lx B n T) {b a : Nat} (h : a ≤ b) (hb : b < T.length) : plaT T a ≤ plaT T b := by
  by_cases z : a = b
  · subst z
    exact Nat.le_refl _
  · exact Nat.le_of_lt (pl_lt hL b a (by omega) hb)
theorem endF_in {B : Nat → Nat} {n : Nat} {T : List Tk} (hL : Lx B n T) {x t : Nat} (h : x ≤ t) (ht : t < T.length) (b : Nat) (hb : plaT T t < b) : InF (endF T t) (plaT T x) b := by
  unfold endF
  split
  · exact InF.none _ _
  · exact InF.one (rfc_12 T t).1 (rfc_12 T t).2 (pl_le hL h ht) hb
/-- where an exp's trouble lies -/
theorem stl_ge (L x : Nat) : ∀ (os : List Op) (v : List Vl) (tr : Nat × Nat), (∀ o, o ∈ os → x ≤ o.2) → (¬ tr.1 = 0 → x ≤ tr.2) → (∀ o, o ∈ (stl L os v tr).1 → x ≤ o.2) ∧ (¬ (stl L os v tr).2.2.1 = 0 → x ≤ (stl L os v tr).2.2.2) := by
  intro os
  induction os with
  | nil => intro v tr h1 h2; exact ⟨h1, h2⟩
  | cons o os ih =>
    intro v tr h1 h2
    unfold stl
    by_cases e : lev o.1 < L
    · rw [if_pos e]
      exact ⟨h1, h2⟩
    · rw [if_neg e]
      refine ih _ _ (fun o' h' => h1 o' (List.mem_cons_of_mem _ h')) ?_
      unfold apT2
      by_cases e7 : lev o.1 = 7
      · rw [if_pos e7]
        exact h2
      · rw [if_neg e7]
        unfold apt
        cases v with
        | nil => exact h2
        | cons b v =>
          dsimp only
          by_cases q : o.1 = 47 ∧ b.1 = 0 ∧ b.2 = true ∧ tr.1 = 0
          · rw [if_pos q]
            exact fun _ => h1 o (List.mem_cons_self ..)
          · rw [if_neg q]
            exact h2
theorem xrun_ge (T : List Tk) (N : Nt) (here : Int32) (x : Nat) : ∀ (f : Nat) (w : Bool) (os : List Op) (v : List Vl) (tr : Nat × Nat) (t : Nat), x ≤ t → (∀ o, o ∈ os → x ≤ o.2) → (¬ tr.1 = 0 → x ≤ tr.2) → (∀ o, o ∈ (xrun T N here f w os v tr t).2.2.1 → x ≤ o.2) ∧ (¬ (xrun T N here f w os v tr t).2.2.2.2.1 = 0 → x ≤ (xrun T N here f w os v tr t).2.2.2.2.2) := by
  intro f
  induction f with
  | zero => intro w os v tr t hx h1 h2; exact ⟨h1, h2⟩
  | succ f ih =>
    intro w os v tr t hx h1 h2
    unfold xrun
    by_cases a : w = true
    · rw [if_pos a]
      by_cases b : (tk T t).1 = 40 ∨ (tk T t).1 = 126 ∨ (tk T t).1 = 45
      · rw [if_pos b]
        by_cases c : 40 ≤ opn os
        · rw [if_pos c]
          exact ⟨h1, h2⟩
        · rw [if_neg c]
          refine ih _ _ _ _ _ (by omega) ?_ h2
          intro o h'
          rcases List.mem_cons.mp h' with rfl | h'
          · exact hx
          · exact h1 o h'
      · rw [if_neg b]
        cases e : xval T N here t with
        | none => exact ⟨h1, h2⟩
        | some y =>
          dsimp only
          have h3 : ¬ (tro y tr t).1 = 0 → x ≤ (tro y tr t).2 := by
            unfold tro
            split
            · exact fun _ => hx
            · exact h2
          obtain ⟨g1, g2⟩ := stl_ge 6 x os (y :: v) _ h1 h3
          exact ih _ _ _ _ _ (by omega) g1 g2
    · rw [if_neg a]
      by_cases b : (tk T t).1 = 41 ∧ 0 < parn os
      · rw [if_pos b]
        obtain ⟨g1, g2⟩ := stl_ge 1 x os v tr h1 h2
        obtain ⟨g3, g4⟩ := stl_ge 6 x (stl 1 os v tr).1.tail (stl 1 os v tr).2.1 (stl 1 os v tr).2.2 (fun o h' => g1 o (List.mem_of_mem_tail h')) g2
        exact ih _ _ _ _ _ (by omega) g3 g4
      · rw [if_neg b]
        by_cases c : 0 < lev (tk T t).1 ∧ lev (tk T t).1 < 7
        · rw [if_pos c]
          obtain ⟨g1, g2⟩ := stl_ge (lev (tk T t).1) x os v tr h1 h2
          refine ih _ _ _ _ _ (by omega) ?_ g2
          intro o h'
          rcases List.mem_cons.mp h' with rfl | h'
          · exact hx
          · exact g1 o h'
        · rw [if_neg c]
          exact ⟨h1, h2⟩
theorem xtr_ge (T : List Tk) (N : Nt) (here : Int32) (t : Nat) (h : ¬ (xtr T N here t).1 = 0) : t ≤ (xtr T N here t).2 := by
  obtain ⟨g1, g2⟩ := xrun_ge T N here t (T.length - t) true [] [] (0, 0) t (Nat.le_refl _) (fun o h => by cases h) (fun h => absurd rfl h)
  unfold xtr at h ⊢
  by_cases a : xok T N here t = true
  · rw [if_pos a] at h ⊢
    exact (stl_ge 1 t _ _ _ g1 g2).2 h
  · rw [if_neg a] at h ⊢
    exact g2 h
