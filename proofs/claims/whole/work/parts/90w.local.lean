/-! decode reads what stands there: a window of the bytes is enough -/
def byA (A : ByteArray) (i : Nat) : Option UInt8 := A.data.toList[i]?
def Agr (A B : ByteArray) (d p : Nat) : Prop := A.size + d ≤ B.size ∧ ∀ i, p ≤ i → i < A.size → byA B (i + d) = byA A i
def Mo {α : Type} (r r' : Decoder α) : Prop := ∀ (A B : ByteArray) (d p : Nat) (a : α) (q : Nat), d % 4 = 0 → Agr A B d p → r A p = .ok (a, q) → p ≤ q ∧ r' B (p + d) = .ok (a, q + d)
theorem mo_key {α β : Type} (s : Decoder α) (k : α → Decoder β) (C : ByteArray) (n : Nat) : (s >>= k) C n = Except.bind (s C n) (fun v => k v.1 C v.2) := rfl
theorem moBind {α β : Type} {r r' : Decoder α} {f f' : α → Decoder β} (h : Mo r r') (g : ∀ x, Mo (f x) (f' x)) : Mo (r >>= f) (r' >>= f') := by
  intro A B d p a q hd hA he
  rw [mo_key] at he
  cases e : r A p with
  | error x => rw [e] at he; cases he
  | ok v =>
    rw [e] at he
    obtain ⟨x, p'⟩ := v
    obtain ⟨h1, h2⟩ := h A B d p x p' hd hA e
    obtain ⟨h3, h4⟩ := g x A B d p' a q hd ⟨hA.1, fun i hi hs => hA.2 i (Nat.le_trans h1 hi) hs⟩ he
    refine ⟨Nat.le_trans h1 h3, ?_⟩
    rw [mo_key, h2]
    exact h4
theorem moPure {α : Type} (x : α) : Mo (pure x : Decoder α) (pure x) := by
  intro A B d p a q hd hA he
  have he : (Except.ok (x, p) : Except DecodeError (α × Nat)) = .ok (a, q) := he
  cases he
  exact ⟨Nat.le_refl _, rfl⟩
theorem moThrow {α : Type} (e : DecodeError) (r' : Decoder α) : Mo (throw e : Decoder α) r' := by
  intro A B d p a q hd hA he
  have he : (Except.error e : Except DecodeError (α × Nat)) = .ok (a, q) := he
  cases he
theorem moMap {α β : Type} {r r' : Decoder α} (f : α → β) (h : Mo r r') : Mo (f <$> r) (f <$> r') := by
  have key : ∀ (s : Decoder α) (C : ByteArray) (n : Nat), (f <$> s) C n = Except.bind (s C n) (fun v => .ok (f v.1, v.2)) := fun _ _ _ => rfl
  intro A B d p a q hd hA he
  rw [key] at he
  cases e : r A p with
  | error x => rw [e] at he; cases he
  | ok v =>
    rw [e] at he
    obtain ⟨x, p'⟩ := v
    obtain ⟨h1, h2⟩ := h A B d p x p' hd hA e
    have he : (Except.ok (f x, p') : Except DecodeError (β × Nat)) = .ok (a, q) := he
    cases he
    refine ⟨h1, ?_⟩
    rw [key, h2]
    rfl
theorem byA_some {A : ByteArray} {p : Nat} (h : p < A.size) : byA A p = some (A[p]'h) := List.getElem?_eq_getElem h
theorem byA_none {A : ByteArray} {p : Nat} (h : ¬ p < A.size) : byA A p = none := List.getElem?_eq_none (Nat.le_of_not_lt h)
theorem u1_pos {A : ByteArray} {p : Nat} (h : p < A.size) : (Reader.u1 : Decoder Nat) A p = .ok ((A[p]'h).toNat, p + 1) := by
  show (dite (p < A.size) (fun h => (do set (p + 1); pure (A[p]'h).toNat : Decoder Nat)) (fun _ => throw (HasTruncated.truncated p))) A p = _
  rw [dif_pos h]
  rfl
theorem u1_neg {A : ByteArray} {p : Nat} (h : ¬ p < A.size) : (Reader.u1 : Decoder Nat) A p = .error (HasTruncated.truncated p) := by
  show (dite (p < A.size) (fun h => (do set (p + 1); pure (A[p]'h).toNat : Decoder Nat)) (fun _ => throw (HasTruncated.truncated p))) A p = _
  rw [dif_neg h]
  rfl
theorem moU1 : Mo (Reader.u1 : Decoder Nat) Reader.u1 := by
  intro A B d p a q hd hA he
  by_cases h : p < A.size
  · rw [u1_pos h] at he
    cases he
    have hb : p + d < B.size := Nat.lt_of_lt_of_le (Nat.add_lt_add_right h d) hA.1
    have e := hA.2 p (Nat.le_refl _) h
    rw [byA_some h, byA_some hb] at e
    refine ⟨Nat.le_succ _, ?_⟩
    rw [u1_pos hb, Option.some.inj e, Nat.add_right_comm]
  · rw [u1_neg h] at he
    cases he
theorem moU2 : Mo (Reader.u2 : Decoder Nat) Reader.u2 := moBind moU1 (fun _ => moBind moU1 (fun _ => moPure _))
theorem moU4 : Mo (Reader.u4 : Decoder Nat) Reader.u4 := moBind moU2 (fun _ => moBind moU2 (fun _ => moPure _))
theorem moS1 : Mo (Reader.s1 : Decoder Int) Reader.s1 := moMap _ moU1
theorem moS2 : Mo (Reader.s2 : Decoder Int) Reader.s2 := moMap _ moU2
theorem moS4 : Mo (Reader.s4 : Decoder Int) Reader.s4 := moMap _ moU4
theorem moGo {α : Type} {r r' : Decoder α} (h : Mo r r') : ∀ (n : Nat) (acc : Array α), Mo (Reader.times.go r n acc) (Reader.times.go r' n acc)
  | 0, _ => moPure _
  | n + 1, acc => moBind h (fun x => moGo h n (acc.push x))
theorem moTimes {α : Type} {r r' : Decoder α} (h : Mo r r') (n : Nat) : Mo (Reader.times n r) (Reader.times n r') := moGo h n #[]
theorem pad_eq (A : ByteArray) (p : Nat) : Decoder.padding A p = if p + (4 - p % 4) % 4 ≤ A.size then .ok ((), p + (4 - p % 4) % 4) else .error (HasTruncated.truncated A.size) := by
  by_cases h : p + (4 - p % 4) % 4 ≤ A.size
  · rw [if_pos h]
    show Except.bind (((if p + (4 - p % 4) % 4 ≤ A.size then (do set (p + (4 - p % 4) % 4); pure (A.extract p (p + (4 - p % 4) % 4))) else throw (HasTruncated.truncated A.size)) : Decoder ByteArray) A p) (fun v => .ok ((), v.2)) = _
    rw [if_pos h]
    rfl
  · rw [if_neg h]
    show Except.bind (((if p + (4 - p % 4) % 4 ≤ A.size then (do set (p + (4 - p % 4) % 4); pure (A.extract p (p + (4 - p % 4) % 4))) else throw (HasTruncated.truncated A.size)) : Decoder ByteArray) A p) (fun v => .ok ((), v.2)) = _
    rw [if_neg h]
    rfl
theorem moPad : Mo Decoder.padding Decoder.padding := by
  intro A B d p a q hd hA he
  rw [pad_eq] at he ⊢
  have e : (4 - (p + d) % 4) % 4 = (4 - p % 4) % 4 := by omega
  rw [e]
  by_cases h : p + (4 - p % 4) % 4 ≤ A.size
  · rw [if_pos h] at he
    cases he
    rw [if_pos (by have := hA.1; omega)]
    exact ⟨Nat.le_add_right _ _, by rw [Nat.add_right_comm]⟩
  · rw [if_neg h] at he
    cases he
