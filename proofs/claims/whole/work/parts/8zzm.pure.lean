/-! Methods that touch no object: a run in a world without objects gives the run in every world -/
def actP (w : vmW) (r' r : vmR) : Prop := (∀ pc2 lo2 w2 st2, r' = vmGo pc2 lo2 w2 st2 → w2.1.1 = 0 → r = vmGo pc2 lo2 w st2) ∧ (∀ x, r' = .inl x → r = .inl x) ∧ ∀ x, r' = .inr (.inl x) → r = .inr (.inl x)
theorem ap_go {w z : vmW} {pc : Nat} {lo : vmL} {st : List Value} : actP w (vmGo pc lo z st) (vmGo pc lo w st) := by
  refine ⟨fun pc2 lo2 w2 st2 e _ => ?_, fun x e => (vmGo_ret e).elim, fun x e => (vmGo_call e).elim⟩
  obtain ⟨rfl, rfl, rfl, rfl⟩ := vmGo_inj e
  rfl
theorem ap_new {w z : vmW} {pc : Nat} {lo : vmL} {st : List Value} {r : vmR} {kind len : Nat} : actP w (vmGo pc lo (vmNew z kind len) st) r := by
  refine ⟨fun pc2 lo2 w2 st2 e h => ?_, fun x e => (vmGo_ret e).elim, fun x e => (vmGo_call e).elim⟩
  obtain ⟨rfl, rfl, rfl, rfl⟩ := vmGo_inj e
  exact absurd h (Nat.succ_ne_zero _)
theorem ap_no {w : vmW} {r : vmR} : actP w vmNo r := ⟨fun _ _ _ _ e => (vmNo_go e).elim, fun _ e => (vmNo_ret e).elim, fun _ e => (vmNo_call e).elim⟩
theorem ap_ret {w : vmW} {x : Option Value} : actP w (.inl x) (.inl x) := ⟨fun _ _ _ _ e => (vmGo_ret e.symm).elim, fun _ e => e, fun _ e => by cases e⟩
theorem ap_bif {w : vmW} {b : Bool} {x' x y' y : vmR} (h1 : actP w x' x) (h2 : actP w y' y) : actP w (bif b then x' else y') (bif b then x else y) := by cases b; exact h2; exact h1
theorem ap_ite {w : vmW} {P : Prop} [Decidable P] {x' x y' y : vmR} (h1 : actP w x' x) (h2 : actP w y' y) : actP w (if P then x' else y') (if P then x else y) := by
  split
  · exact h1
  · exact h2
theorem ap_iteL {w : vmW} {P : Prop} [Decidable P] {x' y' r : vmR} (h1 : actP w x' r) (h2 : actP w y' r) : actP w (if P then x' else y') r := by
  split
  · exact h1
  · exact h2
theorem ap_callI {w z : vmW} (hz : ∀ o c, vmIs z o c = false) {k' : Nat} {st : List Value} {r : vmR} : actP w (vmCall z k' true st) r := by
  unfold vmCall
  cases Nat.ble (mArgs k' + (bif true then 1 else 0)) st.length with
  | false => exact ap_no
  | true =>
    dsimp only [cond_true]
    split
    · rw [hz, Bool.and_false]
      exact ap_no
    · rw [Bool.and_false]
      exact ap_no
theorem ap_callS {w z : vmW} {k' : Nat} {st : List Value} : actP w (vmCall z k' false st) (vmCall w k' false st) := ⟨fun _ _ _ _ e => (vmCall_go e).elim, fun _ e => e, fun _ e => e⟩
theorem ap_invoke {w z : vmW} (hz : ∀ o c, vmIs z o c = false) {pc : Nat} {lo : vmL} {r : Option (Nat × Nat × List Nat)} {st : List Value} : actP w (vmInvoke pc lo z r st) (vmInvoke pc lo w r st) := by
  unfold vmInvoke
  repeat' (first | exact ap_go | exact ap_no | exact ap_callS | exact ap_callI hz | apply ap_bif | apply ap_ite | split)
set_option maxRecDepth 100000 in
set_option maxHeartbeats 8000000 in
theorem act_pure {k pc len tg : Nat} {cv : Int32} {i : Instr} {lo : vmL} {st : List Value} {w z : vmW} (hk : Nat.beq k 406 = false) (hz : ∀ o c, vmIs z o c = false) : actP w (vmAct k i len cv tg pc lo st z) (vmAct k i len cv tg pc lo st w) := by
  cases i
  case invokevirtual j => exact ap_invoke hz
  case invokespecial j => exact ap_invoke hz
  case invokestatic j => exact ap_invoke hz
  all_goals first
    | exact ap_no
    | (delta vmAct
       try dsimp only
       repeat' (first | exact ap_go | exact ap_new | exact ap_no | exact ap_ret | (simp only [hz, hk, Bool.false_or, Bool.and_false, Bool.false_and, cond_false]; done) | (simp only [hz, hk, Bool.false_or, Bool.and_false, Bool.false_and, cond_false]; exact ap_no) | apply ap_bif | apply ap_ite | split))
def wZ : vmW := ((0, fun _ => 0, fun _ _ => 0, fun _ => 0, 0), (fun _ _ => 0, fun _ _ => 0, fun _ _ => 0, fun _ _ => 0))
theorem wZ_is (o c : Nat) : vmIs wZ o c = false := by
  unfold vmIs
  show (Nat.ble (o + 1) 0 && (wZ.fst.snd.fst o).beq c) = false
  rw [show Nat.ble (o + 1) 0 = false from rfl, Bool.false_and]
noncomputable def pRun : Nat → Nat → Nat → vmL → List Value → Option (Option Value)
  | 0, _, _, _, _ => none
  | n + 1, k, pc, lo, st => bif Nat.beq k 406 then none else match mI k pc with
    | none => none
    | some (i, len, cv, tg) => match vmAct k i len cv tg pc lo st wZ with
      | .inl rv => some rv
      | .inr (.inl (k', args, rest)) => (match pRun n k' 0 (lv_args 0 args) [] with
        | some rv => pRun n k (pc + 3) lo (rv.toList ++ rest)
        | none => none)
      | .inr (.inr (some (pc', lo', st', w'))) => bif Nat.beq w'.1.1 0 then pRun n k pc' lo' st' else none
      | .inr (.inr none) => none
theorem pRun_ok (w : vmW) : ∀ (n : Nat) {k pc : Nat} {lo : vmL} {st : List Value} {rv : Option Value}, pRun n k pc lo st = some rv → vmRun n k pc lo st w = some (rv, w) := by
  intro n
  induction n with
  | zero => intro k pc lo st rv h; simp [pRun] at h
  | succ n ih =>
    intro k pc lo st rv h
    unfold pRun at h
    unfold vmRun
    cases hk : Nat.beq k 406 with
    | true => rw [hk] at h; cases h
    | false =>
      rw [hk, cond_false] at h
      cases hi : mI k pc with
      | none => rw [hi] at h; cases h
      | some q =>
        obtain ⟨i, len, cv, tg⟩ := q
        rw [hi] at h
        dsimp only at h ⊢
        obtain ⟨h1, h2, h3⟩ := act_pure (w := w) (k := k) (pc := pc) (len := len) (tg := tg) (cv := cv) (i := i) (st := st) (lo := lo) hk wZ_is
        cases hA : vmAct k i len cv tg pc lo st wZ with
        | inl v =>
          rw [hA] at h
          rw [h2 _ hA]
          cases h
          rfl
        | inr y =>
          rw [hA] at h
          cases y with
          | inl c =>
            rw [h3 _ hA]
            obtain ⟨k2, as, rest⟩ := c
            dsimp only at h ⊢
            cases hC : pRun n k2 0 (lv_args 0 as) [] with
            | none => rw [hC] at h; cases h
            | some y =>
              rw [hC] at h
              rw [ih hC]
              exact ih h
          | inr c =>
            cases c with
            | none => cases h
            | some y =>
              obtain ⟨pc2, lo2, st2, w2⟩ := y
              dsimp only at h
              cases h0 : Nat.beq w2.1.1 0 with
              | false => rw [h0] at h; cases h
              | true =>
                rw [h0, cond_true] at h
                rw [h1 pc2 lo2 w2 st2 hA (Nat.eq_of_beq_eq_true h0)]
                exact ih h
