/-! SOUNDNESS, 6: a run of our machine is a run of the machine -/
def noCall (r : vmR) : Prop := ∀ x, r ≠ .inr (.inl x)
theorem nc_go {pc : Nat} {lo : vmL} {w : vmW} {st : List Value} : noCall (vmGo pc lo w st) := fun _ h => vmGo_call h
theorem nc_no : noCall vmNo := fun _ h => vmNo_call h
theorem nc_ret {v : Option Value} : noCall (.inl v) := fun _ h => by cases h
theorem nc_bif {b : Bool} {x y : vmR} (h1 : noCall x) (h2 : noCall y) : noCall (bif b then x else y) := by cases b; exact h2; exact h1
theorem nc_ite {P : Prop} [Decidable P] {x y : vmR} (h1 : noCall x) (h2 : noCall y) : noCall (if P then x else y) := by
  split
  · exact h1
  · exact h2
set_option maxRecDepth 100000 in
set_option maxHeartbeats 4000000 in
theorem act_call {k pc len tg : Nat} {cv : Int32} {i : Instr} {lo : vmL} {st : List Value} {w : vmW} {x : Nat × List Value × List Value} (hA : vmAct k i len cv tg pc lo st w = .inr (.inl x)) : ∃ j, (i = .invokevirtual j ∨ i = .invokespecial j ∨ i = .invokestatic j) ∧ vmInvoke pc lo w (rM (mC k) j) st = .inr (.inl x) := by
  cases i
  case invokevirtual j => exact ⟨j, Or.inl rfl, hA⟩
  case invokespecial j => exact ⟨j, Or.inr (Or.inl rfl), hA⟩
  case invokestatic j => exact ⟨j, Or.inr (Or.inr rfl), hA⟩
  all_goals first
    | exact (vmNo_call hA).elim
    | (exfalso
       refine absurd hA (?_ : noCall _) |>.elim
       done)
    | (exfalso
       revert hA
       suffices h : noCall (vmAct _ _ _ _ _ _ _ _ _) from h x
       delta vmAct
       dsimp only
       repeat' (first | exact nc_go | exact nc_no | exact nc_ret | apply nc_bif | apply nc_ite | split))
theorem args_ok {w : vmW} : ∀ (vs : List Value) (i : Nat), (∀ v ∈ vs, okv w v) → ∀ q ∈ lv_args i vs, okv w q.2
  | [], _, _, q, hq => by cases hq
  | v :: vs, i, h, q, hq => by
    have hq : q ∈ (i, v) :: lv_args (if v.category = 2 then i + 2 else i + 1) vs := hq
    rcases List.mem_cons.mp hq with rfl | hq
    · exact h v List.mem_cons_self
    · exact args_ok vs _ (fun x hx => h x (List.mem_cons_of_mem _ hx)) q hq
def rvOk (rv : Option Value) : Prop := rv = none ∨ (∃ x : Int32, rv = some (.int x)) ∨ ∃ x : Int64, rv = some (.long x)
set_option maxRecDepth 100000 in
set_option maxHeartbeats 4000000 in
theorem act_ret {k pc len tg : Nat} {cv : Int32} {i : Instr} {lo : vmL} {st : List Value} {w : vmW} {rv : Option Value} (hA : vmAct k i len cv tg pc lo st w = .inl rv) : (i = .return_ ∧ st = [] ∧ rv = none ∧ mR k = none) ∨ (i = .lreturn ∧ mR k = some .long ∧ ∃ x : Int64, st = [.long x] ∧ rv = some (.long x)) ∨ (i = .ireturn ∧ ∃ x : Int32, st = [.int x] ∧ rv = some (.int x) ∧ (mR k = some .int ∨ (mR k = some .boolean ∧ (x = 0 ∨ x = 1)))) := by
  have hno : ∀ (r : vmR), (∀ y, r ≠ .inl y) → r = .inl rv → False := fun r h e => h rv e
  have g1 : ∀ {pc lo w st}, ∀ y, vmGo pc lo w st ≠ .inl y := fun y h => vmGo_ret h
  have g2 : ∀ y, vmNo ≠ .inl y := fun y h => vmNo_ret h
  have g3 : ∀ (b : Bool) (x y : vmR), (∀ z, x ≠ .inl z) → (∀ z, y ≠ .inl z) → ∀ z, (bif b then x else y) ≠ .inl z := fun b x y h1 h2 => by cases b; exact h2; exact h1
  cases i
  case return_ =>
    delta vmAct at hA
    dsimp only at hA
    split at hA
    · rename_i h1 h2
      cases hA
      exact Or.inl ⟨rfl, rfl, rfl, h2⟩
    · exact (vmNo_ret hA).elim
  case lreturn =>
    delta vmAct at hA
    dsimp only at hA
    split at hA
    · rename_i x h1 h2
      cases hA
      exact Or.inr (Or.inl ⟨rfl, h2, _, rfl, rfl⟩)
    · exact (vmNo_ret hA).elim
  case ireturn =>
    delta vmAct at hA
    dsimp only at hA
    split at hA
    · rename_i x h1 h2
      cases hA
      exact Or.inr (Or.inr ⟨rfl, _, rfl, rfl, Or.inl h2⟩)
    · split at hA
      · rename_i x h1 h2 h3
        cases hA
        exact Or.inr (Or.inr ⟨rfl, _, rfl, rfl, Or.inr ⟨h2, h3⟩⟩)
      · exact (vmNo_ret hA).elim
    · exact (vmNo_ret hA).elim
  all_goals first
    | exact (vmNo_ret hA).elim
    | (exfalso
       revert hA
       suffices h : ∀ y, vmAct _ _ _ _ _ _ _ _ _ ≠ .inl y from h rv
       delta vmAct
       try dsimp only
       try unfold vmInvoke
       try unfold vmCall
       try dsimp only
       repeat' (first | exact g1 | exact g2 | (intro y h; cases h; done) | apply g3 | split))
