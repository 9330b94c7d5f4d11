/-! the same of every instruction -/
theorem moWide (pc pc' : Nat) : Mo (Decoder.wide pc) (Decoder.wide pc') := by
  unfold Decoder.wide
  refine moBind moU1 (fun x => ?_)
  split <;> first
    | exact moThrow _ _
    | exact moMap _ moU2
    | exact moBind moU2 (fun _ => moPure _)
    | exact moBind moU2 (fun _ => moBind moS2 (fun _ => moPure _))
theorem moNewarray (pc pc' : Nat) : Mo (Decoder.newarray pc) (Decoder.newarray pc') := by
  unfold Decoder.newarray
  refine moBind moU1 (fun x => ?_)
  split <;> first
    | exact moThrow _ _
    | exact moPure _
theorem moThrowB {α β : Type} (e : DecodeError) (k : α → Decoder β) (r' : Decoder β) : Mo ((throw e : Decoder α) >>= k) r' := by
  intro A B d p a q hd hA he
  have he : (Except.error e : Except DecodeError (β × Nat)) = .ok (a, q) := he
  cases he
theorem moTable (pc pc' : Nat) : Mo (Decoder.tableswitch pc) (Decoder.tableswitch pc') := by
  unfold Decoder.tableswitch
  refine moBind moPad (fun _ => moBind moS4 (fun _ => moBind moS4 (fun a => moBind moS4 (fun b => ?_))))
  by_cases q : a ≤ b
  · simp only [q, if_true]
    exact moBind (moTimes moS4 _) (fun _ => moPure _)
  · simp only [q, if_false]
    exact moThrowB _ _ _
theorem moLookup (pc pc' : Nat) : Mo (Decoder.lookupswitch pc) (Decoder.lookupswitch pc') := by
  unfold Decoder.lookupswitch
  refine moBind moPad (fun _ => moBind moS4 (fun _ => moBind moS4 (fun n => ?_)))
  by_cases q : 0 ≤ n
  · simp only [q, if_true]
    refine moBind (moTimes (moBind moS4 (fun _ => moBind moS4 (fun _ => moPure _))) _) (fun ps => ?_)
    by_cases z : Decoder.increasing (List.map (fun x => x.fst) ps.toList) = true
    · rw [if_pos z, if_pos z]
      exact moPure _
    · rw [if_neg z, if_neg z]
      exact moThrowB _ _ _
  · simp only [q, if_false]
    exact moThrowB _ _ _
theorem moInterface (pc pc' : Nat) : Mo (Decoder.invokeinterface pc) (Decoder.invokeinterface pc') := by
  unfold Decoder.invokeinterface
  refine moBind moU2 (fun _ => moBind moU1 (fun a => moBind moU1 (fun b => ?_)))
  by_cases z : (a != 0 && b == 0) = true
  · rw [if_pos z, if_pos z]
    exact moPure _
  · rw [if_neg z, if_neg z]
    exact moThrowB _ _ _
theorem moDynamic (pc pc' : Nat) : Mo (Decoder.invokedynamic pc) (Decoder.invokedynamic pc') := by
  unfold Decoder.invokedynamic
  refine moBind moU2 (fun _ => moBind moU2 (fun a => ?_))
  by_cases z : (a == 0) = true
  · rw [if_pos z, if_pos z]
    exact moPure _
  · rw [if_neg z, if_neg z]
    exact moThrowB _ _ _
theorem moMulti (pc pc' : Nat) : Mo (Decoder.multianewarray pc) (Decoder.multianewarray pc') := by
  unfold Decoder.multianewarray
  refine moBind moU2 (fun _ => moBind moU1 (fun a => ?_))
  by_cases z : (a != 0) = true
  · rw [if_pos z, if_pos z]
    exact moPure _
  · rw [if_neg z, if_neg z]
    exact moThrowB _ _ _
set_option maxHeartbeats 40000000 in
set_option maxRecDepth 100000 in
theorem moInstr (pc pc' : Nat) : Mo (Decoder.instr pc) (Decoder.instr pc') := by
  unfold Decoder.instr
  refine moBind moU1 (fun x => ?_)
  split <;> first
    | exact moThrow _ _
    | exact moPure _
    | exact moBind moU1 (fun _ => moPure _)
    | exact moBind moU2 (fun _ => moPure _)
    | exact moBind moS1 (fun _ => moPure _)
    | exact moBind moS2 (fun _ => moPure _)
    | exact moBind moS4 (fun _ => moPure _)
    | exact moBind moU1 (fun _ => moBind moS1 (fun _ => moPure _))
    | exact moTable _ _
    | exact moLookup _ _
    | exact moInterface _ _
    | exact moDynamic _ _
    | exact moNewarray _ _
    | exact moWide _ _
    | exact moMulti _ _
theorem dec_key (C : ByteArray) (n : Nat) : decode C n = Except.bind (Decoder.instr n C n) (fun v => .ok (v.1, v.2 - n)) := rfl
/-- what decode says of a window it says of the whole -/
theorem decode_win {A B : ByteArray} {d p : Nat} {i : Instr} {len : Nat} (hd : d % 4 = 0) (hA : Agr A B d p) (h : decode A p = .ok (i, len)) : decode B (p + d) = .ok (i, len) := by
  rw [dec_key] at h ⊢
  cases e : Decoder.instr p A p with
  | error x => rw [e] at h; cases h
  | ok v =>
    rw [e] at h
    obtain ⟨x, q⟩ := v
    have h : (Except.ok (x, q - p) : Except DecodeError (Instr × Nat)) = .ok (i, len) := h
    cases h
    obtain ⟨-, h2⟩ := moInstr p (p + d) A B d p _ _ hd hA e
    rw [h2]
    show (Except.ok (_, q + d - (p + d)) : Except DecodeError (Instr × Nat)) = _
    rw [Nat.add_sub_add_right]
