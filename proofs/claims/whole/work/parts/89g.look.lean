/-! Both sides look at an address -/
def i3V (g : Nat) : Int32 := if g = 0 then 0 else if g = 2 then 2 else if g = 3 then 0 else if g = 4 then 0 else 1
def ixV (g : Nat) : Nat := if g = 3 then 1 else if g = 4 then 2 else if g = 5 then 1 else if g = 6 then 2 else 0
theorem gX_3 : ∀ ix, ix < 3 → i3V (gX ix) = 0 ∧ ixV (gX ix) = ix := by decide
theorem gB_3 : ∀ ix, ix < 3 → i3V (gB ix) = 1 ∧ ixV (gB ix) = ix := by decide
def nuV (kd oa op : Int32) (r : vmD) : Int32 := if kd = 36 then rb r oa else if kd = 37 then rw2 r oa else if kd = 38 then ((oa + 1) + (Int8.toInt32 (Int32.toInt8 (rb r oa)))) &&& 65535 else if kd = 39 then (op >>> ((3 : Int32) &&& 31)) &&& 7 else if kd = 40 then op &&& 56 else if kd = 41 then (if (((op >>> ((3 : Int32) &&& 31)) &&& 7) - 1) < 0 then 0 else (((op >>> ((3 : Int32) &&& 31)) &&& 7) - 1)) else if kd = 42 then rb r oa else if kd = 43 then rw2 r oa else 0
theorem number_eq {c r : vmD} (h : Rel c r) (kd x : Int32) (Q : Int32 → vmD → Prop) : Instruction_numberOf kd x c Q = Q (nuV kd x (gF c 19 4) r) c := by
  unfold Instruction_numberOf nuV
  simp only [mat_eq, wat_eq, mb_rb h.2.1, mw_rw h.2.1]
  repeat' split
  all_goals rfl
def nkV (n : Nat) : Int32 := if Instruction_isNumber_v (fV n) = 0 then eV n else fV n
def isB (g : Nat) : Bool := decide (g = 5) || decide (g = 6)
theorem add12 (x : Int32) : x + 1 + 2 = x + 3 := by rw [Int32.add_assoc]; rfl
theorem add11 (x : Int32) : x + 1 + 1 = x + 2 := by rw [Int32.add_assoc]; rfl
theorem add111 (x : Int32) : x + 1 + 1 + 1 = x + 3 := by rw [Int32.add_assoc, Int32.add_assoc]; rfl
theorem add121 (x : Int32) : x + 1 + 2 - 1 = x + 2 := by rw [Int32.add_assoc, Int32.sub_eq_add_neg, Int32.add_assoc]; rfl
/-- the group, and where the opcode stands -/
def LkAt (r : vmD) (x : Int32) (g : Nat) (at_ : Int32) : Prop :=
  (g = 0 ∧ at_ = x ∧ ¬ rb r x = 203 ∧ ¬ rb r x = 237 ∧ ¬ rb r x = 221 ∧ ¬ rb r x = 253) ∨
  (g = 1 ∧ at_ = x + 1 ∧ rb r x = 203) ∨ (g = 2 ∧ at_ = x + 1 ∧ rb r x = 237) ∨
  (g = 3 ∧ at_ = x + 1 ∧ rb r x = 221 ∧ ¬ rb r (x + 1) = 203) ∨ (g = 4 ∧ at_ = x + 1 ∧ rb r x = 253 ∧ ¬ rb r (x + 1) = 203) ∨
  (g = 5 ∧ at_ = x + 1 + 2 ∧ rb r x = 221 ∧ rb r (x + 1) = 203) ∨ (g = 6 ∧ at_ = x + 1 + 2 ∧ rb r x = 253 ∧ rb r (x + 1) = 203)
theorem lk_at {c r : vmD} (h : Rel c r) (x : Int32) : ∃ g at_, g < 7 ∧ LkAt r x g at_ ∧ ∀ Q, Instruction_look x c Q = Instruction_look_67 (rb r x) (nI g) at_ c Q := by
  have hl : ∀ Q, Instruction_look x c Q = if Instruction_groupOf_v (rb r x) = 0 then Instruction_look_25 (rb r x) (Instruction_groupOf_v (rb r x)) x c Q else Instruction_look_25 (rb r x) (Instruction_groupOf_v (rb r x)) (x + 1) c Q := by
    intro Q
    unfold Instruction_look
    rw [mat_eq, mb_rb h.2.1, Instruction_groupOf_e]
  have h37 : ∀ (g y : Int32) Q, Instruction_look_37 (rb r x) g y c Q = if rb r y = 203 then (if g = 3 then Instruction_look_67 (rb r x) 5 (y + 2) c Q else Instruction_look_67 (rb r x) 6 (y + 2) c Q) else Instruction_look_67 (rb r x) g y c Q := by
    intro g y Q
    unfold Instruction_look_37 Instruction_look_63
    simp only [mat_eq, mb_rb h.2.1, bnd_iff]
  unfold Instruction_groupOf_v Instruction_look_25 at hl
  simp only [h37] at hl
  by_cases h1 : rb r x = 203
  · exact ⟨1, x + 1, by omega, Or.inr (Or.inl ⟨rfl, rfl, h1⟩), fun Q => by rw [hl, if_pos h1, if_neg (by decide), if_neg (by decide), if_neg (by decide)]; rfl⟩
  by_cases h2 : rb r x = 221
  · by_cases h5 : rb r (x + 1) = 203
    · exact ⟨5, x + 1 + 2, by omega, Or.inr (Or.inr (Or.inr (Or.inr (Or.inr (Or.inl ⟨rfl, rfl, h2, h5⟩))))), fun Q => by rw [hl, if_neg h1, if_pos h2, if_neg (by decide), if_pos (by decide), if_pos h5, if_pos (by decide)]; rfl⟩
    · exact ⟨3, x + 1, by omega, Or.inr (Or.inr (Or.inr (Or.inl ⟨rfl, rfl, h2, h5⟩))), fun Q => by rw [hl, if_neg h1, if_pos h2, if_neg (by decide), if_pos (by decide), if_neg h5]; rfl⟩
  by_cases h3 : rb r x = 237
  · exact ⟨2, x + 1, by omega, Or.inr (Or.inr (Or.inl ⟨rfl, rfl, h3⟩)), fun Q => by rw [hl, if_neg h1, if_neg h2, if_pos h3, if_neg (by decide), if_neg (by decide), if_neg (by decide)]; rfl⟩
  by_cases h4 : rb r x = 253
  · by_cases h5 : rb r (x + 1) = 203
    · exact ⟨6, x + 1 + 2, by omega, Or.inr (Or.inr (Or.inr (Or.inr (Or.inr (Or.inr ⟨rfl, rfl, h4, h5⟩))))), fun Q => by rw [hl, if_neg h1, if_neg h2, if_neg h3, if_pos h4, if_neg (by decide), if_neg (by decide), if_pos (by decide), if_pos h5, if_neg (by decide)]; rfl⟩
    · exact ⟨4, x + 1, by omega, Or.inr (Or.inr (Or.inr (Or.inr (Or.inl ⟨rfl, rfl, h4, h5⟩)))), fun Q => by rw [hl, if_neg h1, if_neg h2, if_neg h3, if_pos h4, if_neg (by decide), if_neg (by decide), if_pos (by decide), if_neg h5]; rfl⟩
  · exact ⟨0, x, by omega, Or.inl ⟨rfl, rfl, h1, h3, h2, h4⟩, fun Q => by rw [hl, if_neg h1, if_neg h2, if_neg h3, if_neg h4, if_pos (by decide), if_neg (by decide), if_neg (by decide)]; rfl⟩
theorem CC.of {c r : vmD} (h : Rel c r) : CC c := h.1
/-- the class's look, where an instruction stands -/
theorem look_yes {c r : vmD} (h : Rel c r) {x at_ : Int32} {g k : Nat} (hg : g < 7) (hk : k < 256) (hl : ∀ Q, Instruction_look x c Q = Instruction_look_67 (rb r x) (nI g) at_ c Q) (hop : rb r at_ = nI k) (hs : ¬ tabS (256 * g + k) < 0) (Q : vmD → Prop) : Instruction_look x c Q = Q (lS c (nI k) 1 (wV (256 * g + k)) (fV (256 * g + k)) (eV (256 * g + k)) (zV g k) (Int8.toInt32 (Int32.toInt8 (rb r (bif isB g then at_ - 1 else at_ + 1)))) (nuV (nkV (256 * g + k)) (behV g k at_) (nI k) r)) := by
  rw [hl, look67_yes (CC.of h) hg hk ((mb_rb h.2.1 _).trans hop) hs, number_eq (r := r) (by simp only [Rel.s19]; exact h)]
  have e4 : gF (sF (sF (sF (sF (sF (sF (sF c 19 4 (nI k)) 19 3 1) 19 5 (wV (256 * g + k))) 19 6 (fV (256 * g + k))) 19 7 (eV (256 * g + k))) 19 10 (zV g k)) 19 8 (Int8.toInt32 (Int32.toInt8 (mb c (bif decide (g = 5) || decide (g = 6) then at_ - 1 else at_ + 1))))) 19 4 = nI k := by
    simp only [gA_sA, gA_sA_ne, gA_sF, gA_sG, gA_sL, gF_sA, gF_sF, gF_sF_ne, gF_sG, gF_sL, gG_sA, gG_sF, gG_sL, gG_sGe, gG_sG_ne, gL_sA, gL_sF, gL_sG, gL_sLe, gL_sL_ne, u1f_eq, u1f_ne, bnd_iff, not_false_eq_true, Nat.reduceEqDiff]
  rw [e4, mb_rb h.2.1]
  rfl
theorem look_no {c r : vmD} (h : Rel c r) {x at_ : Int32} {g k : Nat} (hg : g < 7) (hk : k < 256) (hl : ∀ Q, Instruction_look x c Q = Instruction_look_67 (rb r x) (nI g) at_ c Q) (hop : rb r at_ = nI k) (hs : tabS (256 * g + k) < 0) (Q : vmD → Prop) : Instruction_look x c Q = Q (lS c (nI k) 0 101 36 0 1 (Int8.toInt32 (Int32.toInt8 (rb r (bif isB g then at_ - 1 else at_ + 1)))) (rb r x)) := by
  rw [hl, look67_no (CC.of h) hg hk ((mb_rb h.2.1 _).trans hop) hs, mb_rb h.2.1]
  rfl
/-- both: the opcode, and the reference's fields -/
def LkNo (c r : vmD) (x : Int32) : Prop := (∃ op di, ∀ Q, Instruction_look x c Q = Q (lS c op 0 101 36 0 1 di (rb r x))) ∧ ∃ a0 a1 a2 a3 a4 a5, ∀ Q : Int32 → vmD → Prop, MO_decode x r Q = Q 0 (dS r a0 a1 a2 a3 a4 a5)
def LkYes (c r : vmD) (x : Int32) (g k : Nat) : Prop := ∃ b di d2 oa, (∀ Q, Instruction_look x c Q = Q (lS c (nI k) 1 (wV (256 * g + k)) (fV (256 * g + k)) (eV (256 * g + k)) (zV g k) di (nuV (nkV (256 * g + k)) b (nI k) r))) ∧ (∀ Q : Int32 → vmD → Prop, MO_decode x r Q = Q 1 (dS r (i3V g) (nI (ixV g)) d2 (nI k) oa (zV g k))) ∧ (nearV (256 * g + k) = true → di = d2 ∧ oct (rb r (x + 2)) ∧ di = Int8.toInt32 (Int32.toInt8 (rb r (x + 2)))) ∧ (¬ i3V g = 1 → b = oa) ∧ (g = 0 → oa = x + 1) ∧ (nearV (256 * g + k) = false → d2 = 0)
def lead0 (r : vmD) (x : Int32) (g : Nat) : Prop := (g = 0 → ¬ rb r x = 203 ∧ ¬ rb r x = 237 ∧ ¬ rb r x = 221 ∧ ¬ rb r x = 253) ∧ (¬ g = 0 → rb r x = 203 ∨ rb r x = 237 ∨ rb r x = 221 ∨ rb r x = 253)
theorem nr_0 : ∀ g, g < 3 → ∀ k, k < 256 → tabS (256 * g + k) < 0 ∨ nearV (256 * g + k) = false := by decide +kernel
theorem nr_B : ∀ g, g < 7 → 4 < g → ∀ k, k < 256 → tabS (256 * g + k) < 0 ∨ nearV (256 * g + k) = true := by decide +kernel
theorem look_all {c r : vmD} (h : Rel c r) (x : Int32) : ∃ g k, g < 7 ∧ k < 256 ∧ lead0 r x g ∧ (g = 0 → rb r x = nI k) ∧ ((tabS (256 * g + k) < 0 ∧ LkNo c r x) ∨ (¬ tabS (256 * g + k) < 0 ∧ LkYes c r x g k)) := by
  obtain ⟨g, at_, hg, hat, hl⟩ := lk_at h x
  obtain ⟨k, hk, hop⟩ := rb_oct h.2.1 at_
  refine ⟨g, k, hg, hk, ?_, ?_, ?_⟩
  · unfold lead0
    rcases hat with ⟨rfl, -, a, b, c, d⟩ | ⟨rfl, -, a⟩ | ⟨rfl, -, a⟩ | ⟨rfl, -, a, -⟩ | ⟨rfl, -, a, -⟩ | ⟨rfl, -, a, -⟩ | ⟨rfl, -, a, -⟩
    · exact ⟨fun _ => ⟨a, b, c, d⟩, fun q => absurd rfl q⟩
    all_goals exact ⟨fun q => absurd q (by decide), fun _ => by simp only [a, true_or, or_true]⟩
  · intro e
    rcases hat with ⟨-, e2, -⟩ | ⟨rfl, -⟩ | ⟨rfl, -⟩ | ⟨rfl, -⟩ | ⟨rfl, -⟩ | ⟨rfl, -⟩ | ⟨rfl, -⟩
    · rw [← hop, e2]
    all_goals cases e
  have hop' : ∀ y, at_ = y → rb r y = nI k := fun y e => e ▸ hop
  by_cases hs : tabS (256 * g + k) < 0
  · refine Or.inl ⟨hs, ⟨_, _, look_no h hg hk hl hop hs⟩, ?_⟩
    have tb : ∀ (p : Prop) [Decidable p], (decide (tabS (256 * g + k) < 0) == decide p) = true → p := by
      intro p _ e
      rw [decide_eq_true hs] at e
      exact of_decide_eq_true (by simpa using e)
    rcases hat with ⟨rfl, ha, a1, a2, a3, a4⟩ | ⟨rfl, ha, a1⟩ | ⟨rfl, ha, a1⟩ | ⟨rfl, ha, a1, a2⟩ | ⟨rfl, ha, a1, a2⟩ | ⟨rfl, ha, a1, a2⟩ | ⟨rfl, ha, a1, a2⟩
    · exfalso
      have e := ex_0 k hk
      have ho := hop' _ ha
      rw [ho] at a1 a2 a3 a4
      simp only [hs, decide_true, Bool.not_true, Bool.false_and, Bool.or_false, Bool.or_eq_true, decide_eq_true_eq] at e
      rcases e with ((rfl | rfl) | rfl) | rfl
      · exact a1 rfl
      · exact a3 rfl
      · exact a2 rfl
      · exact a4 rfl
    · have e := ex_1 k hk
      have e2 := tb _ (Bool.and_eq_true _ _ ▸ e).1
      refine ⟨1, 0, 0, nI k, x + 1, 2, fun Q => ?_⟩
      rw [dec_eq, if_pos a1, hop' _ ha, if_pos e2]
    · have e := ex_2 k hk
      have e2 := tb _ (Bool.and_eq_true _ _ ▸ e).1
      refine ⟨2, 0, 0, nI k, x + 2, (if nI k >>> ((6 : Int32) &&& 31) = 1 then (if nI k &&& 7 = 3 then 4 else 2) else 2), fun Q => ?_⟩
      rw [dec_eq, if_neg (by rw [a1]; decide), if_pos a1, hop' _ ha, e2]
    · have e := ex_3 k hk
      have ho := hop' _ ha
      have hk2 : ¬ k = 203 := by
        rintro rfl
        exact a2 ho
      simp only [hk2, hs, decide_true, decide_false, Bool.false_or, Bool.true_or, Bool.and_true, Bool.true_beq, Bool.and_eq_true, decide_eq_true_eq] at e
      refine ⟨0, 1, 0, nI k, x + 2, (1 : Int32) + MO_plainLength_v (nI k), fun Q => ?_⟩
      rw [dec_eq, if_neg (by rw [a1]; decide), if_neg (by rw [a1]; decide), if_pos a1, dec186_eq, if_neg a2, ho, if_pos e.1, e.2]
    · have e := ex_4 k hk
      have ho := hop' _ ha
      have hk2 : ¬ k = 203 := by
        rintro rfl
        exact a2 ho
      simp only [hk2, hs, decide_true, decide_false, Bool.false_or, Bool.true_or, Bool.and_true, Bool.true_beq, Bool.and_eq_true, decide_eq_true_eq] at e
      refine ⟨0, 2, 0, nI k, x + 2, (1 : Int32) + MO_plainLength_v (nI k), fun Q => ?_⟩
      rw [dec_eq, if_neg (by rw [a1]; decide), if_neg (by rw [a1]; decide), if_neg (by rw [a1]; decide), if_pos a1, dec186_eq, if_neg a2, ho, if_pos e.1, e.2]
    · have e := ex_5 k hk
      have e2 := tb _ (Bool.and_eq_true _ _ ▸ e).1
      have ho := hop' _ ha
      rw [add12] at ho
      refine ⟨1, 1, MO_signed_v (rb r (x + 2)), nI k, x + 1, 4, fun Q => ?_⟩
      rw [dec_eq, if_neg (by rw [a1]; decide), if_neg (by rw [a1]; decide), if_pos a1, dec186_eq, if_pos a2, ho, e2]
    · have e := ex_6 k hk
      have e2 := tb _ (Bool.and_eq_true _ _ ▸ e).1
      have ho := hop' _ ha
      rw [add12] at ho
      refine ⟨1, 2, MO_signed_v (rb r (x + 2)), nI k, x + 1, 4, fun Q => ?_⟩
      rw [dec_eq, if_neg (by rw [a1]; decide), if_neg (by rw [a1]; decide), if_neg (by rw [a1]; decide), if_pos a1, dec186_eq, if_pos a2, ho, e2]
  · refine Or.inr ⟨hs, behV g k at_, Int8.toInt32 (Int32.toInt8 (rb r (bif isB g then at_ - 1 else at_ + 1))), ?_⟩
    have hlk := look_yes h hg hk hl hop hs
    have tb : ∀ (p : Prop) [Decidable p], (decide (tabS (256 * g + k) < 0) == decide p) = true → ¬ p := by
      intro p _ e
      rw [decide_eq_false hs] at e
      exact of_decide_eq_false (by simpa using e)
    have tz : ∀ (b : Bool), (decide (tabS (256 * g + k) < 0) || b) = true → b = true := by
      intro b e
      rw [decide_eq_false hs] at e
      exact e
    rcases hat with ⟨rfl, ha, a1, a2, a3, a4⟩ | ⟨rfl, ha, a1⟩ | ⟨rfl, ha, a1⟩ | ⟨rfl, ha, a1, a2⟩ | ⟨rfl, ha, a1, a2⟩ | ⟨rfl, ha, a1, a2⟩ | ⟨rfl, ha, a1, a2⟩
    · have hn := (nr_0 0 (by omega) k hk).resolve_left hs
      have e := ex_0 k hk
      have ho := hop' _ ha
      have e2 : zV 0 k = MO_plainLength_v (nI k) := by
        simp only [hs, decide_false, Bool.not_false, Bool.true_and, Bool.or_eq_true, decide_eq_true_eq] at e
        rcases e with (((rfl | rfl) | rfl) | rfl) | e
        · exact absurd ho a1
        · exact absurd ho a3
        · exact absurd ho a2
        · exact absurd ho a4
        · exact e
      refine ⟨0, x + 1, hlk, fun Q => ?_, fun q => (by rw [hn] at q; cases q), fun _ => ?_, fun _ => rfl, fun _ => rfl⟩
      · rw [dec_eq, if_neg a1, if_neg a2, if_neg a3, if_neg a4, ho, e2]
        rfl
      · unfold behV
        rw [hn, ha]
        rfl
    · have hn := (nr_0 1 (by omega) k hk).resolve_left hs
      have e := ex_1 k hk
      have e2 := tb _ (Bool.and_eq_true _ _ ▸ e).1
      have e3 := of_decide_eq_true (tz _ (of_decide_eq_true (Bool.and_eq_true _ _ ▸ e).2))
      refine ⟨0, x + 1, hlk, fun Q => ?_, fun q => (by rw [hn] at q; cases q), fun q => absurd rfl q, fun q => absurd q (by decide), fun _ => rfl⟩
      rw [dec_eq, if_pos a1, hop' _ ha, if_neg e2, e3]
      rfl
    · have hn := (nr_0 2 (by omega) k hk).resolve_left hs
      have e := ex_2 k hk
      have e2 := tb _ (Bool.and_eq_true _ _ ▸ e).1
      have e3 := of_decide_eq_true (tz _ (of_decide_eq_true (Bool.and_eq_true _ _ ▸ e).2))
      have e4 : MO_isBehind237_v (nI k) = 1 := by
        have hb : MO_isBehind237_v (nI k) = 0 ∨ MO_isBehind237_v (nI k) = 1 := by
          unfold MO_isBehind237_v
          dsimp only
          repeat' (first | exact Or.inl rfl | exact Or.inr rfl | apply b01)
        exact hb.resolve_left e2
      refine ⟨0, x + 2, hlk, fun Q => ?_, fun q => (by rw [hn] at q; cases q), fun _ => ?_, fun q => absurd q (by decide), fun _ => rfl⟩
      · rw [dec_eq, if_neg (by rw [a1]; decide), if_pos a1, hop' _ ha, e4, e3]
        rfl
      · unfold behV
        rw [hn, ha]
        exact add11 x
    · have e := ex_3 k hk
      have ho := hop' _ ha
      have hk2 : ¬ k = 203 := by
        rintro rfl
        exact a2 ho
      simp only [hk2, hs, decide_false, Bool.false_or, Bool.and_eq_true, decide_eq_true_eq] at e
      obtain ⟨e1, e2, e3⟩ := e
      by_cases hp : MO_hasPlace_v (nI k) = 0
      · simp only [hp, decide_true, Bool.not_true, Bool.true_and, if_true] at e1 e2 e3
        have e4 : MO_hasHL_v (nI k) = 1 := (hl_b _).resolve_left (by
          intro q
          rw [q] at e1
          simp at e1)
        have hn : nearV (256 * 3 + k) = false := by simpa using e3
        refine ⟨0, x + 2, hlk, fun Q => ?_, fun q => (by rw [hn] at q; cases q), fun _ => ?_, fun q => absurd q (by decide), fun _ => rfl⟩
        · rw [dec_eq, if_neg (by rw [a1]; decide), if_neg (by rw [a1]; decide), if_pos a1, dec186_eq, if_neg a2, ho, if_pos hp, e4, e2]
          rfl
        · unfold behV
          rw [hn, ha]
          exact add11 x
      · simp only [hp, decide_false, Bool.not_false, Bool.false_and, if_false] at e1 e2 e3
        have hn : nearV (256 * 3 + k) = true := by simpa using e3
        have ob : oct (rb r (x + 2)) := rb_oct h.2.1 _
        refine ⟨MO_signed_v (rb r (x + 2)), x + 3, hlk, fun Q => ?_, fun _ => ?_, fun _ => ?_, fun q => absurd q (by decide), fun q => (by rw [hn] at q; cases q)⟩
        · rw [dec_eq, if_neg (by rw [a1]; decide), if_neg (by rw [a1]; decide), if_pos a1, dec186_eq, if_neg a2, ho, if_neg hp, e2]
          rfl
        · have e5 : (bif isB 3 then at_ - 1 else at_ + 1) = x + 2 := by
            rw [ha]
            exact add11 x
          rw [e5]
          exact ⟨(sgn_o ob).symm, ob, rfl⟩
        · unfold behV
          rw [hn, ha]
          exact add111 x
    · have e := ex_4 k hk
      have ho := hop' _ ha
      have hk2 : ¬ k = 203 := by
        rintro rfl
        exact a2 ho
      simp only [hk2, hs, decide_false, Bool.false_or, Bool.and_eq_true, decide_eq_true_eq] at e
      obtain ⟨e1, e2, e3⟩ := e
      by_cases hp : MO_hasPlace_v (nI k) = 0
      · simp only [hp, decide_true, Bool.not_true, Bool.true_and, if_true] at e1 e2 e3
        have e4 : MO_hasHL_v (nI k) = 1 := (hl_b _).resolve_left (by
          intro q
          rw [q] at e1
          simp at e1)
        have hn : nearV (256 * 4 + k) = false := by simpa using e3
        refine ⟨0, x + 2, hlk, fun Q => ?_, fun q => (by rw [hn] at q; cases q), fun _ => ?_, fun q => absurd q (by decide), fun _ => rfl⟩
        · rw [dec_eq, if_neg (by rw [a1]; decide), if_neg (by rw [a1]; decide), if_neg (by rw [a1]; decide), if_pos a1, dec186_eq, if_neg a2, ho, if_pos hp, e4, e2]
          rfl
        · unfold behV
          rw [hn, ha]
          exact add11 x
      · simp only [hp, decide_false, Bool.not_false, Bool.false_and, if_false] at e1 e2 e3
        have hn : nearV (256 * 4 + k) = true := by simpa using e3
        have ob : oct (rb r (x + 2)) := rb_oct h.2.1 _
        refine ⟨MO_signed_v (rb r (x + 2)), x + 3, hlk, fun Q => ?_, fun _ => ?_, fun _ => ?_, fun q => absurd q (by decide), fun q => (by rw [hn] at q; cases q)⟩
        · rw [dec_eq, if_neg (by rw [a1]; decide), if_neg (by rw [a1]; decide), if_neg (by rw [a1]; decide), if_pos a1, dec186_eq, if_neg a2, ho, if_neg hp, e2]
          rfl
        · have e5 : (bif isB 4 then at_ - 1 else at_ + 1) = x + 2 := by
            rw [ha]
            exact add11 x
          rw [e5]
          exact ⟨(sgn_o ob).symm, ob, rfl⟩
        · unfold behV
          rw [hn, ha]
          exact add111 x
    · have e := ex_5 k hk
      have ho := hop' _ ha
      rw [add12] at ho
      have e2 := tb _ (Bool.and_eq_true _ _ ▸ e).1
      have e3 := of_decide_eq_true (tz _ (of_decide_eq_true (Bool.and_eq_true _ _ ▸ e).2))
      have e4 : (if nI k &&& 7 = 6 then (if nI k >>> ((3 : Int32) &&& 31) = 6 then (0 : Int32) else 1) else 0) = 1 := by
        have hb : (if nI k &&& 7 = 6 then (if nI k >>> ((3 : Int32) &&& 31) = 6 then (0 : Int32) else 1) else 0) = 0 ∨ (if nI k &&& 7 = 6 then (if nI k >>> ((3 : Int32) &&& 31) = 6 then (0 : Int32) else 1) else 0) = 1 := by
          repeat' (first | exact Or.inl rfl | exact Or.inr rfl | apply b01)
        exact hb.resolve_left e2
      have ob : oct (rb r (x + 2)) := rb_oct h.2.1 _
      have hn := (nr_B 5 (by omega) (by omega) k hk).resolve_left hs
      refine ⟨MO_signed_v (rb r (x + 2)), x + 1, hlk, fun Q => ?_, fun _ => ?_, fun q => absurd rfl q, fun q => absurd q (by decide), fun q => (by rw [hn] at q; cases q)⟩
      · rw [dec_eq, if_neg (by rw [a1]; decide), if_neg (by rw [a1]; decide), if_pos a1, dec186_eq, if_pos a2, ho, e4, e3]
        rfl
      · have e5 : (bif isB 5 then at_ - 1 else at_ + 1) = x + 2 := by
          rw [ha]
          exact add121 x
        rw [e5]
        exact ⟨(sgn_o ob).symm, ob, rfl⟩
    · have e := ex_6 k hk
      have ho := hop' _ ha
      rw [add12] at ho
      have e2 := tb _ (Bool.and_eq_true _ _ ▸ e).1
      have e3 := of_decide_eq_true (tz _ (of_decide_eq_true (Bool.and_eq_true _ _ ▸ e).2))
      have e4 : (if nI k &&& 7 = 6 then (if nI k >>> ((3 : Int32) &&& 31) = 6 then (0 : Int32) else 1) else 0) = 1 := by
        have hb : (if nI k &&& 7 = 6 then (if nI k >>> ((3 : Int32) &&& 31) = 6 then (0 : Int32) else 1) else 0) = 0 ∨ (if nI k &&& 7 = 6 then (if nI k >>> ((3 : Int32) &&& 31) = 6 then (0 : Int32) else 1) else 0) = 1 := by
          repeat' (first | exact Or.inl rfl | exact Or.inr rfl | apply b01)
        exact hb.resolve_left e2
      have ob : oct (rb r (x + 2)) := rb_oct h.2.1 _
      have hn := (nr_B 6 (by omega) (by omega) k hk).resolve_left hs
      refine ⟨MO_signed_v (rb r (x + 2)), x + 1, hlk, fun Q => ?_, fun _ => ?_, fun q => absurd rfl q, fun q => absurd q (by decide), fun q => (by rw [hn] at q; cases q)⟩
      · rw [dec_eq, if_neg (by rw [a1]; decide), if_neg (by rw [a1]; decide), if_neg (by rw [a1]; decide), if_pos a1, dec186_eq, if_pos a2, ho, e4, e3]
        rfl
      · have e5 : (bif isB 6 then at_ - 1 else at_ + 1) = x + 2 := by
          rw [ha]
          exact add121 x
        rw [e5]
        exact ⟨(sgn_o ob).symm, ob, rfl⟩
