/-! Operands: the class reads one -/
def nmI (T : List Tk) (t : Nat) : Nat := if (tk T t).1 = 2 then idN (tk T t).2.2.2 else 0
def pOf (i : Nat) : Nat := if i = 2 then 29 else if i = 9 then 26 else if i = 10 then 27 else if i = 11 then 7 else if i = 12 then 28 else if i = 15 then 30 else if i = 16 then 31 else 0
def nearS (T : List Tk) (t : Nat) : Bool := (decide (nmI T (t + 1) = 15) || decide (nmI T (t + 1) = 16)) && (decide ((tk T (t + 2)).1 = 43) || decide ((tk T (t + 2)).1 = 45))
def alonS (T : List Tk) (t : Nat) : Bool := decide (0 < nmI T t) && (decide (nmI T t ≤ 25) && ends T (t + 1))
def atS (T : List Tk) (t l : Nat) : Bool := decide (l = t + 2) && decide (0 < pOf (nmI T (t + 1)))
/-- an operand's kind -/
def oKd (T : List Tk) (t : Nat) : Nat := match clo T t with
  | none => if alonS T t = true then nmI T t else 34
  | some l => if atS T t l = true then pOf (nmI T (t + 1)) else if nearS T t = true then (if nmI T (t + 1) = 15 then 32 else 33) else 35
/-- where its exp begins -/
def oFr (T : List Tk) (t : Nat) : Option Nat := match clo T t with
  | none => if alonS T t = true then none else some t
  | some l => if atS T t l = true then none else if nearS T t = true then some (t + 3) else some (t + 1)
def oNg (T : List Tk) (t : Nat) : Bool := match clo T t with
  | none => false
  | some l => !(atS T t l) && (nearS T t && decide ((tk T (t + 2)).1 = 45))
theorem nmI_lt (T : List Tk) (t : Nat) : nmI T t < 107 := by
  unfold nmI
  split
  · exact idN_lt _
  · omega
theorem placeOfC {i : Nat} (hi : i < 107) (c : vmD) (Q : Int32 → vmD → Prop) : Operands_placeOf (nI i) c Q = Q (nI (pOf i)) c := by
  have h : ∀ i, i < 107 → (if nI i = 2 then (29 : Int32) else if nI i = 9 then 26 else if nI i = 10 then 27 else if nI i = 11 then 7 else if nI i = 12 then 28 else if nI i = 15 then 30 else if nI i = 16 then 31 else 0) = nI (pOf i) := by decide +kernel
  have hq : ∀ (p : Prop) [Decidable p] (a b : Int32), Q (if p then a else b) c = if p then Q a c else Q b c := by
    intro p _ a b
    split <;> rfl
  rw [← h i hi]
  simp only [Operands_placeOf, hq]
theorem pOf_lt (i : Nat) : pOf i < 32 := by
  unfold pOf
  repeat' split
  all_goals omega
abbrev OCF : List (Nat × Nat) := [(33, 7)]
/-- classify -/
theorem clsfC {B : Nat → Nat} {n : Nat} {c : vmD} {T : List Tk} {N : Nt} {ln : Nat} (hLn : LnC B n c T N ln) {t i : Nat} (ht : t < T.length) (hi : i < 2) (h8 : gF c 33 8 = nI i) : ∃ c', (∀ Q : Int32 → vmD → Prop, Q (oI (oFr T t)) c' → Operands_classify (nI t) (oI (clo T t)) c Q) ∧ gA c' 34 i = nI (oKd T t) ∧ (∀ j, ¬ j = i → gA c' 34 j = gA c 34 j) ∧ gF c' 33 7 = kb (oNg T t) ∧ ModC OCF [34] [] c c' := by
  obtain ⟨h0, h1, h2, h3, h4, h5, h6⟩ := hLn
  have hl := h1.2.1
  have p12 : (38 : Nat) ^ 12 < 2 ^ 63 := by decide
  have e28 : ∀ (x2 : Int32) (p : Nat), p < T.length → ∀ Q : Int32 → vmD → Prop, Operands_classify_60 x2 (nI p) (nI (nmI T p)) c Q → Operands_classify_28 x2 (nI p) c Q := by
    intro x2 p hp Q hQ
    have c2 : nI (tk T p).1 = 2 ↔ (tk T p).1 = 2 := nI_eq (b := 2) (by have := tk_kd h1 p; omega) (by omega)
    unfold Operands_classify_28
    rw [kindC h2 (by omega)]
    unfold nmI at hQ
    by_cases z : (tk T p).1 = 2
    · rw [if_pos z] at hQ
      obtain ⟨hg, -⟩ := (h1.2.2 p hp).2.2.2.2.2.2.2.2 z
      have hK := hg.2.1
      rw [if_pos (c2.mpr z), valueC h2 (by omega)]
      exact idOfC h4 (by omega) _ hQ
    · rw [if_neg z] at hQ
      rw [if_neg (fun w => z (c2.mp w))]
      exact hQ
  have st : ∀ Q : Int32 → vmD → Prop, (if oI (clo T t) < 0 then (Operands_classify_28 (oI (clo T t)) (nI t) c Q) else (Operands_classify_28 (oI (clo T t)) (nI (t + 1)) c Q)) → Operands_classify (nI t) (oI (clo T t)) c Q := by
    intro Q hQ
    unfold Operands_classify
    rw [h8, if_neg (nI_pos (by omega)), if_pos (show nI i < 2 from nI_lt (b := 2) hi (by omega)), nI_p1]
    exact hQ
  obtain ⟨c1, hc1⟩ : ∃ c1 : vmD, c1 = sF c 33 7 0 := ⟨_, rfl⟩
  have h81 : gF c1 33 8 = nI i := by rw [hc1, gF_sF, u1f_ne _ _ (by decide), h8]
  have T1 : TkC c1 T := by rw [hc1]; exact h2
  have M1 : ModC OCF [34] [] c c1 := by rw [hc1]; exact (ModC.refl OCF [34] [] c).sF (by decide) _
  have A1 : gA c1 = gA c := by rw [hc1]; rfl
  have e60 : ∀ (x2 : Int32) (p : Nat), p < T.length → ∀ (x : Int32) (Q : Int32 → vmD → Prop), (if x2 < 0 then (if (0 : Int32) < x then (if (25 : Int32) < x then (Operands_classify_112 (nI p) x c1 Q) else (if kb (ends T (p + 1)) = 0 then (Operands_classify_112 (nI p) x c1 Q) else (Operands_classify_113 (nI p) x 1 c1 Q))) else (Operands_classify_112 (nI p) x c1 Q)) else (if x2 = nI (p + 1) then (Operands_placeOf x c1 fun r_26 d_25 => if (0 : Int32) < r_26 then (Operands_placeOf x d_25 fun r_29 d_28 => ixOk (gF d_25 33 8) 2 ∧ bnd (sA d_28 34 (gF d_25 33 8).toNatClampNeg r_29) fun d_31 => Q (-1) d_31) else (Operands_classify_178 (nI p) x (nI (tk T (p + 1)).1) d_25 Q)) else (Operands_classify_178 (nI p) x (nI (tk T (p + 1)).1) c1 Q))) → Operands_classify_60 x2 (nI p) x c Q := by
    intro x2 p hp x Q hQ
    unfold Operands_classify_60
    rw [nI_p1, kindC h2 (by omega)]
    refine bnd_iff.mpr ?_
    rw [← hc1]
    have : ∀ Q : Int32 → vmD → Prop, Tokens_endsOperand (nI (p + 1)) c1 Q = Q (kb (ends T (p + 1))) c1 := fun Q => endsC T1 (by omega) (tk_kd h1 _) Q
    rw [this]
    exact hQ
  -- a kind is laid down
  have lay : ∀ k : Nat, gA (sA c1 34 i (nI k)) 34 i = nI k ∧ (∀ j, ¬ j = i → gA (sA c1 34 i (nI k)) 34 j = gA c 34 j) ∧ gF (sA c1 34 i (nI k)) 33 7 = 0 ∧ ModC OCF [34] [] c (sA c1 34 i (nI k)) := by
    intro k
    refine ⟨by rw [gA_sA, u1f_eq], fun j hj => by rw [gA_sA, u1f_ne _ _ hj, A1], ?_, M1.sA (by decide) _ _⟩
    rw [gF_sA, hc1, gF_sF, u1f_eq]
  have hix : ixOk (nI i) 2 := nI_in (by omega) (by omega)
  have hic : (nI i).toNatClampNeg = i := nI_clamp (by omega)
  unfold oKd oFr oNg
  cases hc : clo T t with
  | none =>
    rw [hc] at st
    have st : ∀ Q : Int32 → vmD → Prop, Operands_classify_28 (oI none) (nI t) c Q → Operands_classify (nI t) (oI none) c Q := fun Q hQ => st Q (by rw [if_pos (by decide)]; exact hQ)
    dsimp only
    have hn := nmI_lt T t
    have b0 : (0 : Int32) < nI (nmI T t) ↔ 0 < nmI T t := nI_ltI (a := 0) (by omega) (by omega)
    have b25 : (25 : Int32) < nI (nmI T t) ↔ 25 < nmI T t := nI_ltI (a := 25) (by omega) (by omega)
    by_cases z : alonS T t = true
    · simp only [z, if_true]
      have z' := z
      unfold alonS at z'
      rw [Bool.and_eq_true, Bool.and_eq_true, decide_eq_true_eq, decide_eq_true_eq] at z'
      obtain ⟨l1, l2, l3, l4⟩ := lay (nmI T t)
      refine ⟨_, fun Q hQ => st Q (e28 _ t ht Q (e60 _ t ht _ Q ?_)), l1, l2, l3, l4⟩
      rw [if_pos (by decide), if_pos (b0.mpr z'.1), if_neg (fun w => by have := b25.mp w; omega), z'.2.2, if_neg (by decide)]
      unfold Operands_classify_113 Operands_classify_135
      rw [if_neg (by decide), h81, hic]
      refine ⟨hix, bnd_iff.mpr ?_⟩
      rw [if_neg (by decide)]
      exact hQ
    · have zf : alonS T t = false := by rw [← Bool.not_eq_true]; exact z
      simp only [zf, Bool.false_eq_true, if_false]
      obtain ⟨l1, l2, l3, l4⟩ := lay 34
      refine ⟨_, fun Q hQ => st Q (e28 _ t ht Q (e60 _ t ht _ Q ?_)), l1, l2, l3, l4⟩
      have fin : Operands_classify_112 (nI t) (nI (nmI T t)) c1 Q := by
        unfold Operands_classify_112 Operands_classify_113 Operands_classify_135
        rw [if_pos rfl, h81, hic]
        refine ⟨hix, bnd_iff.mpr ?_⟩
        rw [if_pos rfl]
        exact hQ
      rw [if_pos (by decide)]
      by_cases z1 : 0 < nmI T t
      · rw [if_pos (b0.mpr z1)]
        by_cases z2 : 25 < nmI T t
        · rw [if_pos (b25.mpr z2)]
          exact fin
        · rw [if_neg (fun w => z2 (b25.mp w))]
          by_cases z3 : ends T (t + 1) = true
          · exact absurd (by unfold alonS; rw [decide_eq_true z1, decide_eq_true (show nmI T t ≤ 25 by omega), z3]; rfl) z
          · rw [if_pos ((kb_0 _).mpr z3)]
            exact fin
      · rw [if_neg (fun w => z1 (b0.mp w))]
        exact fin
  | some l =>
    have hcl : cl T 1 (t + 1) = some l := by
      unfold clo at hc
      split at hc
      · exact hc
      · cases hc
    obtain ⟨s1, s2, s3, s4⟩ := cl_some h1 _ 1 (t + 1) (by omega : T.length ≤ t + 1 + T.length) (by omega) hcl
    rw [hc] at st
    have st : ∀ Q : Int32 → vmD → Prop, Operands_classify_28 (nI l) (nI (t + 1)) c Q → Operands_classify (nI t) (nI l) c Q := fun Q hQ => st Q (by rw [if_neg (show ¬ oI (some l) < 0 from nI_pos (show l < 2 ^ 31 by omega))]; exact hQ)
    dsimp only
    have hn := nmI_lt T (t + 1)
    have hpl := pOf_lt (nmI T (t + 1))
    have hk2 := tk_kd h1 (t + 2)
    have bl : nI l = nI (t + 1 + 1) ↔ l = t + 2 := nI_eq (by omega) (by omega)
    have bp : (0 : Int32) < nI (pOf (nmI T (t + 1))) ↔ 0 < pOf (nmI T (t + 1)) := nI_ltI (a := 0) (by omega) (by omega)
    have b15 : nI (nmI T (t + 1)) = 15 ↔ nmI T (t + 1) = 15 := nI_eq (b := 15) (by omega) (by omega)
    have b16 : nI (nmI T (t + 1)) = 16 ↔ nmI T (t + 1) = 16 := nI_eq (b := 16) (by omega) (by omega)
    have b43 : nI (tk T (t + 2)).1 = 43 ↔ (tk T (t + 2)).1 = 43 := nI_eq (b := 43) (by omega) (by omega)
    have b45 : nI (tk T (t + 2)).1 = 45 ↔ (tk T (t + 2)).1 = 45 := nI_eq (b := 45) (by omega) (by omega)
    have go : ∀ Q : Int32 → vmD → Prop, (if atS T t l = true then Q (-1) (sA c1 34 i (nI (pOf (nmI T (t + 1))))) else Operands_classify_178 (nI (t + 1)) (nI (nmI T (t + 1))) (nI (tk T (t + 2)).1) c1 Q) → Operands_classify (nI t) (nI l) c Q := by
      intro Q hQ
      refine st Q (e28 _ (t + 1) (by omega) Q (e60 _ (t + 1) (by omega) _ Q ?_))
      rw [if_neg (nI_pos (by omega))]
      by_cases z1 : l = t + 2
      · rw [if_pos (bl.mpr z1), placeOfC hn]
        try dsimp only
        by_cases z2 : 0 < pOf (nmI T (t + 1))
        · have z : atS T t l = true := by
            unfold atS
            rw [decide_eq_true z1, decide_eq_true z2]
            rfl
          rw [if_pos z] at hQ
          rw [if_pos (bp.mpr z2), placeOfC hn, h81, hic]
          exact ⟨hix, bnd_iff.mpr hQ⟩
        · have z : ¬ atS T t l = true := by
            unfold atS
            rw [decide_eq_false z2, Bool.and_false]
            exact Bool.false_ne_true
          rw [if_neg z] at hQ
          rw [if_neg (fun w => z2 (bp.mp w))]
          exact hQ
      · have z : ¬ atS T t l = true := by
          unfold atS
          rw [decide_eq_false z1, Bool.false_and]
          exact Bool.false_ne_true
        rw [if_neg z] at hQ
        rw [if_neg (fun w => z1 (bl.mp w))]
        exact hQ
    by_cases z : atS T t l = true
    · simp only [z, if_true, Bool.not_true, Bool.false_and]
      obtain ⟨l1, l2, l3, l4⟩ := lay (pOf (nmI T (t + 1)))
      refine ⟨_, fun Q hQ => go Q ?_, l1, l2, l3, l4⟩
      rw [if_pos z]
      exact hQ
    · have zf : atS T t l = false := by rw [← Bool.not_eq_true]; exact z
      simp only [zf, Bool.false_eq_true, if_false, Bool.not_false, Bool.true_and]
      have e249 : ∀ Q : Int32 → vmD → Prop, Q (nI (t + 1)) (sA c1 34 i (nI 35)) → Operands_classify_249 (nI (t + 1)) c1 Q := by
        intro Q hQ
        unfold Operands_classify_249
        rw [h81, hic]
        exact ⟨hix, bnd_iff.mpr hQ⟩
      by_cases w : nearS T t = true
      · simp only [w, if_true, Bool.true_and]
        have w' := w
        unfold nearS at w'
        rw [Bool.and_eq_true, Bool.or_eq_true, Bool.or_eq_true, decide_eq_true_eq, decide_eq_true_eq, decide_eq_true_eq, decide_eq_true_eq] at w'
        obtain ⟨l1, l2, l3, l4⟩ := lay (if nmI T (t + 1) = 15 then 32 else 33)
        refine ⟨sF (sA c1 34 i (nI (if nmI T (t + 1) = 15 then 32 else 33))) 33 7 (kb (decide ((tk T (t + 2)).1 = 45))), fun Q hQ => go Q ?_, l1, l2, by rw [gF_sF, u1f_eq], l4.sF (by decide) _⟩
        rw [if_neg z]
        have e3 : nI (t + 1) + 2 = nI (t + 3) := by
          rw [nI_p2]
        have hQ : Q (nI (t + 3)) (sF (sA c1 34 i (nI (if nmI T (t + 1) = 15 then 32 else 33))) 33 7 (kb (decide ((tk T (t + 2)).1 = 45)))) := hQ
        have e206 : Operands_classify_206 (nI (t + 1)) (nI (nmI T (t + 1))) (nI (tk T (t + 2)).1) c1 Q := by
          have e228 : Operands_classify_228 (nI (t + 1)) (nI (tk T (t + 2)).1) (nI (if nmI T (t + 1) = 15 then 32 else 33)) (gF c1 33 8) c1 Q := by
            unfold Operands_classify_228 Operands_classify_242
            rw [h81, hic]
            refine ⟨hix, bnd_iff.mpr ?_⟩
            rw [e3]
            by_cases y : (tk T (t + 2)).1 = 45
            · rw [decide_eq_true y] at hQ
              rw [if_pos (b45.mpr y)]
              exact ⟨Or.inr rfl, bnd_iff.mpr hQ⟩
            · rw [decide_eq_false y] at hQ
              rw [if_neg (fun q => y (b45.mp q))]
              exact ⟨Or.inl rfl, bnd_iff.mpr hQ⟩
          unfold Operands_classify_206
          by_cases y : nmI T (t + 1) = 15
          · rw [if_pos y] at e228
            rw [if_pos (b15.mpr y)]
            exact e228
          · rw [if_neg y] at e228
            rw [if_neg (fun q => y (b15.mp q))]
            exact e228
        have e192 : Operands_classify_192 (nI (t + 1)) (nI (nmI T (t + 1))) (nI (tk T (t + 2)).1) c1 Q := by
          unfold Operands_classify_192
          by_cases y : (tk T (t + 2)).1 = 43
          · rw [if_pos (b43.mpr y)]
            exact e206
          · rw [if_neg (fun q => y (b43.mp q)), if_pos (b45.mpr (by omega))]
            exact e206
        unfold Operands_classify_178
        by_cases y : nmI T (t + 1) = 15
        · rw [if_pos (b15.mpr y)]
          exact e192
        · rw [if_neg (fun q => y (b15.mp q)), if_pos (b16.mpr (by omega))]
          exact e192
      · have wf : nearS T t = false := by rw [← Bool.not_eq_true]; exact w
        simp only [wf, Bool.false_eq_true, if_false, Bool.false_and]
        obtain ⟨l1, l2, l3, l4⟩ := lay 35
        refine ⟨_, fun Q hQ => go Q ?_, l1, l2, l3, l4⟩
        rw [if_neg z]
        have e192 : (nmI T (t + 1) = 15 ∨ nmI T (t + 1) = 16) → Operands_classify_192 (nI (t + 1)) (nI (nmI T (t + 1))) (nI (tk T (t + 2)).1) c1 Q := by
          intro y
          unfold Operands_classify_192
          have n43 : ¬ ((tk T (t + 2)).1 = 43 ∨ (tk T (t + 2)).1 = 45) := fun q => by
            refine w ?_
            unfold nearS
            rw [Bool.and_eq_true, Bool.or_eq_true, Bool.or_eq_true, decide_eq_true_eq, decide_eq_true_eq, decide_eq_true_eq, decide_eq_true_eq]
            exact ⟨y, q⟩
          rw [if_neg (fun q => n43 (Or.inl (b43.mp q))), if_neg (fun q => n43 (Or.inr (b45.mp q)))]
          exact e249 Q hQ
        unfold Operands_classify_178
        by_cases y : nmI T (t + 1) = 15
        · rw [if_pos (b15.mpr y)]
          exact e192 (Or.inl y)
        · rw [if_neg (fun q => y (b15.mp q))]
          by_cases y2 : nmI T (t + 1) = 16
          · rw [if_pos (b16.mpr y2)]
            exact e192 (Or.inr y2)
          · rw [if_neg (fun q => y2 (b16.mp q))]
            exact e249 Q hQ
