/-! The class reads a statement's operands -/
theorem oNx_lt {B : Nat → Nat} {n : Nat} {T : List Tk} (hL : Lx B n T) {N : Nt} {here : Int32} {t : Nat} (ht : t < T.length) : oNx T N here t < T.length := by
  unfold oNx
  cases hc : clo T t with
  | some l =>
    obtain ⟨-, -, -, -, -, s5⟩ := clo_some hL ht hc
    exact s5
  | none =>
    dsimp only
    cases hf : oFr T t with
    | some q =>
      obtain ⟨hq, -, -⟩ := oFr_in hL ht hf
      exact exprLt hL hq
    | none =>
      dsimp only
      unfold oFr at hf
      rw [hc] at hf
      dsimp only at hf
      split at hf
      · rename_i al
        unfold alonS at al
        rw [Bool.and_eq_true, decide_eq_true_eq] at al
        have h2 : (tk T t).1 = 2 := by
          by_cases z : (tk T t).1 = 2
          · exact z
          · have := al.1
            unfold nmI at this
            rw [if_neg z] at this
            omega
        exact more hL ht (by omega)
      · cases hf
/-- what is done with a statement's operands -/
def instP (x1 : Int32) (x2 : Int32) (d : vmD) (Q : vmD → Prop) : Prop := Operands_kind 0 x2 d fun r_12 d_11 =>
  Operands_kind 1 x2 d_11 fun r_14 d_13 =>
  Shapes_find x2 r_12 r_14 d_13 fun r_16 d_15 =>
  if r_16 < 0 then
  (Tokens_blame x1 6 d_15 fun d_18 =>
  Q d_18)
  else
  (Shapes_size r_16 d_15 fun r_20 d_19 =>
  if (gF d_19 20 9) = 2 then
  (Forger_checkOperands r_16 r_20 d_19 fun d_22 =>
  Forger_instruction_221 x1 r_20 d_22 Q)
  else
  (if (gF d_19 20 9) = 3 then
  (Forger_putInstruction r_16 r_20 d_19 fun d_25 =>
  Forger_instruction_221 x1 r_20 d_25 Q)
  else
  (Forger_instruction_221 x1 r_20 d_19 Q)))
theorem e118C {B : Nat → Nat} {n : Nat} {c : vmD} {T : List Tk} {N : Nt} {ln : Nat} {f : Fl} (hLn : LnC B n c T N ln) (hF : FltC c f) {x : Nat} (hx : x < 2 ^ 31) (x1 x2 : Int32) : ∃ c', (∀ Q : vmD → Prop, (if (tk T x).1 = 0 then instP x1 x2 c' Q else Q c') → Forger_instruction_118 x1 x2 (nI x) c Q) ∧ FltC c' (if (tk T x).1 = 0 then f else addF f ln (tk T x).2.1 (rfc T x)) ∧ ModC FF [] [] c c' := by
  obtain ⟨c', E, F, M⟩ := endsLineC hLn hF hx
  refine ⟨c', fun Q hQ => ?_, F, M⟩
  unfold Forger_instruction_118
  rw [if_neg (nI_pos hx)]
  refine E _ ?_
  by_cases z : (tk T x).1 = 0
  · rw [if_pos z] at hQ
    rw [decide_eq_true z, if_neg (by decide)]
    exact hQ
  · rw [if_neg z] at hQ
    rw [decide_eq_false z, if_pos (by decide)]
    exact hQ
theorem opsC {B : Nat → Nat} {n : Nat} {c : vmD} {T : List Tk} {N : Nt} {ln : Nat} {here : Int32} {rep : Bool} {f : Fl} (hLn : LnC B n c T N ln) (hF : FltC c f) {w : Nat} (x2 : Int32) (hw : w + 1 < T.length) (hrep : rep = decide (gF c 20 9 = 2)) (hhere : gF c 20 11 = here) : ∃ c', (∀ Q : vmD → Prop, (if lsOk T N here (w + 1) = true then instP (nI w) x2 c' Q else Q c') → Forger_instruction (nI w) x2 c Q) ∧ FltC c' (lsFl T N here (w + 1) ln rep f) ∧ (lsOk T N here (w + 1) = true → gF c' 33 8 = nI (lsN T N here (w + 1)) ∧ (∀ i, i < lsN T N here (w + 1) → OPC c' i T N here (lsT T N here (w + 1) i)) ∧ (∀ i, lsN T N here (w + 1) ≤ i → i < 2 → OP0 c' i)) ∧ ModC OXF OXA [] c c' := by
  have hL := hLn.2.1
  have hl := hL.2.1
  obtain ⟨c0, E0, z8, p0, p1, M0⟩ := beginC c
  have hLn0 : LnC B n c0 T N ln := hLn.mod M0 (by decide) (by decide) (by decide)
  have hF0 : FltC c0 f := hF.mod M0 (by decide) (by decide) (by decide)
  have M0' : ModC OXF OXA [] c c0 := M0.mono (by decide) (by decide) (by decide)
  have keepF : ∀ {a b : vmD}, ModC FF [] [] a b → ∀ o, gA b o = gA a o := fun h o => h.2.1 o (by intro z; cases z)
  have k0 : nI (tk T (w + 1)).1 = 0 ↔ (tk T (w + 1)).1 = 0 := nI_eq (b := 0) (by have := tk_kd hL (w + 1); omega) (by omega)
  -- one operand
  have e65 : ∀ (d : vmD) (b32 : Int32 → Int32 → Int32 → Int32 → Int32 → vmD → Prop) (x5 : Int32) (s2 : Int32) (Q : vmD → Prop), ModC OXF OXA [] c d → Forger_instruction_65 b32 (nI w) x2 x5 (kb rep) here s2 d Q → (if (gF d 20 9) = 2 then (Forger_instruction_65 b32 (nI w) x2 x5 1 (gF d 20 11) s2 d Q) else (Forger_instruction_65 b32 (nI w) x2 x5 0 (gF d 20 11) s2 d Q)) := by
    intro d b32 x5 s2 Q M h
    rw [M.1 20 9 (by decide), M.1 20 11 (by decide), hhere]
    rw [hrep] at h
    by_cases z : gF c 20 9 = 2
    · rw [decide_eq_true z] at h
      rw [if_pos z]
      exact h
    · rw [decide_eq_false z] at h
      rw [if_neg z]
      exact h
  have st : ∀ (m : Nat) (Q : vmD → Prop), (if (tk T (w + 1)).1 = 0 then Forger_instruction_118 (nI w) x2 (nI (w + 1)) c0 Q else Forger_instruction_65 (Forger_instruction_32 Q m) (nI w) x2 1 (kb rep) here (nI (w + 1)) c0 Q) → Forger_instruction (nI w) x2 c Q := by
    intro m Q hQ
    unfold Forger_instruction
    refine E0 _ (bnd_iff.mpr ?_)
    rw [nI_p1, kindC hLn0.2.2.1 (by omega)]
    by_cases z : (tk T (w + 1)).1 = 0
    · rw [if_pos z] at hQ
      rw [if_pos (k0.mpr z)]
      refine ⟨1, ?_⟩
      unfold Forger_instruction_32
      rw [if_pos rfl]
      exact hQ
    · rw [if_neg z] at hQ
      rw [if_neg (fun q => z (k0.mp q))]
      refine ⟨m + 1, ?_⟩
      unfold Forger_instruction_32
      rw [if_neg (by decide), if_neg (by decide)]
      exact e65 _ _ _ _ _ M0' hQ
  -- stopping, and going on
  have stop : ∀ (m : Nat) (x5 x : Int32) (d : vmD) (Q : vmD → Prop), Forger_instruction_118 (nI w) x2 x d Q → Forger_instruction_96 (Forger_instruction_32 Q (m + 1)) (nI w) x2 x x5 d Q := by
    intro m x5 x d Q h
    unfold Forger_instruction_96 Forger_instruction_97
    rw [if_pos rfl]
    unfold Forger_instruction_110
    refine bnd_iff.mpr (bnd_iff.mpr ?_)
    rw [Int32.add_zero]
    unfold Forger_instruction_32
    rw [if_pos rfl]
    exact h
  have gone : ∀ (d : vmD) (Q : vmD → Prop), Q d → Forger_instruction_118 (nI w) x2 (-1) d Q := by
    intro d Q h
    unfold Forger_instruction_118
    rw [if_pos (by decide)]
    exact h
  unfold lsOk lsFl lsG lsN lsT lsX
  by_cases kz : (tk T (w + 1)).1 = 0
  · simp only [if_pos kz, decide_eq_true kz, if_true]
    obtain ⟨c1, E1, F1, M1⟩ := e118C hLn0 hF0 (x := w + 1) (by omega) (nI w) x2
    rw [if_pos kz] at F1
    refine ⟨c1, fun Q hQ => st 0 Q ?_, F1, fun _ => ⟨(M1.1 33 8 (by decide)).trans z8, fun i hi => absurd hi (Nat.not_lt_zero _), fun i _ hi => ?_⟩, M0'.trans (M1.mono (by decide) (by decide) (by decide))⟩
    · rw [if_pos kz]
      refine E1 Q ?_
      rw [if_pos kz]
      exact hQ
    · have : i = 0 ∨ i = 1 := by omega
      rcases this with rfl | rfl
      · exact p0.eq (fun o _ => by rw [keepF M1])
      · exact p1.eq (fun o _ => by rw [keepF M1])
  · simp only [if_neg kz]
    have st : ∀ (m : Nat) (Q : vmD → Prop), Forger_instruction_65 (Forger_instruction_32 Q m) (nI w) x2 1 (kb rep) here (nI (w + 1)) c0 Q → Forger_instruction (nI w) x2 c Q := fun m Q hQ => st m Q (by rw [if_neg kz]; exact hQ)
    obtain ⟨c1, E1, F1, V1, O1, M1⟩ := readOpC (rep := rep) (here := here) hLn0 hF0 hw (i := 0) (by omega) z8
    have hLn1 : LnC B n c1 T N ln := hLn0.mod M1 (by decide) (by decide) (by decide)
    have M01 : ModC OXF OXA [] c c1 := M0'.trans M1
    by_cases ok : oOk T N here (w + 1) = true
    · rw [if_pos ok] at E1
      have ht1 := oNx_lt hL (N := N) (here := here) hw
      obtain ⟨n1, hn1⟩ : ∃ n1, n1 = oNx T N here (w + 1) := ⟨_, rfl⟩
      rw [← hn1] at E1 ht1
      obtain ⟨u8, u34, u0, u1⟩ := V1 ok
      have k44 : nI (tk T n1).1 = 44 ↔ (tk T n1).1 = 44 := nI_eq (b := 44) (by have := tk_kd hL n1; omega) (by omega)
      have P0 : OPC c1 0 T N here (w + 1) := by
        refine ⟨u34, fun z => ?_, u1⟩
        obtain ⟨a1, a2, a3⟩ := u0 z
        rw [a1, a2, a3]
        exact p0.2
      have P1 : OP0 c1 1 := p1.eq (fun o ho => O1 o 1 ho (by omega))
      by_cases kc : (tk T n1).1 = 44
      · simp only [ok, true_and, if_true, ← hn1, if_pos kc]
        have ht2 := more hL ht1 (by omega)
        obtain ⟨c2, E2, F2, V2, O2, M2⟩ := readOpC (rep := rep) (here := here) hLn1 F1 ht2 (i := 1) (by omega) u8
        have hLn2 : LnC B n c2 T N ln := hLn1.mod M2 (by decide) (by decide) (by decide)
        have M02 : ModC OXF OXA [] c c2 := M01.trans M2
        have st2 : ∀ (m : Nat) (Q : vmD → Prop), Forger_instruction_65 (Forger_instruction_32 Q m) (nI w) x2 2 (kb rep) here (nI (n1 + 1)) c1 Q → Forger_instruction (nI w) x2 c Q := by
          intro m Q hQ
          refine st (m + 1) Q ?_
          unfold Forger_instruction_65
          refine E1 _ ?_
          rw [if_neg (nI_pos (by omega)), kindC hLn1.2.2.1 (by omega), if_pos (k44.mpr kc), if_pos (by decide)]
          unfold Forger_instruction_97
          rw [if_neg (by decide)]
          unfold Forger_instruction_110
          refine bnd_iff.mpr (bnd_iff.mpr ?_)
          rw [nI_p1]
          unfold Forger_instruction_32
          rw [if_neg (by decide), if_neg (by decide)]
          exact e65 _ _ _ _ _ M01 hQ
        by_cases ok2 : oOk T N here (n1 + 1) = true
        · rw [if_pos ok2] at E2
          have ht3 := oNx_lt hL (N := N) (here := here) ht2
          obtain ⟨n2, hn2⟩ : ∃ n2, n2 = oNx T N here (n1 + 1) := ⟨_, rfl⟩
          rw [← hn2] at E2 ht3
          obtain ⟨y8, y34, y0, y1⟩ := V2 ok2
          obtain ⟨c3, E3, F3, M3⟩ := e118C hLn2 F2 (x := n2) (by omega) (nI w) x2
          simp only [ok2, if_true, ← hn2]
          refine ⟨c3, fun Q hQ => st2 1 Q ?_, F3, fun _ => ⟨(M3.1 33 8 (by decide)).trans y8, fun i hi => ?_, fun i h1 h2 => absurd h1 (by omega)⟩, M02.trans (M3.mono (by decide) (by decide) (by decide))⟩
          · unfold Forger_instruction_65
            refine E2 _ ?_
            have h118 : Forger_instruction_118 (nI w) x2 (nI n2) c2 Q := by
              refine E3 Q ?_
              by_cases z : (tk T n2).1 = 0
              · rw [if_pos (decide_eq_true z)] at hQ
                rw [if_pos z]
                exact hQ
              · rw [if_neg (by rw [decide_eq_false z]; exact Bool.false_ne_true)] at hQ
                rw [if_neg z]
                exact hQ
            rw [if_neg (nI_pos (by omega)), kindC hLn2.2.2.1 (by omega)]
            split
            · rw [if_neg (by decide)]
              exact stop _ _ _ _ _ h118
            · exact stop _ _ _ _ _ h118
          · have : i = 0 ∨ i = 1 := by omega
            rcases this with rfl | rfl
            · rw [if_pos rfl]
              exact P0.eq (fun o ho => by rw [keepF M3, O2 o 0 ho (by omega)])
            · rw [if_neg (by omega)]
              have P1' : OPC c2 1 T N here (n1 + 1) := by
                refine ⟨y34, fun z => ?_, y1⟩
                obtain ⟨a1, a2, a3⟩ := y0 z
                rw [a1, a2, a3]
                exact P1.2
              exact P1'.eq (fun o ho => by rw [keepF M3])
        · rw [if_neg ok2] at E2
          simp only [if_neg ok2, Bool.false_eq_true, if_false]
          refine ⟨c2, fun Q hQ => st2 1 Q ?_, F2, fun z => (by cases z), M02⟩
          unfold Forger_instruction_65
          refine E2 _ ?_
          rw [if_pos (by decide)]
          exact stop _ _ _ _ _ (gone _ _ hQ)
      · simp only [ok, true_and, if_true, ← hn1, if_neg kc]
        obtain ⟨c3, E3, F3, M3⟩ := e118C hLn1 F1 (x := n1) (by omega) (nI w) x2
        refine ⟨c3, fun Q hQ => st 1 Q ?_, F3, fun _ => ⟨(M3.1 33 8 (by decide)).trans u8, fun i hi => ?_, fun i h1 h2 => ?_⟩, M01.trans (M3.mono (by decide) (by decide) (by decide))⟩
        · unfold Forger_instruction_65
          refine E1 _ ?_
          rw [if_neg (nI_pos (by omega)), kindC hLn1.2.2.1 (by omega), if_neg (fun z => kc (k44.mp z))]
          refine stop _ _ _ _ _ (E3 Q ?_)
          by_cases z : (tk T n1).1 = 0
          · rw [if_pos (decide_eq_true z)] at hQ
            rw [if_pos z]
            exact hQ
          · rw [if_neg (by rw [decide_eq_false z]; exact Bool.false_ne_true)] at hQ
            rw [if_neg z]
            exact hQ
        · have : i = 0 := by omega
          rw [this, if_pos rfl]
          exact P0.eq (fun o ho => by rw [keepF M3])
        · have : i = 1 := by omega
          rw [this]
          exact P1.eq (fun o ho => by rw [keepF M3])
    · rw [if_neg ok] at E1
      simp only [if_neg ok, Bool.false_eq_true, if_false, false_and]
      refine ⟨c1, fun Q hQ => st 1 Q ?_, by rw [if_neg (fun z => ok z.1)]; exact F1, fun z => (by cases z), M01⟩
      unfold Forger_instruction_65
      refine E1 _ ?_
      rw [if_pos (by decide)]
      exact stop _ _ _ _ _ (gone _ _ hQ)
