/-! Operands: the class reads one, whole -/
def oOk (T : List Tk) (N : Nt) (here : Int32) (t : Nat) : Bool := match oFr T t with
  | none => true
  | some q => xok T N here q && (match clo T t with
    | none => true
    | some l => decide (xat T N here q = l))
def oNx (T : List Tk) (N : Nt) (here : Int32) (t : Nat) : Nat := match clo T t with
  | some l => l + 1
  | none => match oFr T t with
    | none => t + 1
    | some q => xat T N here q
def oXa (T : List Tk) (N : Nt) (here : Int32) (t : Nat) : Nat := match oFr T t with
  | none => 0
  | some q => xat T N here q
def oFl (T : List Tk) (N : Nt) (here : Int32) (t ln : Nat) (rep : Bool) (f : Fl) : Fl := match oFr T t with
  | none => f
  | some q => if xok T N here q = true ∧ ¬ oOk T N here t = true then addF (xfl T N here q ln rep f) ln (tk T (xat T N here q)).2.1 (rfc T (xat T N here q)) else xfl T N here q ln rep f
abbrev OXF : List (Nat × Nat) := [(28, 6), (28, 7), (28, 8), (28, 9), (28, 10), (28, 11), (28, 12), (21, 0), (21, 1), (21, 2), (33, 7), (33, 8)]
abbrev OXA : List Nat := [29, 30, 31, 32, 34, 35, 36, 37]
theorem clo_some {B : Nat → Nat} {n : Nat} {T : List Tk} (hL : Lx B n T) {t l : Nat} (ht : t < T.length) (h : clo T t = some l) : (tk T t).1 = 40 ∧ cl T 1 (t + 1) = some l ∧ (tk T l).1 = 41 ∧ ends T (l + 1) = true ∧ t + 1 ≤ l ∧ l + 1 < T.length := by
  unfold clo at h
  split at h
  · rename_i k
    obtain ⟨a, b, e, g⟩ := cl_some hL T.length 1 (t + 1) (by omega) (by omega) h
    exact ⟨k, h, a, b, e, g⟩
  · cases h
theorem nearS_e {T : List Tk} {t : Nat} (h : nearS T t = true) : (nmI T (t + 1) = 15 ∨ nmI T (t + 1) = 16) ∧ ((tk T (t + 2)).1 = 43 ∨ (tk T (t + 2)).1 = 45) ∧ (tk T (t + 1)).1 = 2 := by
  unfold nearS at h
  rw [Bool.and_eq_true, Bool.or_eq_true, Bool.or_eq_true, decide_eq_true_eq, decide_eq_true_eq, decide_eq_true_eq, decide_eq_true_eq] at h
  refine ⟨h.1, h.2, ?_⟩
  by_cases z : (tk T (t + 1)).1 = 2
  · exact z
  · exfalso
    have := h.1
    unfold nmI at this
    rw [if_neg z] at this
    omega
/-- where an exp begins there are tokens, and its bracket is the operand's -/
theorem oFr_in {B : Nat → Nat} {n : Nat} {T : List Tk} (hL : Lx B n T) {t q : Nat} (ht : t < T.length) (h : oFr T t = some q) : q < T.length ∧ t ≤ q ∧ ∀ l, clo T t = some l → cl T 1 q = some l := by
  unfold oFr at h
  cases hc : clo T t with
  | none =>
    rw [hc] at h
    dsimp only at h
    split at h
    · cases h
    · cases h
      exact ⟨ht, Nat.le_refl _, fun l hl => by cases hl⟩
  | some l =>
    rw [hc] at h
    dsimp only at h
    obtain ⟨s0, s1, s2, s3, s4, s5⟩ := clo_some hL ht hc
    split at h
    · cases h
    · split at h
      · rename_i w
        obtain ⟨w1, w2, w3⟩ := nearS_e w
        cases h
        have n1 : ¬ l = t + 1 := fun z => by rw [z] at s2; omega
        have n2 : ¬ l = t + 2 := fun z => by rw [z] at s2; omega
        refine ⟨by omega, by omega, fun l' hl' => ?_⟩
        cases hl'
        rw [← s1, cl_e (show t + 1 < T.length by omega), if_neg (by omega), if_neg (by omega), if_neg (by omega), if_neg (by omega), cl_e (show t + 1 + 1 < T.length by omega), if_neg (show ¬ (tk T (t + 1 + 1)).1 ≤ 1 by show ¬ (tk T (t + 2)).1 ≤ 1; omega), if_neg (show ¬ ((tk T (t + 1 + 1)).1 = 41 ∧ 1 = 1) by show ¬ ((tk T (t + 2)).1 = 41 ∧ 1 = 1); omega), if_neg (show ¬ (tk T (t + 1 + 1)).1 = 40 by show ¬ (tk T (t + 2)).1 = 40; omega), if_neg (show ¬ (tk T (t + 1 + 1)).1 = 41 by show ¬ (tk T (t + 2)).1 = 41; omega)]
      · cases h
        exact ⟨by omega, by omega, fun l' hl' => by cases hl'; exact s1⟩
/-- the class reads an operand -/
theorem readOpC {B : Nat → Nat} {n : Nat} {c : vmD} {T : List Tk} {N : Nt} {ln : Nat} {here : Int32} {rep : Bool} {f : Fl} (hLn : LnC B n c T N ln) (hF : FltC c f) {t i : Nat} (ht : t < T.length) (hi : i < 2) (h8 : gF c 33 8 = nI i) : ∃ c', (∀ Q : Int32 → vmD → Prop, Q (if oOk T N here t = true then nI (oNx T N here t) else -1) c' → Operands_read (nI t) here (kb rep) c Q) ∧ FltC c' (oFl T N here t ln rep f) ∧ (oOk T N here t = true → gF c' 33 8 = nI (i + 1) ∧ gA c' 34 i = nI (oKd T t) ∧ (oFr T t = none → gA c' 35 i = gA c 35 i ∧ gA c' 36 i = gA c 36 i ∧ gA c' 37 i = gA c 37 i) ∧ (∀ q, oFr T t = some q → gA c' 35 i = (if oNg T t = true then -(xvl T N here q) else xvl T N here q) ∧ gA c' 36 i = nI (tk T q).2.1 ∧ gA c' 37 i = kb (decide ((xtr T N here q).1 = 0)))) ∧ (∀ o j, (o = 34 ∨ o = 35 ∨ o = 36 ∨ o = 37) → ¬ j = i → gA c' o j = gA c o j) ∧ ModC OXF OXA [] c c' := by
  have h1 := hLn.2.1
  have hl := h1.2.1
  obtain ⟨c1, E1, k1, k2, k3, M1⟩ := clsfC hLn ht hi h8
  have hLn1 : LnC B n c1 T N ln := hLn.mod M1 (by decide) (by decide) (by decide)
  have hF1 : FltC c1 f := hF.mod M1 (by decide) (by decide) (by decide)
  have h81 : gF c1 33 8 = nI i := by rw [M1.1 33 8 (by decide), h8]
  have M1' : ModC OXF OXA [] c c1 := M1.mono (by decide) (by decide) (by decide)
  have hix : ixOk (nI i) 2 := nI_in (by omega) (by omega)
  have hic : (nI i).toNatClampNeg = i := nI_clamp (by omega)
  have others1 : ∀ o j, (o = 34 ∨ o = 35 ∨ o = 36 ∨ o = 37) → ¬ j = i → gA c1 o j = gA c o j := by
    intro o j ho hj
    rcases ho with rfl | rfl | rfl | rfl
    · exact k2 j hj
    · rw [M1.2.1 35 (by decide)]
    · rw [M1.2.1 36 (by decide)]
    · rw [M1.2.1 37 (by decide)]
  have st : ∀ Q : Int32 → vmD → Prop, (if oI (clo T t) < 0 then (Operands_read_46 here (kb rep) (oI (clo T t)) (oI (oFr T t)) (nI (t + 1)) c1 Q) else (Operands_read_46 here (kb rep) (oI (clo T t)) (oI (oFr T t)) (oI (clo T t)) c1 Q)) → Operands_read (nI t) here (kb rep) c Q := by
    intro Q hQ
    unfold Operands_read
    rw [h8, if_neg (nI_pos (by omega)), if_pos (show nI i < 2 from nI_lt (b := 2) hi (by omega)), nI_p1]
    exact cloC h1 hLn.2.2.1 ht _ (E1 _ hQ)
  cases hfr : oFr T t with
  | none =>
    have eok : oOk T N here t = true := by
      unfold oOk
      rw [hfr]
    have efl : oFl T N here t ln rep f = f := by
      unfold oFl
      rw [hfr]
    rw [eok, efl]
    obtain ⟨c2, hc2⟩ : ∃ c2 : vmD, c2 = sF c1 33 8 (nI (i + 1)) := ⟨_, rfl⟩
    have A2 : gA c2 = gA c1 := by rw [hc2]; rfl
    have M2 : ModC [(33, 8)] [] [] c1 c2 := by rw [hc2]; exact (ModC.refl [(33, 8)] [] [] c1).sF (by decide) _
    refine ⟨c2, fun Q hQ => st Q ?_, hF1.mod M2 (by decide) (by decide) (by decide), fun _ => ⟨by rw [hc2, gF_sF, u1f_eq], by rw [A2, k1], fun _ => ?_, fun q hq => by cases hq⟩, fun o j ho hj => by rw [A2, others1 o j ho hj], M1'.trans (M2.mono (by decide) (by decide) (by decide))⟩
    · rw [if_pos rfl] at hQ
      rw [hfr]
      cases hc : clo T t with
      | none =>
        have en : oNx T N here t = t + 1 := by
          unfold oNx
          rw [hc]
          dsimp only
          rw [hfr]
        rw [en] at hQ
        rw [if_pos (show oI none < 0 by decide)]
        unfold Operands_read_46 Operands_read_141 Operands_read_174
        rw [if_pos (show oI none < 0 by decide), h81, nI_p1]
        refine bnd_iff.mpr ?_
        rw [if_pos (show oI none < 0 by decide), ← hc2, if_pos (show oI none < 0 by decide)]
        exact hQ
      | some l =>
        obtain ⟨s0, s1, s2, s3, s4, s5⟩ := clo_some h1 ht hc
        have en : oNx T N here t = l + 1 := by
          unfold oNx
          rw [hc]
        rw [en] at hQ
        have np : ¬ oI (some l) < 0 := nI_pos (show l < 2 ^ 31 by omega)
        rw [if_neg np]
        unfold Operands_read_46 Operands_read_141 Operands_read_174
        rw [if_pos (show oI none < 0 by decide), h81, nI_p1]
        refine bnd_iff.mpr ?_
        rw [if_neg np, if_pos rfl, ← hc2, if_neg np, show oI (some l) + 1 = nI (l + 1) from nI_p1 l]
        exact hQ
    · rw [A2, M1.2.1 35 (by decide), M1.2.1 36 (by decide), M1.2.1 37 (by decide)]
      exact ⟨rfl, rfl, rfl⟩
  | some q =>
    obtain ⟨hq, htq, hcq⟩ := oFr_in h1 ht hfr
    obtain ⟨c2, E2, F2, V2, M2, l1, l2, l3, l4⟩ := readC (rep := rep) (here := here) hLn1 hF1 hq
    have hLn2 : LnC B n c2 T N ln := hLn1.mod M2 (by decide) (by decide) (by decide)
    have h82 : gF c2 33 8 = nI i := by rw [M2.1 33 8 (by decide), h81]
    have h72 : gF c2 33 7 = kb (oNg T t) := by rw [M2.1 33 7 (by decide), k3]
    have M12 : ModC OXF OXA [] c c2 := M1'.trans (M2.mono (by decide) (by decide) (by decide))
    have others2 : ∀ o j, (o = 34 ∨ o = 35 ∨ o = 36 ∨ o = 37) → gA c2 o j = gA c1 o j := by
      intro o j ho
      rcases ho with rfl | rfl | rfl | rfl
      · rw [M2.2.1 34 (by decide)]
      · rw [M2.2.1 35 (by decide)]
      · rw [M2.2.1 36 (by decide)]
      · rw [M2.2.1 37 (by decide)]
    have nq : ¬ oI (some q) < 0 := nI_pos (show q < 2 ^ 31 by omega)
    have na : ¬ nI (xat T N here q) < 0 := nI_pos (show xat T N here q < 2 ^ 31 by omega)
    by_cases ok : xok T N here q = true
    · rw [if_pos ok] at E2
      obtain ⟨v31, v32⟩ := V2 ok
      obtain ⟨x, hx⟩ : ∃ x : Int32, x = (if oNg T t = true then -(xvl T N here q) else xvl T N here q) := ⟨_, rfl⟩
      obtain ⟨c3, hc3⟩ : ∃ c3 : vmD, c3 = sF (sA (sA (sA c2 35 i x) 37 i (kb (decide ((xtr T N here q).1 = 0)))) 36 i (nI (tk T q).2.1)) 33 8 (nI (i + 1)) := ⟨_, rfl⟩
      have M3 : ModC [(33, 8)] [35, 36, 37] [] c2 c3 := by
        rw [hc3]
        exact ((((ModC.refl [(33, 8)] [35, 36, 37] [] c2).sA (by decide) _ _).sA (by decide) _ _).sA (by decide) _ _).sF (by decide) _
      have hLn3 : LnC B n c3 T N ln := hLn2.mod M3 (by decide) (by decide) (by decide)
      have F3 := F2.mod M3 (by decide) (by decide) (by decide)
      have M13 : ModC OXF OXA [] c c3 := M12.trans (M3.mono (by decide) (by decide) (by decide))
      have x8 : gF c3 33 8 = nI (i + 1) := by rw [hc3, gF_sF, u1f_eq]
      have x34 : gA c3 34 i = nI (oKd T t) := by rw [M3.2.1 34 (by decide), others2 34 i (Or.inl rfl), k1]
      have x35 : gA c3 35 i = x := by
        rw [hc3, gA_sF, gA_sA_ne _ _ _ (by decide), gA_sA_ne _ _ _ (by decide), gA_sA, u1f_eq]
      have x37 : gA c3 37 i = kb (decide ((xtr T N here q).1 = 0)) := by
        rw [hc3, gA_sF, gA_sA_ne _ _ _ (by decide), gA_sA, u1f_eq]
      have x36 : gA c3 36 i = nI (tk T q).2.1 := by
        rw [hc3, gA_sF, gA_sA, u1f_eq]
      have others3 : ∀ o j, (o = 34 ∨ o = 35 ∨ o = 36 ∨ o = 37) → ¬ j = i → gA c3 o j = gA c o j := by
        intro o j ho hj
        rw [← others1 o j ho hj, ← others2 o j ho, hc3]
        rcases ho with rfl | rfl | rfl | rfl
        · rw [gA_sF, gA_sA_ne _ _ _ (by decide), gA_sA_ne _ _ _ (by decide), gA_sA_ne _ _ _ (by decide)]
        · rw [gA_sF, gA_sA_ne _ _ _ (by decide), gA_sA_ne _ _ _ (by decide), gA_sA, u1f_ne _ _ hj]
        · rw [gA_sF, gA_sA, u1f_ne _ _ hj, gA_sA_ne _ _ _ (by decide), gA_sA_ne _ _ _ (by decide)]
        · rw [gA_sF, gA_sA_ne _ _ _ (by decide), gA_sA, u1f_ne _ _ hj, gA_sA_ne _ _ _ (by decide)]
      have e46 : ∀ (s0 : Int32) (Q : Int32 → vmD → Prop), (if oI (clo T t) < 0 then (Operands_read_174 (oI (clo T t)) (nI (xat T N here q)) c3 Q) else (if nI (xat T N here q) = oI (clo T t) then (Operands_read_174 (oI (clo T t)) (nI (xat T N here q)) c3 Q) else (Tokens_refuse (nI (xat T N here q)) c3 fun d_13 => Q (-1) d_13))) → Operands_read_46 here (kb rep) (oI (clo T t)) (oI (some q)) s0 c1 Q := by
        intro s0 Q hQ
        have e106 : ∀ y : Int32, y = x → Operands_read_106 (oI (clo T t)) (oI (some q)) (nI (xat T N here q)) y (nI i) c2 Q := by
          intro y hy
          unfold Operands_read_106 Expression_known
          rw [hy, hic]
          refine ⟨hix, bnd_iff.mpr ?_⟩
          rw [gA_sA_ne _ _ _ (by decide), v32]
          refine bnd_iff.mpr ⟨by cases decide ((xtr T N here q).1 = 0) <;> decide, ?_⟩
          dsimp only
          rw [gF_sA, h82, hic, kb_and]
          refine ⟨hix, bnd_iff.mpr ?_⟩
          have T2 : TkC (sA (sA c2 35 i x) 37 i (kb (decide ((xtr T N here q).1 = 0)))) T := hLn2.2.2.1.mod (((ModC.refl [] [35, 37] [] c2).sA (by decide) _ _).sA (by decide) _ _) (by decide) (by decide) (by decide) (by decide)
          rw [show oI (some q) = nI q from rfl, placeC T2 (by omega), gF_sA, gF_sA, h82, hic]
          refine ⟨hix, bnd_iff.mpr ?_⟩
          unfold Operands_read_141
          rw [gF_sA, gF_sA, gF_sA, h82, nI_p1]
          refine bnd_iff.mpr ?_
          rw [← hc3]
          exact hQ
        unfold Operands_read_46
        rw [if_neg nq]
        refine E2 _ ?_
        unfold Expression_value
        rw [if_neg na, h72, v31, h82]
        by_cases z : oNg T t = true
        · rw [if_pos z] at hx
          rw [z, if_neg (by decide)]
          exact bnd_iff.mpr (e106 _ hx.symm)
        · rw [if_neg z] at hx
          rw [if_pos ((kb_0 _).mpr z)]
          exact bnd_iff.mpr (e106 _ hx.symm)
      have hx2 : ∀ q', some q = some q' → gA c3 35 i = (if oNg T t = true then -(xvl T N here q') else xvl T N here q') ∧ gA c3 36 i = nI (tk T q').2.1 ∧ gA c3 37 i = kb (decide ((xtr T N here q').1 = 0)) := by
        intro q' hq'
        cases hq'
        exact ⟨x35.trans hx, x36, x37⟩
      cases hc : clo T t with
      | none =>
        rw [hc] at st e46
        have eok : oOk T N here t = true := by
          unfold oOk
          rw [hfr]
          dsimp only
          rw [hc, ok]
          rfl
        have efl : oFl T N here t ln rep f = xfl T N here q ln rep f := by
          unfold oFl
          rw [hfr]
          dsimp only
          rw [if_neg (fun z => z.2 eok)]
        have en : oNx T N here t = xat T N here q := by
          unfold oNx
          rw [hc]
          dsimp only
          rw [hfr]
        rw [eok, efl, en]
        refine ⟨c3, fun Q hQ => st Q ?_, F3, fun _ => ⟨x8, x34, fun z => (by cases z), hx2⟩, others3, M13⟩
        rw [if_pos (show oI none < 0 by decide), hfr]
        refine e46 _ Q ?_
        unfold Operands_read_174
        rw [if_pos (show oI none < 0 by decide), if_pos (show oI none < 0 by decide)]
        exact hQ
      | some l =>
        rw [hc] at st e46
        obtain ⟨s0, s1, s2, s3, s4, s5⟩ := clo_some h1 ht hc
        have np : ¬ oI (some l) < 0 := nI_pos (show l < 2 ^ 31 by omega)
        have en : oNx T N here t = l + 1 := by
          unfold oNx
          rw [hc]
        have ceq : nI (xat T N here q) = oI (some l) ↔ xat T N here q = l := nI_eq (by omega) (by omega)
        by_cases y : xat T N here q = l
        · have eok : oOk T N here t = true := by
            unfold oOk
            rw [hfr]
            dsimp only
            rw [hc, ok]
            dsimp only
            rw [decide_eq_true y]
            rfl
          have efl : oFl T N here t ln rep f = xfl T N here q ln rep f := by
            unfold oFl
            rw [hfr]
            dsimp only
            rw [if_neg (fun z => z.2 eok)]
          rw [eok, efl, en]
          refine ⟨c3, fun Q hQ => st Q ?_, F3, fun _ => ⟨x8, x34, fun z => (by cases z), hx2⟩, others3, M13⟩
          rw [if_neg np, hfr]
          refine e46 _ Q ?_
          unfold Operands_read_174
          rw [if_neg np, if_pos (ceq.mpr y), if_neg np, show oI (some l) + 1 = nI (l + 1) from nI_p1 l]
          exact hQ
        · have eok : ¬ oOk T N here t = true := by
            unfold oOk
            rw [hfr]
            dsimp only
            rw [hc, ok]
            dsimp only
            rw [decide_eq_false y]
            decide
          have efl : oFl T N here t ln rep f = addF (xfl T N here q ln rep f) ln (tk T (xat T N here q)).2.1 (rfc T (xat T N here q)) := by
            unfold oFl
            rw [hfr]
            dsimp only
            rw [if_pos ⟨ok, eok⟩]
          rw [efl, if_neg eok]
          obtain ⟨c4, E4, F4, M4⟩ := refuseC hLn3 F3 (t := xat T N here q) (by omega)
          have M4' : ModC OXF OXA [] c3 c4 := M4.mono (by decide) (by decide) (by decide)
          refine ⟨c4, fun Q hQ => st Q ?_, F4, fun z => absurd z eok, fun o j ho hj => ?_, M13.trans M4'⟩
          · rw [if_neg np, hfr]
            refine e46 _ Q ?_
            rw [if_neg np, if_neg (fun w => y (ceq.mp w))]
            exact E4 _ hQ
          · rw [← others3 o j ho hj]
            rcases ho with rfl | rfl | rfl | rfl <;> rw [M4.2.1 _ (by decide)]
    · rw [if_neg ok] at E2
      have eok : ¬ oOk T N here t = true := by
        unfold oOk
        rw [hfr]
        dsimp only
        rw [show xok T N here q = false by rw [← Bool.not_eq_true]; exact ok, Bool.false_and]
        exact Bool.false_ne_true
      have efl : oFl T N here t ln rep f = xfl T N here q ln rep f := by
        unfold oFl
        rw [hfr]
        dsimp only
        rw [if_neg (fun z => ok z.1)]
      rw [efl, if_neg eok]
      refine ⟨c2, fun Q hQ => st Q ?_, F2, fun z => absurd z eok, fun o j ho hj => by rw [others2 o j ho, others1 o j ho hj], M12⟩
      have e46 : ∀ s0 : Int32, Operands_read_46 here (kb rep) (oI (clo T t)) (oI (some q)) s0 c1 Q := by
        intro s0
        unfold Operands_read_46
        rw [if_neg nq]
        refine E2 _ ?_
        rw [if_pos (by decide)]
        exact hQ
      rw [hfr]
      split
      · exact e46 _
      · exact e46 _
