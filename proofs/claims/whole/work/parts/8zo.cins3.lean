/-! Statements: the class puts an instruction -/
theorem wthC (k v : Int32) (c : vmD) (Q : Int32 → vmD → Prop) : Forger_withinOpcode k v c Q = Q (wiI k v) c := by
  simp only [Forger_withinOpcode, wiI, Qite]
theorem ledC {g : Nat} (hg : g < 8) (c : vmD) (Q : Int32 → vmD → Prop) : Forger_leadOf (nI g) c Q = Q (lgI g) c := by
  have e : ∀ g, g < 8 → (if nI g = 1 then (203 : Int32) else if nI g = 2 then 237 else if nI g = 3 then 221 else if nI g = 5 then 221 else 253) = lgI g := by decide
  rw [← e g hg]
  simp only [Forger_leadOf, Qite]
def lnB (x i : Nat) : Nat := if btG (x / 256) = true then 0 else lnN (shF x i)
def rstO (T : List Tk) (N : Nt) (here : Int32) (p h x : Nat) : Nat → Nat → List Int32
  | 0, _ => []
  | r + 1, i => numO (lnB x i) (cvI T N here p h x i) ++ rstO T N here p h x r (i + 1)
theorem lnB_2 (x i : Nat) : lnB x i ≤ 2 := by
  unfold lnB
  split
  · omega
  · exact (lnN_e _).1
/-- the loop over operands -/
theorem putL {B : Nat → Nat} {n : Nat} {T : List Tk} {N : Nt} {ln h p x : Nat} (hx : x < 1792) (h0 : ¬ tabS x < 0) : ∀ (r i a : Nat) (c : vmD) (P : Pt), i + r = lsN T N (nI h) p → LnC B n c T N ln → OpsC c T N (nI h) p → gF c 20 9 = nI 3 → gF c 20 11 = nI h → PtC c P → a + 2 * r ≤ 65540 → a + (rstO T N (nI h) p h x r i).length ≤ 65536 → P.2.1 + 2 * r < 2 ^ 29 → ∃ c', (∀ Q : vmD → Prop, Q c' → ∃ m, Forger_putInstruction_139 Q m (nI x) (nI (szN x)) (nI a) (kb (btG (x / 256))) (nI i) c) ∧ PtC c' (ptW 3 a (rstO T N (nI h) p h x r i) P) ∧ ModC PF [2] [] c c' := by
  intro r
  induction r with
  | zero =>
    intro i a c P hi hLn hO h9 h11 hP hb ha hp
    have h2 := lsN_2 T N (nI h) p
    refine ⟨c, fun Q hQ => ⟨1, ?_⟩, by rw [show rstO T N (nI h) p h x 0 i = [] from rfl, ptW_nil]; exact hP, ModC.refl _ _ _ _⟩
    unfold Forger_putInstruction_139 Operands_count
    rw [hO.1]
    dsimp only
    rw [if_neg (nI_nlt (by omega) (by omega))]
    exact hQ
  | succ r ih =>
    intro i a c P hi hLn hO h9 h11 hP hb ha hp
    have h2 := lsN_2 T N (nI h) p
    have hl := lnB_2 x i
    have eR : rstO T N (nI h) p h x (r + 1) i = numO (lnB x i) (cvI T N (nI h) p h x i) ++ rstO T N (nI h) p h x r (i + 1) := rfl
    rw [eR] at ha ⊢
    rw [List.length_append, numO_l hl] at ha
    obtain ⟨c1, E1, P1, M1, -⟩ := numPC hP h9 (by omega) (a := a) (k := lnB x i) hl (fun _ => by omega) (by omega) (cvI T N (nI h) p h x i)
    have hp1 : (ptW 3 a (numO (lnB x i) (cvI T N (nI h) p h x i)) P).2.1 + 2 * r < 2 ^ 29 := by
      show P.2.1 + (numO (lnB x i) (cvI T N (nI h) p h x i)).length + 2 * r < 2 ^ 29
      rw [numO_l hl]
      omega
    obtain ⟨c2, E2, P2, M2⟩ := ih (i + 1) (a + lnB x i) c1 _ (by omega) (hLn.mod M1 (by decide) (by decide) (by decide)) (hO.mod M1 (by decide) (by decide)) (by rw [M1.1 20 9 (by decide)]; exact h9) (by rw [M1.1 20 11 (by decide)]; exact h11) P1 (by omega) (by omega) hp1
    refine ⟨c2, fun Q hQ => ?_, ?_, M1.trans M2⟩
    · obtain ⟨m, hm⟩ := E2 Q hQ
      refine ⟨m + 1, ?_⟩
      have e214 : ∀ v : Int32, v = cvI T N (nI h) p h x i → Forger_putInstruction_214 (Forger_putInstruction_139 Q m) (nI x) (nI (szN x)) (nI a) (kb (btG (x / 256))) (nI i) (nI (lnB x i)) v (nI (lnB x i)) (nI a) c Q := by
        intro v hv
        subst hv
        unfold Forger_putInstruction_214
        refine E1 _ (bnd_iff.mpr (bnd_iff.mpr ?_))
        rw [nI_add, nI_p1]
        exact hm
      have e177 : Forger_putInstruction_177 (Forger_putInstruction_139 Q m) (nI x) (nI (szN x)) (nI a) (kb (btG (x / 256))) (nI i) (shF x i) (nI (lnB x i)) c Q := by
        unfold Forger_putInstruction_177
        rw [opvC (by omega), (hO.2.1 i (by omega)).2]
        by_cases z : shF x i = 38
        · rw [if_pos z]
          unfold Forger_distance
          rw [h11]
          refine e214 _ ?_
          unfold cvI
          rw [if_pos z]
          rfl
        · rw [if_neg z]
          refine e214 _ ?_
          unfold cvI
          rw [if_neg z]
      unfold Forger_putInstruction_139 Operands_count
      rw [hO.1]
      dsimp only
      rw [if_pos (nI_lt (by omega) (by omega)), shkC hLn.2.2.2.2.1 hx h0 (by omega)]
      cases z : btG (x / 256) with
      | true =>
        rw [z] at e177
        have e0 : lnB x i = 0 := by
          unfold lnB
          rw [z, if_pos rfl]
        rw [e0] at e177
        rw [if_neg (show ¬ kb true = 0 by decide)]
        exact e177
      | false =>
        rw [z] at e177
        have e0 : lnB x i = lnN (shF x i) := by
          unfold lnB
          rw [z, if_neg Bool.false_ne_true]
        rw [e0] at e177
        rw [if_pos (show kb false = 0 from rfl), len_e, (lnN_e (shF x i)).2]
        exact e177
    · have e := ptW_app 3 (numO (lnB x i) (cvI T N (nI h) p h x i)) (rstO T N (nI h) p h x r (i + 1)) a P
      rw [numO_l hl] at e
      rw [e]
      exact P2
theorem rstO_all {T : List Tk} {N : Nt} {here : Int32} {t w x h : Nat} (hw : w < 107) (hX : inX T N here t w = some x) : rstO T N here (t + 1) h x (lsN T N here (t + 1)) 0 = numO (lnB x 0) (cvI T N here (t + 1) h x 0) ++ numO (lnB x 1) (cvI T N here (t + 1) h x 1) := by
  have h2 := lsN_2 T N here (t + 1)
  have z0 : ∀ i, i < 2 → lsN T N here (t + 1) ≤ i → lnB x i = 0 := by
    intro i hi hl
    have := shF_0 hw hX hi hl
    unfold lnB
    rw [this]
    split
    · rfl
    · decide
  have e0 : ∀ v : Int32, numO 0 v = [] := fun _ => rfl
  have : lsN T N here (t + 1) = 0 ∨ lsN T N here (t + 1) = 1 ∨ lsN T N here (t + 1) = 2 := by omega
  rcases this with e | e | e
  · rw [e, z0 0 (by omega) (by omega), z0 1 (by omega) (by omega), e0, e0]
    rfl
  · rw [e, z0 1 (by omega) (by omega), e0]
    rfl
  · rw [e]
    show numO (lnB x 0) _ ++ (numO (lnB x 1) _ ++ []) = _
    rw [List.append_nil]
theorem piC {B : Nat → Nat} {n : Nat} {c : vmD} {T : List Tk} {N : Nt} {ln h t w x : Nat} {P : Pt} (hw : w < 107) (hX : inX T N (nI h) t w = some x) (hLn : LnC B n c T N ln) (hO : OpsC c T N (nI h) (t + 1)) (h9 : gF c 20 9 = nI 3) (h11 : gF c 20 11 = nI h) (hP : PtC c P) (ha : h + szN x ≤ 65536) (hp : P.2.1 < 2 ^ 28) : ∃ c', (∀ Q : vmD → Prop, Q c' → Forger_putInstruction (nI x) (nI (szN x)) c Q) ∧ PtC c' (ptW 3 h (inO T N (nI h) t h x) P) ∧ ModC PF [2] [] c c' := by
  obtain ⟨hx, hsz, h4, a0, a1, h0, -, -, -, hG⟩ := inX_ok hw hX
  have hg8 : x / 256 < 8 := by omega
  have hlen := inO_len T N (nI h) t h x
  have h2 := lsN_2 T N (nI h) (t + 1)
  -- pieces
  have one : ∀ (k a : Nat) (d : vmD) (v : Int32) (P1 : Pt), k ≤ 2 → ModC PF [2] [] c d → PtC d P1 → a + k ≤ 65536 → P1.2.1 < 2 ^ 29 → ∃ d', (∀ Q : vmD → Prop, Q d' → Forger_putNumber (nI a) (nI k) v d Q) ∧ PtC d' (ptW 3 a (numO k v) P1) ∧ ModC PF [2] [] c d' := by
    intro k a d v P1 hk M hd hak hpk
    obtain ⟨d', E, P', M', -⟩ := numPC hd (wh := 3) (by rw [M.1 20 9 (by decide)]; exact h9) (by omega) (a := a) (k := k) hk (fun _ => hak) hpk v
    exact ⟨d', E, P', M.trans M'⟩
  have pcs : ∀ (a : Nat) (l : List Int32) (P1 : Pt), (ptW 3 a l P1).2.1 = P1.2.1 + l.length := fun _ _ _ => rfl
  unfold inO at hlen ⊢
  rw [List.length_append, List.length_append, List.length_append] at hlen
  -- the opcode and what is behind
  have tail : ∀ (a : Nat) (d : vmD) (P1 : Pt), ModC PF [2] [] c d → PtC d P1 → a + 1 + (numO (lnB x 0) (cvI T N (nI h) (t + 1) h x 0) ++ numO (lnB x 1) (cvI T N (nI h) (t + 1) h x 1)).length ≤ 65536 → P1.2.1 < 2 ^ 28 + 100 → ∃ d', (∀ Q : vmD → Prop, Q d' → Forger_putInstruction_100 (nI x) (nI (szN x)) (nI a) (kb (btG (x / 256))) d Q) ∧ PtC d' (ptW 3 a ([(nI x &&& 255) ||| wiI (shF x 0) (vlI T N (nI h) (t + 1) 0)] ++ (numO (lnB x 0) (cvI T N (nI h) (t + 1) h x 0) ++ numO (lnB x 1) (cvI T N (nI h) (t + 1) h x 1))) P1) ∧ ModC PF [2] [] c d' := by
    intro a d P1 M hd hal hpl
    have hLd : LnC B n d T N ln := hLn.mod M (by decide) (by decide) (by decide)
    have hOd : OpsC d T N (nI h) (t + 1) := hO.mod M (by decide) (by decide)
    obtain ⟨d1, E1, P2, M1⟩ := one 1 a d ((nI x &&& 255) ||| wiI (shF x 0) (vlI T N (nI h) (t + 1) 0)) P1 (by omega) M hd (by omega) (by omega)
    rw [← rstO_all hw hX] at hal ⊢
    have hr2 : ∀ r i, (rstO T N (nI h) (t + 1) h x r i).length ≤ 2 * r := by
      intro r
      induction r with
      | zero => intro i; exact Nat.le_refl _
      | succ r ih =>
        intro i
        show (numO (lnB x i) _ ++ rstO T N (nI h) (t + 1) h x r (i + 1)).length ≤ _
        rw [List.length_append, numO_l (lnB_2 x i)]
        have := ih (i + 1)
        have := lnB_2 x i
        omega
    have hpp : (ptW 3 a (numO 1 ((nI x &&& 255) ||| wiI (shF x 0) (vlI T N (nI h) (t + 1) 0))) P1).2.1 + 2 * lsN T N (nI h) (t + 1) < 2 ^ 29 := by
      rw [pcs, numO_l (by omega)]
      omega
    obtain ⟨d2, E2, P3, M2⟩ := putL hx h0 (lsN T N (nI h) (t + 1)) 0 (a + 1) d1 _ (by omega) (hLn.mod M1 (by decide) (by decide) (by decide)) (hO.mod M1 (by decide) (by decide)) (by rw [M1.1 20 9 (by decide)]; exact h9) (by rw [M1.1 20 11 (by decide)]; exact h11) P2 (by omega) hal hpp
    refine ⟨d2, fun Q hQ => ?_, ?_, M1.trans M2⟩
    · unfold Forger_putInstruction_100
      rw [show (0 : Int32) = nI 0 from rfl, shkC hLd.2.2.2.2.1 hx h0 (by omega), opvC (by omega), (hOd.2.1 0 (by omega)).2, wthC]
      refine E1 _ (bnd_iff.mpr ?_)
      rw [nI_p1]
      exact E2 Q hQ
    · rw [ptW_app]
      exact P3
  have e45 : ∀ (a : Nat) (d : vmD) (Q : vmD → Prop), Forger_putInstruction_45 (nI x) (nI (szN x)) (nI a) (kb (btG (x / 256))) d Q → Forger_putInstruction_29 (nI x) (nI (szN x)) (nI (x / 256)) (nI a) d Q := by
    intro a d Q hQ
    unfold Forger_putInstruction_29 Forger_putInstruction_40
    have c5 : nI (x / 256) = 5 ↔ x / 256 = 5 := nI_eq (b := 5) (by omega) (by omega)
    have c6 : nI (x / 256) = 6 ↔ x / 256 = 6 := nI_eq (b := 6) (by omega) (by omega)
    unfold btG at hQ
    by_cases z5 : x / 256 = 5
    · rw [if_pos (c5.mpr z5)]
      rw [decide_eq_true z5] at hQ
      exact hQ
    · rw [if_neg (fun q => z5 (c5.mp q))]
      by_cases z6 : x / 256 = 6
      · rw [if_pos (c6.mpr z6)]
        rw [decide_eq_true z6, Bool.or_true] at hQ
        exact hQ
      · rw [if_neg (fun q => z6 (c6.mp q))]
        rw [decide_eq_false z5, decide_eq_false z6] at hQ
        exact hQ
  -- the bits in front
  have mid : ∀ (a : Nat) (d : vmD) (P1 : Pt), ModC PF [2] [] c d → PtC d P1 → a + ((if btG (x / 256) = true then [203, (if shF x 0 = 39 then vlI T N (nI h) (t + 1) 1 else vlI T N (nI h) (t + 1) 0)] else []) ++ ([(nI x &&& 255) ||| wiI (shF x 0) (vlI T N (nI h) (t + 1) 0)] ++ (numO (lnB x 0) (cvI T N (nI h) (t + 1) h x 0) ++ numO (lnB x 1) (cvI T N (nI h) (t + 1) h x 1)))).length ≤ 65536 → P1.2.1 < 2 ^ 28 + 50 → ∃ d', (∀ Q : vmD → Prop, Q d' → Forger_putInstruction_45 (nI x) (nI (szN x)) (nI a) (kb (btG (x / 256))) d Q) ∧ PtC d' (ptW 3 a ((if btG (x / 256) = true then [203, (if shF x 0 = 39 then vlI T N (nI h) (t + 1) 1 else vlI T N (nI h) (t + 1) 0)] else []) ++ ([(nI x &&& 255) ||| wiI (shF x 0) (vlI T N (nI h) (t + 1) 0)] ++ (numO (lnB x 0) (cvI T N (nI h) (t + 1) h x 0) ++ numO (lnB x 1) (cvI T N (nI h) (t + 1) h x 1)))) P1) ∧ ModC PF [2] [] c d' := by
    intro a d P1 M hd hal hpl
    rw [List.length_append, List.length_append] at hal
    have hal : a + ((if btG (x / 256) = true then [203, (if shF x 0 = 39 then vlI T N (nI h) (t + 1) 1 else vlI T N (nI h) (t + 1) 0)] else []).length + (1 + (numO (lnB x 0) (cvI T N (nI h) (t + 1) h x 0) ++ numO (lnB x 1) (cvI T N (nI h) (t + 1) h x 1)).length)) ≤ 65536 := hal
    by_cases zb : btG (x / 256) = true
    · rw [if_pos zb] at hal ⊢
      have hal : a + (2 + (1 + (numO (lnB x 0) (cvI T N (nI h) (t + 1) h x 0) ++ numO (lnB x 1) (cvI T N (nI h) (t + 1) h x 1)).length)) ≤ 65536 := hal
      obtain ⟨d1, E1, P2, M1⟩ := one 1 a d 203 P1 (by omega) M hd (by omega) (by omega)
      have hpp : (ptW 3 a (numO 1 203) P1).2.1 < 2 ^ 29 := by
        rw [pcs, numO_l (by omega)]
        omega
      obtain ⟨d2, E2, P3, M2⟩ := one 1 (a + 1) d1 (if shF x 0 = 39 then vlI T N (nI h) (t + 1) 1 else vlI T N (nI h) (t + 1) 0) _ (by omega) M1 P2 (by omega) hpp
      have hpp2 : (ptW 3 (a + 1) (numO 1 (if shF x 0 = 39 then vlI T N (nI h) (t + 1) 1 else vlI T N (nI h) (t + 1) 0)) (ptW 3 a (numO 1 203) P1)).2.1 < 2 ^ 28 + 100 := by
        rw [pcs, pcs, numO_l (by omega), numO_l (by omega)]
        omega
      obtain ⟨d3, E3, P4, M3⟩ := tail (a + 2) d2 _ M2 P3 (by omega) hpp2
      have hLd : LnC B n d1 T N ln := hLn.mod M1 (by decide) (by decide) (by decide)
      have hOd : OpsC d1 T N (nI h) (t + 1) := hO.mod M1 (by decide) (by decide)
      refine ⟨d3, fun Q hQ => ?_, ?_, M3⟩
      · unfold Forger_putInstruction_45
        rw [zb, if_neg (show ¬ kb true = 0 by decide)]
        refine E1 _ ?_
        rw [show (0 : Int32) = nI 0 from rfl, shkC hLd.2.2.2.2.1 hx h0 (by omega), nI_p1]
        have e91 : ∀ j : Nat, j < 2 → vlI T N (nI h) (t + 1) j = (if shF x 0 = 39 then vlI T N (nI h) (t + 1) 1 else vlI T N (nI h) (t + 1) 0) → Forger_putInstruction_91 (nI x) (nI (szN x)) (nI a) (kb true) (nI j) 1 (nI (a + 1)) d1 Q := by
          intro j hj hv
          unfold Forger_putInstruction_91
          rw [opvC hj, (hOd.2.1 j hj).2, hv]
          refine E2 _ (bnd_iff.mpr ?_)
          rw [nI_p2]
          have := E3 Q hQ
          rw [zb] at this
          exact this
        by_cases z39 : shF x 0 = 39
        · rw [if_pos z39]
          exact e91 1 (by omega) (by rw [if_pos z39])
        · rw [if_neg z39]
          exact e91 0 (by omega) (by rw [if_neg z39])
      · have e := ptW_app 3 [203, (if shF x 0 = 39 then vlI T N (nI h) (t + 1) 1 else vlI T N (nI h) (t + 1) 0)] ([(nI x &&& 255) ||| wiI (shF x 0) (vlI T N (nI h) (t + 1) 0)] ++ (numO (lnB x 0) (cvI T N (nI h) (t + 1) h x 0) ++ numO (lnB x 1) (cvI T N (nI h) (t + 1) h x 1))) a P1
        rw [e]
        have e2 := ptW_app 3 [203] [(if shF x 0 = 39 then vlI T N (nI h) (t + 1) 1 else vlI T N (nI h) (t + 1) 0)] a P1
        have e3 : [203, (if shF x 0 = 39 then vlI T N (nI h) (t + 1) 1 else vlI T N (nI h) (t + 1) 0)] = [203] ++ [(if shF x 0 = 39 then vlI T N (nI h) (t + 1) 1 else vlI T N (nI h) (t + 1) 0)] := rfl
        rw [e3, e2]
        exact P4
    · rw [if_neg zb] at hal ⊢
      have hal : a + (0 + (1 + (numO (lnB x 0) (cvI T N (nI h) (t + 1) h x 0) ++ numO (lnB x 1) (cvI T N (nI h) (t + 1) h x 1)).length)) ≤ 65536 := hal
      obtain ⟨d3, E3, P4, M3⟩ := tail a d P1 M hd (by omega) (by omega)
      refine ⟨d3, fun Q hQ => ?_, P4, M3⟩
      unfold Forger_putInstruction_45
      have := E3 Q hQ
      rw [Bool.eq_false_iff.mpr zb] at this ⊢
      rw [if_pos (show kb false = 0 from rfl)]
      exact this
  have start : ∀ Q : vmD → Prop, (if x / 256 = 0 then Forger_putInstruction_29 (nI x) (nI (szN x)) (nI (x / 256)) (nI h) c Q else (Forger_putNumber (nI h) 1 (lgI (x / 256)) c fun d_41 => Forger_putInstruction_29 (nI x) (nI (szN x)) (nI (x / 256)) (nI (h + 1)) d_41 Q)) → Forger_putInstruction (nI x) (nI (szN x)) c Q := by
    intro Q hQ
    unfold Forger_putInstruction
    refine bnd_iff.mpr (bnd_iff.mpr ?_)
    rw [shr8 (by omega), h11]
    have c0 : nI (x / 256) = 0 ↔ x / 256 = 0 := nI_eq (b := 0) (by omega) (by omega)
    by_cases z : x / 256 = 0
    · rw [if_pos z] at hQ
      rw [if_pos (c0.mpr z)]
      exact hQ
    · rw [if_neg z] at hQ
      rw [if_neg (fun q => z (c0.mp q)), ledC hg8]
      simp only [bnd_iff, nI_p1]
      exact hQ
  have hM0 : ModC PF [2] [] c c := ModC.refl _ _ _ _
  by_cases z : x / 256 = 0
  · rw [if_pos z] at hlen ⊢
    rw [List.nil_append]
    obtain ⟨d, E, P', M⟩ := mid h c P hM0 hP (by rw [List.length_append, List.length_append]; have hlen : 0 + _ = szN x := hlen; unfold lnB; omega) (by omega)
    refine ⟨d, fun Q hQ => start Q ?_, P', M⟩
    rw [if_pos z]
    exact e45 h c Q (E Q hQ)
  · rw [if_neg z] at hlen ⊢
    obtain ⟨d1, E1, P2, M1⟩ := one 1 h c (lgI (x / 256)) P (by omega) hM0 hP (by have hlen : 1 + _ = szN x := hlen; omega) (by omega)
    have hpp : (ptW 3 h (numO 1 (lgI (x / 256))) P).2.1 < 2 ^ 28 + 50 := by
      rw [pcs, numO_l (by omega)]
      omega
    obtain ⟨d, E, P', M⟩ := mid (h + 1) d1 _ M1 P2 (by rw [List.length_append, List.length_append]; have hlen : 1 + _ = szN x := hlen; unfold lnB; omega) hpp
    refine ⟨d, fun Q hQ => start Q ?_, ?_, M⟩
    · rw [if_neg z]
      exact E1 _ (e45 (h + 1) d1 Q (E Q hQ))
    · rw [ptW_app]
      exact P'
