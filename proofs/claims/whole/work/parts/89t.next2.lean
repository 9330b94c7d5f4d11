/-! The reference's next, whole -/
theorem next72 {B : Nat → Nat} {n : Nat} (h : SrcOk B n) (Q : vmD → Prop) : ∀ p, p ≤ n → ∀ (r : vmD), SrcR B n r → gF r 42 4 = nI p → (∀ r', ModR LF [] r r' → (∀ f, ¬ f = 4 → gF r' 42 f = gF r 42 f) → gG r' = gG r → gF r' 42 4 = nI (sc nlB B n p) → MO_next_321 r' Q) → ∃ m, MO_next_72 Q m r := by
  have hn := h.1
  refine sc_ind (P := nlB) (B := B) (n := n) _ (fun p hp e => ?_) (fun p hp e ih => ?_)
  · intro r hr h4 hQ
    rw [sc_no e] at hQ
    have e10 : byR B n p = 10 := by
      by_cases z : p < n
      · rw [byR_in z]
        exact nl_f _ (e.resolve_left (by omega))
      · exact byR_out (by omega)
    refine ⟨1, ?_⟩
    unfold MO_next_72
    rw [h4, atR h hr (by omega), e10, if_pos (show nI 10 = 10 from rfl)]
    exact hQ r (ModR.refl _ _ _) (fun _ _ => rfl) rfl h4
  · intro r hr h4 hQ
    rw [sc_yes hp e] at hQ
    have e10 := nl_t _ e
    have M := (ModR.refl LF [] r).sF (f := 4) (by decide) (nI (p + 1))
    obtain ⟨m, hm⟩ := ih (sF r 42 4 (nI (p + 1))) (hr.mod M (by decide) (by decide)) (by rw [gF_sF, u1f_eq]) (fun r' m1 m2 m3 m4 => hQ r' (M.trans m1) (fun f hf => by rw [m2 f hf, gF_sF, u1f_ne _ _ hf]) m3 m4)
    refine ⟨m + 1, ?_⟩
    unfold MO_next_72
    rw [h4, atR h hr (by omega), byR_in hp, if_neg (show ¬ nI (B p) = 10 from fun z => e10 ((nI_e (h.2 p) (show 10 < 256 by omega)).mp z))]
    refine bnd_iff.mpr ?_
    rw [h4, nI_p1]
    exact hm
def NxOk (r : vmD) (q : Nat) (t : Nat × Nat × Nat) (M : (vmD → Prop) → Prop) : Prop := ∃ r', (∀ Q : vmD → Prop, Q r' → M Q) ∧ ModR LF [] r r' ∧ gF r' 42 3 = rkd t.1 ∧ gF r' 42 4 = nI q ∧ gF r' 42 2 = nI (if t.1 ≤ 1 then q else t.2.1) ∧ (t.1 = 3 → gF r' 42 6 = nI t.2.2) ∧ (4 < t.1 → gF r' 42 6 = rvl t.1) ∧ gG r' 42 7 = (if t.1 = 2 then wOfK t.2.2 else 0)
theorem quoR {B : Nat → Nat} {n : Nat} (h : SrcOk B n) {r : vmD} (hr : SrcR B n r) {q : Nat} (hq : q < n) (h2 : gF r 42 2 = nI q) (h3 : gF r 42 3 = 0) (h4 : gF r 42 4 = nI q) (h7 : gG r 42 7 = 0) : NxOk r q (quoK B n q) (fun Q => MO_byteAt ((gF r 42 2) + 1) r fun r_31 d_30 => if r_31 < 32 then (Q d_30) else (if (126 : Int32) < r_31 then (Q d_30) else (MO_byteAt ((gF d_30 42 2) + 2) d_30 fun r_35 d_34 => if r_35 = 39 then (bnd (sF d_34 42 3 3) fun d_37 => bnd (sF d_37 42 6 r_31) fun d_38 => bnd (sF d_38 42 2 ((gF d_38 42 2) + 3)) fun d_39 => Q d_39) else (Q d_34)))) := by
  have hn := h.1
  have hb1 := byR_lt h (q + 1)
  have hb2 := byR_lt h (q + 2)
  have bad : ∀ M : (vmD → Prop) → Prop, (∀ Q, Q r → M Q) → NxOk r q (1, q, 0) M := fun M hM => ⟨r, hM, ModR.refl _ _ _, h3, h4, h2, fun z => absurd z (show ¬ (1 : Nat) = 3 by decide), fun z => absurd z (show ¬ 4 < 1 by decide), h7⟩
  unfold quoK
  by_cases c : 32 ≤ byR B n (q + 1) ∧ byR B n (q + 1) ≤ 126 ∧ byR B n (q + 2) = 39
  · rw [if_pos c]
    refine ⟨_, fun Q hQ => ?_, (((ModR.refl LF [] r).sF (f := 3) (by decide) 3).sF (f := 6) (by decide) (nI (byR B n (q + 1)))).sF (f := 2) (by decide) (nI (q + 3)), ?_, ?_, ?_, fun _ => ?_, fun z => absurd z (show ¬ 4 < 3 by decide), ?_⟩
    · dsimp only
      rw [h2, nI_p1, atR h hr (by omega), if_neg (show ¬ nI (byR B n (q + 1)) < 32 from nI_nlt (b := 32) c.1 (by omega)), if_neg (show ¬ (126 : Int32) < nI (byR B n (q + 1)) from nI_nlt (a := 126) c.2.1 (by omega)), h2, nI_p2, atR h hr (by omega), c.2.2, if_pos (show nI 39 = 39 from rfl)]
      refine bnd_iff.mpr (bnd_iff.mpr (bnd_iff.mpr ?_))
      rw [gF_sF, u1f_ne _ _ (by decide), gF_sF, u1f_ne _ _ (by decide), h2, nI_p3]
      exact hQ
    · rw [gF_sF, u1f_ne _ _ (by decide), gF_sF, u1f_ne _ _ (by decide), gF_sF, u1f_eq]
      rfl
    · rw [gF_sF, u1f_ne _ _ (by decide), gF_sF, u1f_ne _ _ (by decide), gF_sF, u1f_ne _ _ (by decide), h4]
    · rw [gF_sF, u1f_eq]
      rfl
    · rw [gF_sF, u1f_ne _ _ (by decide), gF_sF, u1f_eq]
    · exact h7
  · rw [if_neg c]
    refine bad _ (fun Q hQ => ?_)
    rw [h2, nI_p1, atR h hr (by omega)]
    by_cases c1 : byR B n (q + 1) < 32
    · rw [if_pos (show nI (byR B n (q + 1)) < 32 from nI_lt (b := 32) c1 (by omega))]
      exact hQ
    · rw [if_neg (show ¬ nI (byR B n (q + 1)) < 32 from nI_nlt (b := 32) (by omega) (by omega))]
      by_cases c2 : 126 < byR B n (q + 1)
      · rw [if_pos (show (126 : Int32) < nI (byR B n (q + 1)) from nI_lt (a := 126) c2 (by omega))]
        exact hQ
      · rw [if_neg (show ¬ (126 : Int32) < nI (byR B n (q + 1)) from nI_nlt (a := 126) (by omega) (by omega)), h2, nI_p2, atR h hr (by omega), if_neg (show ¬ nI (byR B n (q + 2)) = 39 from fun z => c ⟨by omega, by omega, (nI_e hb2 (show 39 < 256 by omega)).mp z⟩)]
        exact hQ
theorem texR {B : Nat → Nat} {n : Nat} (h : SrcOk B n) {r : vmD} (hr : SrcR B n r) {q : Nat} (hq : q < n) (h2 : gF r 42 2 = nI q) (h3 : gF r 42 3 = 0) (h4 : gF r 42 4 = nI q) (h7 : gG r 42 7 = 0) : ∃ r', (∀ Q : vmD → Prop, MO_next_321 r' Q → ∃ m, MO_next_255 Q m (nI (q + 1)) r) ∧ ModR LF [] r r' ∧ gF r' 42 3 = rkd (texK B n q).1 ∧ gF r' 42 4 = nI q ∧ gF r' 42 2 = nI (if (texK B n q).1 ≤ 1 then q else (texK B n q).2.1) ∧ ((texK B n q).1 = 3 → gF r' 42 6 = nI (texK B n q).2.2) ∧ (4 < (texK B n q).1 → gF r' 42 6 = rvl (texK B n q).1) ∧ gG r' 42 7 = (if (texK B n q).1 = 2 then wOfK (texK B n q).2.2 else 0) := by
  have hn := h.1
  have hle : q + 1 ≤ n := by omega
  have hs := sc_le (P := txtB) (B := B) hle
  have loop : ∀ Q : vmD → Prop, MO_next_291 (nI (sc txtB B n (q + 1))) r Q → ∃ m, MO_next_255 Q m (nI (q + 1)) r := by
    intro Q hQ
    refine sc_ind (P := txtB) (B := B) (n := n) (fun p => sc txtB B n p = sc txtB B n (q + 1) → ∃ m, MO_next_255 Q m (nI p) r) (fun p hp e => ?_) (fun p hp e ih => ?_) (q + 1) hle rfl
    · intro hsp
      rw [sc_no e] at hsp
      rw [← hsp] at hQ
      have hb := byR_lt h p
      refine ⟨1, ?_⟩
      unfold MO_next_255
      rw [atR h hr (by omega)]
      by_cases c1 : byR B n p < 32
      · rw [if_pos (show nI (byR B n p) < 32 from nI_lt (b := 32) c1 (by omega))]
        exact hQ
      · rw [if_neg (show ¬ nI (byR B n p) < 32 from nI_nlt (b := 32) (by omega) (by omega)), atR h hr (by omega)]
        by_cases c2 : 126 < byR B n p
        · rw [if_pos (show (126 : Int32) < nI (byR B n p) from nI_lt (a := 126) c2 (by omega))]
          exact hQ
        · rw [if_neg (show ¬ (126 : Int32) < nI (byR B n p) from nI_nlt (a := 126) (by omega) (by omega)), atR h hr (by omega)]
          have e34 : byR B n p = 34 := by
            by_cases z : p < n
            · have e2 := e.resolve_left (by omega)
              rw [byR_in z] at c1 c2 ⊢
              unfold txtB at e2
              simp only [Bool.and_eq_false_iff, decide_eq_false_iff_not, Bool.not_eq_false', decide_eq_true_eq] at e2
              omega
            · rw [byR_out (by omega)] at c1
              omega
          rw [if_pos (show nI (byR B n p) = 34 by rw [e34]; rfl)]
          exact hQ
    · intro hsp
      rw [sc_yes hp e] at hsp
      obtain ⟨m, hm⟩ := ih hsp
      have hb := h.2 p
      have e2 := e
      unfold txtB at e2
      simp only [Bool.and_eq_true, decide_eq_true_eq, Bool.not_eq_true', decide_eq_false_iff_not] at e2
      refine ⟨m + 1, ?_⟩
      unfold MO_next_255
      rw [atR h hr (by omega), byR_in hp, if_neg (show ¬ nI (B p) < 32 from nI_nlt (b := 32) e2.1 (by omega)), atR h hr (by omega), byR_in hp, if_neg (show ¬ (126 : Int32) < nI (B p) from nI_nlt (a := 126) e2.2.1 (by omega)), atR h hr (by omega), byR_in hp, if_neg (show ¬ nI (B p) = 34 from fun z => e2.2.2 ((nI_e hb (show 34 < 256 by omega)).mp z))]
      refine bnd_iff.mpr ?_
      rw [nI_p1]
      exact hm
  unfold texK
  by_cases c : byR B n (sc txtB B n (q + 1)) = 34
  · rw [if_pos c]
    refine ⟨_, fun Q hQ => loop Q ?_, ((ModR.refl LF [] r).sF (f := 3) (by decide) 4).sF (f := 2) (by decide) (nI (sc txtB B n (q + 1) + 1)), ?_, ?_, ?_, fun z => absurd z (show ¬ (4 : Nat) = 3 by decide), fun z => absurd z (show ¬ 4 < 4 by decide), ?_⟩
    · unfold MO_next_291
      rw [atR h hr (by omega), c, if_pos (show nI 34 = 34 from rfl)]
      refine bnd_iff.mpr (bnd_iff.mpr ?_)
      rw [nI_p1]
      exact hQ
    · rw [gF_sF, u1f_ne _ _ (by decide), gF_sF, u1f_eq]
      rfl
    · rw [gF_sF, u1f_ne _ _ (by decide), gF_sF, u1f_ne _ _ (by decide), h4]
    · rw [gF_sF, u1f_eq]
      rfl
    · exact h7
  · rw [if_neg c]
    refine ⟨r, fun Q hQ => loop Q ?_, ModR.refl _ _ _, h3, h4, h2, fun z => absurd z (show ¬ (1 : Nat) = 3 by decide), fun z => absurd z (show ¬ 4 < 1 by decide), h7⟩
    unfold MO_next_291
    rw [atR h hr (by omega), if_neg (show ¬ nI (byR B n (sc txtB B n (q + 1))) = 34 from fun z => c ((nI_e (byR_lt h _) (show 34 < 256 by omega)).mp z))]
    exact hQ
def sgK (B : Nat → Nat) (n q : Nat) : Nat × Nat × Nat := if byR B n q = 60 ∨ byR B n q = 62 then (if byR B n (q + 1) = byR B n q then (byR B n q, q + 2, 0) else (1, q, 0)) else if sgnB (byR B n q) = true then (byR B n q, q + 1, 0) else (1, q, 0)
theorem sg63 : ∀ b, b < 256 → ∀ (d : vmD) (Q : vmD → Prop), (if sgnB b = true then MO_readSign_141 (nI b) d Q else MO_readSign_146 (nI b) 0 d Q) → MO_readSign_63 (nI b) d Q := by
  intro b hb d Q hQ
  have e : ∀ m, m < 256 → (nI b = nI m ↔ b = m) := fun m hm => nI_e hb hm
  unfold MO_readSign_63
  have e40 : nI b = 40 ↔ b = 40 := e 40 (by omega)
  have e41 : nI b = 41 ↔ b = 41 := e 41 (by omega)
  have e44 : nI b = 44 ↔ b = 44 := e 44 (by omega)
  have e58 : nI b = 58 ↔ b = 58 := e 58 (by omega)
  have e43 : nI b = 43 ↔ b = 43 := e 43 (by omega)
  have e45 : nI b = 45 ↔ b = 45 := e 45 (by omega)
  have e42 : nI b = 42 ↔ b = 42 := e 42 (by omega)
  have e47 : nI b = 47 ↔ b = 47 := e 47 (by omega)
  have e38 : nI b = 38 ↔ b = 38 := e 38 (by omega)
  have e124 : nI b = 124 ↔ b = 124 := e 124 (by omega)
  have e94 : nI b = 94 ↔ b = 94 := e 94 (by omega)
  have e126 : nI b = 126 ↔ b = 126 := e 126 (by omega)
  have e64 : nI b = 64 ↔ b = 64 := e 64 (by omega)
  have hs : sgnB b = true ↔ b = 40 ∨ b = 41 ∨ b = 44 ∨ b = 58 ∨ b = 43 ∨ b = 45 ∨ b = 42 ∨ b = 47 ∨ b = 38 ∨ b = 124 ∨ b = 94 ∨ b = 126 ∨ b = 64 := by
    unfold sgnB
    simp only [Bool.or_eq_true, decide_eq_true_eq, or_assoc]
  simp only [e40, e41, e44, e58, e43, e45, e42, e47, e38, e124, e94, e126, e64]
  by_cases s : sgnB b = true
  · rw [if_pos s] at hQ
    rcases hs.mp s with z | z | z | z | z | z | z | z | z | z | z | z | z <;> (subst z; simpa using hQ)
  · rw [if_neg s] at hQ
    have n2 : ¬ (b = 40 ∨ b = 41 ∨ b = 44 ∨ b = 58 ∨ b = 43 ∨ b = 45 ∨ b = 42 ∨ b = 47 ∨ b = 38 ∨ b = 124 ∨ b = 94 ∨ b = 126 ∨ b = 64) := fun z => s (hs.mpr z)
    simp only [not_or] at n2
    obtain ⟨a1, a2, a3, a4, a5, a6, a7, a8, a9, a10, a11, a12, a13⟩ := n2
    simp only [a1, a2, a3, a4, a5, a6, a7, a8, a9, a10, a11, a12, a13, if_false]
    exact hQ
theorem sgR {B : Nat → Nat} {n : Nat} (h : SrcOk B n) {r : vmD} (hr : SrcR B n r) {q : Nat} (hq : q < n) (h2 : gF r 42 2 = nI q) (h3 : gF r 42 3 = 0) (h4 : gF r 42 4 = nI q) (h7 : gG r 42 7 = 0) : NxOk r q (sgK B n q) (MO_readSign (nI (byR B n q)) r) := by
  have hn := h.1
  have hb := byR_lt h q
  have hb1 := byR_lt h (q + 1)
  have bad : ∀ M : (vmD → Prop) → Prop, (∀ Q, Q r → M Q) → NxOk r q (1, q, 0) M := fun M hM => ⟨r, hM, ModR.refl _ _ _, h3, h4, h2, fun z => absurd z (show ¬ (1 : Nat) = 3 by decide), fun z => absurd z (show ¬ 4 < 1 by decide), h7⟩
  have start : ∀ Q, (if byR B n q = 60 ∨ byR B n q = 62 then MO_readSign_23 (nI (byR B n q)) (nI (byR B n (q + 1))) r Q else MO_readSign_63 (nI (byR B n q)) r Q) → MO_readSign (nI (byR B n q)) r Q := by
    intro Q hQ
    unfold MO_readSign
    rw [h2, nI_p1, atR h hr (by omega)]
    by_cases c1 : byR B n q = 60
    · rw [if_pos (Or.inl c1)] at hQ
      rw [if_pos (show nI (byR B n q) = 60 by rw [c1]; rfl)]
      exact hQ
    · rw [if_neg (show ¬ nI (byR B n q) = 60 from fun z => c1 ((nI_e hb (show 60 < 256 by omega)).mp z))]
      by_cases c2 : byR B n q = 62
      · rw [if_pos (Or.inr c2)] at hQ
        rw [if_pos (show nI (byR B n q) = 62 by rw [c2]; rfl)]
        exact hQ
      · rw [if_neg (show ¬ (byR B n q = 60 ∨ byR B n q = 62) from fun z => z.elim c1 c2)] at hQ
        rw [if_neg (show ¬ nI (byR B n q) = 62 from fun z => c2 ((nI_e hb (show 62 < 256 by omega)).mp z))]
        exact hQ
  unfold sgK
  by_cases c : byR B n q = 60 ∨ byR B n q = 62
  · simp only [if_pos c] at start ⊢
    by_cases c2 : byR B n (q + 1) = byR B n q
    · rw [if_pos c2]
      have k4 : 4 < byR B n q := by omega
      refine ⟨_, fun Q hQ => start Q ?_, (((ModR.refl LF [] r).sF (f := 3) (by decide) 5).sF (f := 6) (by decide) (rvl (byR B n q))).sF (f := 2) (by decide) (nI (q + 2)), ?_, ?_, ?_, fun z => absurd z (show ¬ byR B n q = 3 by omega), fun _ => ?_, ?_⟩
      · unfold MO_readSign_23 MO_readSign_49
        rw [c2, if_pos rfl]
        refine bnd_iff.mpr ?_
        rcases c with e | e
        · rw [e] at hQ ⊢
          rw [if_pos (show nI 60 = 60 from rfl)]
          refine bnd_iff.mpr (bnd_iff.mpr ?_)
          rw [gF_sF, u1f_ne _ _ (by decide), gF_sF, u1f_ne _ _ (by decide), h2, nI_p2]
          exact hQ
        · rw [e] at hQ ⊢
          rw [if_neg (show ¬ nI 62 = 60 by decide)]
          refine bnd_iff.mpr (bnd_iff.mpr ?_)
          rw [gF_sF, u1f_ne _ _ (by decide), gF_sF, u1f_ne _ _ (by decide), h2, nI_p2]
          exact hQ
      · rw [gF_sF, u1f_ne _ _ (by decide), gF_sF, u1f_ne _ _ (by decide), gF_sF, u1f_eq]
        show (5 : Int32) = rkd (byR B n q)
        unfold rkd
        rw [if_neg (by omega), if_neg (by omega), if_neg (by omega), if_neg (by omega), if_neg (by omega)]
      · rw [gF_sF, u1f_ne _ _ (by decide), gF_sF, u1f_ne _ _ (by decide), gF_sF, u1f_ne _ _ (by decide), h4]
      · rw [gF_sF, u1f_eq]
        show _ = nI (if byR B n q ≤ 1 then q else q + 2)
        rw [if_neg (by omega)]
      · rw [gF_sF, u1f_ne _ _ (by decide), gF_sF, u1f_eq]
      · show gG r 42 7 = if byR B n q = 2 then _ else 0
        rw [if_neg (by omega), h7]
    · rw [if_neg c2]
      refine bad _ (fun Q hQ => start Q ?_)
      unfold MO_readSign_23
      rw [if_neg (show ¬ nI (byR B n (q + 1)) = nI (byR B n q) from fun z => c2 ((nI_e hb1 hb).mp z))]
      refine sg63 _ hb r Q ?_
      have : ¬ sgnB (byR B n q) = true := by
        intro z
        have := sg_ne _ hb z
        omega
      rw [if_neg this]
      unfold MO_readSign_146
      rw [if_pos rfl]
      exact hQ
  · simp only [if_neg c] at start ⊢
    by_cases s : sgnB (byR B n q) = true
    · rw [if_pos s]
      have k4 : ∀ b, b < 256 → sgnB b = true → 4 < b := by decide +kernel
      have k4 := k4 _ hb s
      have ev : rvl (byR B n q) = nI (byR B n q) := by
        unfold rvl
        rw [if_neg (by omega), if_neg (by omega)]
      refine ⟨_, fun Q hQ => start Q (sg63 _ hb r Q ?_), (((ModR.refl LF [] r).sF (f := 3) (by decide) 5).sF (f := 6) (by decide) (nI (byR B n q))).sF (f := 2) (by decide) (nI (q + 1)), ?_, ?_, ?_, fun z => absurd z (show ¬ byR B n q = 3 by omega), fun _ => ?_, ?_⟩
      · rw [if_pos s]
        unfold MO_readSign_141 MO_readSign_146
        rw [if_neg (by decide)]
        refine bnd_iff.mpr (bnd_iff.mpr (bnd_iff.mpr ?_))
        rw [gF_sF, u1f_ne _ _ (by decide), gF_sF, u1f_ne _ _ (by decide), h2, nI_p1]
        exact hQ
      · rw [gF_sF, u1f_ne _ _ (by decide), gF_sF, u1f_ne _ _ (by decide), gF_sF, u1f_eq]
        show (5 : Int32) = rkd (byR B n q)
        unfold rkd
        rw [if_neg (by omega), if_neg (by omega), if_neg (by omega), if_neg (by omega), if_neg (by omega)]
      · rw [gF_sF, u1f_ne _ _ (by decide), gF_sF, u1f_ne _ _ (by decide), gF_sF, u1f_ne _ _ (by decide), h4]
      · rw [gF_sF, u1f_eq]
        show _ = nI (if byR B n q ≤ 1 then q else q + 1)
        rw [if_neg (by omega)]
      · rw [gF_sF, u1f_ne _ _ (by decide), gF_sF, u1f_eq]
        exact ev.symm
      · show gG r 42 7 = if byR B n q = 2 then _ else 0
        rw [if_neg (by omega), h7]
    · rw [if_neg s]
      refine bad _ (fun Q hQ => start Q (sg63 _ hb r Q ?_))
      rw [if_neg s]
      unfold MO_readSign_146
      rw [if_pos rfl]
      exact hQ
/-- the next token -/
theorem nextR {B : Nat → Nat} {n : Nat} (h : SrcOk B n) : ∀ p, p ≤ n → ∀ (r : vmD), SrcR B n r → gF r 42 2 = nI p → ∃ r', (∀ Q : vmD → Prop, Q r' → ∃ m, MO_next_0 Q m r) ∧ CurR r' (tkA B n p) ∧ ModR LF [] r r' := by
  have hn := h.1
  refine sc_ind (P := blk) (B := B) (n := n) _ (fun q hq e => ?_) (fun p hp e ih => ?_)
  · intro r hr h2
    have hb := byR_lt h q
    have hsc : sc blk B n q = q := sc_no e
    have hbl : blk (byR B n q) = false := by
      by_cases z : q < n
      · rw [byR_in z]
        exact e.resolve_left (by omega)
      · rw [byR_out (by omega)]
        decide
    obtain ⟨r1, hr1⟩ : ∃ r1 : vmD, r1 = sG (sF (sF r 42 4 (nI q)) 42 3 0) 42 7 0 := ⟨_, rfl⟩
    have M1 : ModR LF [] r r1 := by
      rw [hr1]
      exact (((ModR.refl LF [] r).sF (f := 4) (by decide) _).sF (f := 3) (by decide) _).sG _
    have S1 := hr.mod M1 (by decide) (by decide)
    have f2 : gF r1 42 2 = nI q := by rw [hr1, gF_sG, gF_sF, u1f_ne _ _ (by decide), gF_sF, u1f_ne _ _ (by decide), h2]
    have f3 : gF r1 42 3 = 0 := by rw [hr1, gF_sG, gF_sF, u1f_eq]
    have f4 : gF r1 42 4 = nI q := by rw [hr1, gF_sG, gF_sF, u1f_ne _ _ (by decide), gF_sF, u1f_eq]
    have f7 : gG r1 42 7 = 0 := by rw [hr1, gG_sGe, u1f_eq]
    have start : ∀ Q, (if nI (byR B n q) = 10 then MO_next_67 r1 Q else if nI (byR B n q) = 59 then MO_next_67 r1 Q else MO_isStart (nI (byR B n q)) r1 fun r_20 d_19 => if r_20 = 0 then (MO_isDigit (nI (byR B n q)) d_19 fun r_23 d_22 => if r_23 = 0 then (if nI (byR B n q) = 36 then (MO_digits 16 ((gF d_22 42 2) + 1) d_22 fun d_26 => MO_next_321 d_26 Q) else (if nI (byR B n q) = 37 then (MO_digits 2 ((gF d_22 42 2) + 1) d_22 fun d_28 => MO_next_321 d_28 Q) else (if nI (byR B n q) = 39 then (MO_byteAt ((gF d_22 42 2) + 1) d_22 fun r_31 d_30 => if r_31 < 32 then (MO_next_239 d_30 Q) else (if (126 : Int32) < r_31 then (MO_next_239 d_30 Q) else (MO_byteAt ((gF d_30 42 2) + 2) d_30 fun r_35 d_34 => if r_35 = 39 then (bnd (sF d_34 42 3 3) fun d_37 => bnd (sF d_37 42 6 r_31) fun d_38 => bnd (sF d_38 42 2 ((gF d_38 42 2) + 3)) fun d_39 => MO_next_239 d_39 Q) else (MO_next_239 d_34 Q)))) else (if nI (byR B n q) = 34 then (bnd ((gF d_22 42 2) + 1) fun x2_41 => ∃ m255, MO_next_255 Q m255 x2_41 d_22) else (MO_readSign (nI (byR B n q)) d_22 fun d_57 => MO_next_321 d_57 Q))))) else (MO_digits 10 (gF d_22 42 2) d_22 fun d_58 => MO_next_321 d_58 Q)) else (MO_name d_19 fun d_59 => MO_next_321 d_59 Q)) → ∃ m, MO_next_0 Q m r := by
      intro Q hQ
      refine ⟨1, ?_⟩
      unfold MO_next_0
      rw [h2, atR h hr (by omega), MO_isBlank_e, blR_b _ hb, hbl, if_neg Bool.false_ne_true, if_pos rfl]
      refine bnd_iff.mpr ?_
      have M0 := (ModR.refl LF [] r).sF (f := 4) (by decide) (nI q)
      rw [gF_sF, u1f_ne _ _ (by decide), h2, atR h (hr.mod M0 (by decide) (by decide)) (by omega)]
      refine bnd_iff.mpr (bnd_iff.mpr ?_)
      rw [← hr1]
      exact hQ
    have done : ∀ (r' : vmD) (kd nx vl : Nat), ModR LF [] r1 r' → gF r' 42 3 = rkd kd → gF r' 42 4 = nI (if kd = 0 then sc nlB B n q else q) → gF r' 42 2 = nI (if kd ≤ 1 then q else nx) → (kd = 3 → gF r' 42 6 = nI vl) → (4 < kd → gF r' 42 6 = rvl kd) → gG r' 42 7 = (if kd = 2 then wOfK vl else 0) → tokF B n q = (kd, nx, vl) → CurR (sF r' 42 5 (gF r' 42 2)) (tkA B n q) ∧ ModR LF [] r (sF r' 42 5 (gF r' 42 2)) := by
      intro r' kd nx vl m g3 g4 g2 g6 g6' g7 ht
      refine ⟨?_, (M1.trans m).sF (by decide) _⟩
      have et : tkA B n q = (kd, (if kd = 0 then sc nlB B n q else q), (if kd ≤ 1 then q else nx), vl) := by
        unfold tkA
        rw [hsc, ht]
      rw [et]
      refine ⟨?_, ?_, ?_, ?_, fun z => ?_, fun z => ?_, ?_⟩
      · rw [gF_sF, u1f_ne _ _ (by decide), g3]
      · rw [gF_sF, u1f_ne _ _ (by decide), g4]
      · rw [gF_sF, u1f_ne _ _ (by decide), g2]
      · rw [gF_sF, u1f_eq, g2]
      · rw [gF_sF, u1f_ne _ _ (by decide)]
        exact g6 z
      · rw [gF_sF, u1f_ne _ _ (by decide)]
        exact g6' z
      · exact g7
    have k321 : ∀ (r' : vmD) (Q : vmD → Prop), Q (sF r' 42 5 (gF r' 42 2)) → MO_next_321 r' Q := by
      intro r' Q hQ
      unfold MO_next_321
      exact bnd_iff.mpr hQ
    have ne : ∀ (m : Nat) (M : Int32), M = nI m → m < 256 → ¬ byR B n q = m → ¬ nI (byR B n q) = M := fun m M hM hm z w => z ((nI_e hb hm).mp (w.trans hM))
    by_cases c1 : byR B n q = 10 ∨ byR B n q = 59
    · have ht : tokF B n q = (0, q, 0) := by
        unfold tokF
        rw [if_pos c1]
      have M2 := (ModR.refl LF [] r1).sF (f := 3) (by decide) 1
      obtain ⟨r', hr'⟩ : ∃ r' : vmD, r' = sF (sF r1 42 3 1) 42 4 (nI (sc nlB B n q)) := ⟨_, rfl⟩
      have M3 : ModR LF [] r1 r' := by
        rw [hr']
        exact M2.sF (f := 4) (by decide) _
      have g3 : gF r' 42 3 = rkd 0 := by
        rw [hr', gF_sF, u1f_ne _ _ (by decide), gF_sF, u1f_eq]
        rfl
      have g4 : gF r' 42 4 = nI (if (0 : Nat) = 0 then sc nlB B n q else q) := by
        rw [hr', gF_sF, u1f_eq]
        rfl
      have g2 : gF r' 42 2 = nI (if (0 : Nat) ≤ 1 then q else q) := by
        rw [hr', gF_sF, u1f_ne _ _ (by decide), gF_sF, u1f_ne _ _ (by decide), f2]
        rfl
      have g7 : gG r' 42 7 = (if (0 : Nat) = 2 then wOfK 0 else 0) := by
        rw [hr']
        exact f7
      obtain ⟨d1, d2⟩ := done r' 0 q 0 M3 g3 g4 g2 (fun z => absurd z (by decide)) (fun z => absurd z (by decide)) g7 ht
      refine ⟨_, fun Q hQ => start Q ?_, d1, d2⟩
      have h67 : MO_next_67 r1 Q := by
        unfold MO_next_67
        refine bnd_iff.mpr ?_
        refine next72 h Q q hq (sF r1 42 3 1) (S1.mod M2 (by decide) (by decide)) (by rw [gF_sF, u1f_ne _ _ (by decide), f4]) (fun r'' m1 m2 m3 m4 => ?_)
        have es : r'' = r' := by
          rw [hr']
          refine D_ext (fun o => ?_) (fun o => by rw [m3]; rfl) (fun o => by rw [m1.2.2.1 o (by simp)]; rfl) (fun o => by rw [m1.2.2.2.1]; rfl)
          by_cases z : o = 42
          · subst z
            rw [gF_sF]
            funext f
            by_cases z2 : f = 4
            · subst z2
              rw [u1f_eq, m4]
            · rw [u1f_ne _ _ z2, m2 f z2]
          · rw [gF_sF_ne _ _ _ z, m1.1 o z]
        rw [es]
        exact k321 _ _ hQ
      rcases c1 with z | z
      · rw [if_pos (show nI (byR B n q) = 10 by rw [z]; rfl)]
        exact h67
      · rw [if_neg (ne 10 10 rfl (by omega) (by omega)), if_pos (show nI (byR B n q) = 59 by rw [z]; rfl)]
        exact h67
    have hqn : q < n := in_of (fun z => c1 (Or.inl z))
    have start2 : ∀ Q, (MO_isStart (nI (byR B n q)) r1 fun r_20 d_19 => if r_20 = 0 then (MO_isDigit (nI (byR B n q)) d_19 fun r_23 d_22 => if r_23 = 0 then (if nI (byR B n q) = 36 then (MO_digits 16 ((gF d_22 42 2) + 1) d_22 fun d_26 => MO_next_321 d_26 Q) else (if nI (byR B n q) = 37 then (MO_digits 2 ((gF d_22 42 2) + 1) d_22 fun d_28 => MO_next_321 d_28 Q) else (if nI (byR B n q) = 39 then (MO_byteAt ((gF d_22 42 2) + 1) d_22 fun r_31 d_30 => if r_31 < 32 then (MO_next_239 d_30 Q) else (if (126 : Int32) < r_31 then (MO_next_239 d_30 Q) else (MO_byteAt ((gF d_30 42 2) + 2) d_30 fun r_35 d_34 => if r_35 = 39 then (bnd (sF d_34 42 3 3) fun d_37 => bnd (sF d_37 42 6 r_31) fun d_38 => bnd (sF d_38 42 2 ((gF d_38 42 2) + 3)) fun d_39 => MO_next_239 d_39 Q) else (MO_next_239 d_34 Q)))) else (if nI (byR B n q) = 34 then (bnd ((gF d_22 42 2) + 1) fun x2_41 => ∃ m255, MO_next_255 Q m255 x2_41 d_22) else (MO_readSign (nI (byR B n q)) d_22 fun d_57 => MO_next_321 d_57 Q))))) else (MO_digits 10 (gF d_22 42 2) d_22 fun d_58 => MO_next_321 d_58 Q)) else (MO_name d_19 fun d_59 => MO_next_321 d_59 Q)) → ∃ m, MO_next_0 Q m r := by
      intro Q hQ
      refine start Q ?_
      rw [if_neg (ne 10 10 rfl (by omega) (by omega)), if_neg (ne 59 59 rfl (by omega) (by omega))]
      exact hQ
    have k1 : ∀ x : Nat, x = 1 ∨ x = 2 → ¬ x = 0 := by omega
    have k3 : ∀ x : Nat, x = 1 ∨ x = 3 → ¬ x = 0 ∧ ¬ x = 2 ∧ ¬ 4 < x := by omega
    have k4 : ∀ x : Nat, x = 1 ∨ x = 4 → ¬ x = 0 := by omega
    have pl : ∀ kd : Nat, ¬ kd = 0 → nI q = nI (if kd = 0 then sc nlB B n q else q) := fun kd z => by rw [if_neg z]
    by_cases c2 : isS (byR B n q) = true
    · have ht : tokF B n q = nameK B n q := by
        unfold tokF
        rw [if_neg c1, if_pos c2]
      obtain ⟨r', E, m, g3, g4, g2, g7⟩ := nameR h S1 hqn c2 f2 f3 f4 f7
      have kk := nameK_1 B n q
      obtain ⟨d1, d2⟩ := done r' _ _ _ m g3 (g4.trans (pl _ (k1 _ kk))) g2 (fun z => by omega) (fun z => by omega) g7 ht
      refine ⟨_, fun Q hQ => start2 Q ?_, d1, d2⟩
      rw [sta_e, sta_b _ hb, if_pos c2, if_neg (by decide)]
      exact E _ (k321 _ _ hQ)
    have start3 : ∀ Q, (MO_isDigit (nI (byR B n q)) r1 fun r_23 d_22 => if r_23 = 0 then (if nI (byR B n q) = 36 then (MO_digits 16 ((gF d_22 42 2) + 1) d_22 fun d_26 => MO_next_321 d_26 Q) else (if nI (byR B n q) = 37 then (MO_digits 2 ((gF d_22 42 2) + 1) d_22 fun d_28 => MO_next_321 d_28 Q) else (if nI (byR B n q) = 39 then (MO_byteAt ((gF d_22 42 2) + 1) d_22 fun r_31 d_30 => if r_31 < 32 then (MO_next_239 d_30 Q) else (if (126 : Int32) < r_31 then (MO_next_239 d_30 Q) else (MO_byteAt ((gF d_30 42 2) + 2) d_30 fun r_35 d_34 => if r_35 = 39 then (bnd (sF d_34 42 3 3) fun d_37 => bnd (sF d_37 42 6 r_31) fun d_38 => bnd (sF d_38 42 2 ((gF d_38 42 2) + 3)) fun d_39 => MO_next_239 d_39 Q) else (MO_next_239 d_34 Q)))) else (if nI (byR B n q) = 34 then (bnd ((gF d_22 42 2) + 1) fun x2_41 => ∃ m255, MO_next_255 Q m255 x2_41 d_22) else (MO_readSign (nI (byR B n q)) d_22 fun d_57 => MO_next_321 d_57 Q))))) else (MO_digits 10 (gF d_22 42 2) d_22 fun d_58 => MO_next_321 d_58 Q)) → ∃ m, MO_next_0 Q m r := by
      intro Q hQ
      refine start2 Q ?_
      rw [sta_e, sta_b _ hb, if_neg c2, if_pos rfl]
      exact hQ
    by_cases c3 : isD (byR B n q) = true
    · have ht : tokF B n q = numK B n q q 10 := by
        unfold tokF
        rw [if_neg c1, if_neg c2, if_pos c3]
      obtain ⟨r', E, m, g3, g4, g2, g6, g7⟩ := digitsR h S1 (q := q) (p := q) (base := 10) (by omega) (by omega) hq f2 f3 f4
      have kk := k3 _ (numK_1 B n q q 10)
      obtain ⟨d1, d2⟩ := done r' _ _ _ m g3 (g4.trans (pl _ kk.1)) g2 g6 (fun z => absurd z kk.2.2) (by rw [if_neg kk.2.1, g7, f7]) ht
      refine ⟨_, fun Q hQ => start3 Q ?_, d1, d2⟩
      rw [MO_isDigit_e, isd_b _ hb, if_pos c3, if_neg (by decide), f2]
      exact E _ (k321 _ _ hQ)
    have start4 : ∀ Q, (if nI (byR B n q) = 36 then (MO_digits 16 (nI (q + 1)) r1 fun d_26 => MO_next_321 d_26 Q) else (if nI (byR B n q) = 37 then (MO_digits 2 (nI (q + 1)) r1 fun d_28 => MO_next_321 d_28 Q) else (if nI (byR B n q) = 39 then (MO_byteAt ((gF r1 42 2) + 1) r1 fun r_31 d_30 => if r_31 < 32 then (MO_next_239 d_30 Q) else (if (126 : Int32) < r_31 then (MO_next_239 d_30 Q) else (MO_byteAt ((gF d_30 42 2) + 2) d_30 fun r_35 d_34 => if r_35 = 39 then (bnd (sF d_34 42 3 3) fun d_37 => bnd (sF d_37 42 6 r_31) fun d_38 => bnd (sF d_38 42 2 ((gF d_38 42 2) + 3)) fun d_39 => MO_next_239 d_39 Q) else (MO_next_239 d_34 Q)))) else (if nI (byR B n q) = 34 then (∃ m255, MO_next_255 Q m255 (nI (q + 1)) r1) else (MO_readSign (nI (byR B n q)) r1 fun d_57 => MO_next_321 d_57 Q))))) → ∃ m, MO_next_0 Q m r := by
      intro Q hQ
      refine start3 Q ?_
      rw [MO_isDigit_e, isd_b _ hb, if_neg c3, if_pos rfl]
      simp only [f2, nI_p1, bnd_iff] at hQ ⊢
      exact hQ
    by_cases c4 : byR B n q = 34
    · have ht : tokF B n q = texK B n q := by
        unfold tokF
        rw [if_neg c1, if_neg c2, if_neg c3, if_pos c4]
      obtain ⟨r', E, m, g3, g4, g2, g6, g6', g7⟩ := texR h S1 hqn f2 f3 f4 f7
      obtain ⟨d1, d2⟩ := done r' _ _ _ m g3 (g4.trans (pl _ (k4 _ (texK_1 B n q)))) g2 g6 g6' g7 ht
      refine ⟨_, fun Q hQ => start4 Q ?_, d1, d2⟩
      rw [if_neg (ne 36 36 rfl (by omega) (by omega)), if_neg (ne 37 37 rfl (by omega) (by omega)), if_neg (ne 39 39 rfl (by omega) (by omega)), if_pos (show nI (byR B n q) = 34 by rw [c4]; rfl)]
      exact E _ (k321 _ _ hQ)
    by_cases c5 : byR B n q = 36
    · have ht : tokF B n q = numK B n q (q + 1) 16 := by
        unfold tokF
        rw [if_neg c1, if_neg c2, if_neg c3, if_neg c4, if_pos c5]
      obtain ⟨r', E, m, g3, g4, g2, g6, g7⟩ := digitsR h S1 (q := q) (p := q + 1) (base := 16) (by omega) (by omega) (by omega) f2 f3 f4
      have kk := k3 _ (numK_1 B n q (q + 1) 16)
      obtain ⟨d1, d2⟩ := done r' _ _ _ m g3 (g4.trans (pl _ kk.1)) g2 g6 (fun z => absurd z kk.2.2) (by rw [if_neg kk.2.1, g7, f7]) ht
      refine ⟨_, fun Q hQ => start4 Q ?_, d1, d2⟩
      rw [if_pos (show nI (byR B n q) = 36 by rw [c5]; rfl)]
      exact E _ (k321 _ _ hQ)
    by_cases c6 : byR B n q = 37
    · have ht : tokF B n q = numK B n q (q + 1) 2 := by
        unfold tokF
        rw [if_neg c1, if_neg c2, if_neg c3, if_neg c4, if_neg c5, if_pos c6]
      obtain ⟨r', E, m, g3, g4, g2, g6, g7⟩ := digitsR h S1 (q := q) (p := q + 1) (base := 2) (by omega) (by omega) (by omega) f2 f3 f4
      have kk := k3 _ (numK_1 B n q (q + 1) 2)
      obtain ⟨d1, d2⟩ := done r' _ _ _ m g3 (g4.trans (pl _ kk.1)) g2 g6 (fun z => absurd z kk.2.2) (by rw [if_neg kk.2.1, g7, f7]) ht
      refine ⟨_, fun Q hQ => start4 Q ?_, d1, d2⟩
      rw [if_neg (ne 36 36 rfl (by omega) c5), if_pos (show nI (byR B n q) = 37 by rw [c6]; rfl)]
      exact E _ (k321 _ _ hQ)
    by_cases c7 : byR B n q = 39
    · have ht : tokF B n q = quoK B n q := by
        unfold tokF
        rw [if_neg c1, if_neg c2, if_neg c3, if_neg c4, if_neg c5, if_neg c6, if_pos c7]
      obtain ⟨r', E, m, g3, g4, g2, g6, g6', g7⟩ := quoR h S1 hqn f2 f3 f4 f7
      have kk := k3 _ (quoK_1 B n q)
      obtain ⟨d1, d2⟩ := done r' _ _ _ m g3 (g4.trans (pl _ kk.1)) g2 g6 g6' g7 ht
      refine ⟨_, fun Q hQ => start4 Q ?_, d1, d2⟩
      rw [if_neg (ne 36 36 rfl (by omega) c5), if_neg (ne 37 37 rfl (by omega) c6), if_pos (show nI (byR B n q) = 39 by rw [c7]; rfl)]
      exact E (fun d => MO_next_239 d Q) (k321 _ _ hQ)
    · have ht : tokF B n q = sgK B n q := by
        unfold tokF sgK
        rw [if_neg c1, if_neg c2, if_neg c3, if_neg c4, if_neg c5, if_neg c6, if_neg c7]
      obtain ⟨r', E, m, g3, g4, g2, g6, g6', g7⟩ := sgR h S1 hqn f2 f3 f4 f7
      have n0 : ¬ (sgK B n q).1 = 0 := by
        rw [← ht]
        exact (tokF_1 h c1).1
      obtain ⟨d1, d2⟩ := done r' _ _ _ m g3 (g4.trans (pl _ n0)) g2 g6 g6' g7 ht
      refine ⟨_, fun Q hQ => start4 Q ?_, d1, d2⟩
      rw [if_neg (ne 36 36 rfl (by omega) c5), if_neg (ne 37 37 rfl (by omega) c6), if_neg (ne 39 39 rfl (by omega) c7), if_neg (ne 34 34 rfl (by omega) c4)]
      exact E _ (k321 _ _ hQ)
  · intro r hr h2
    have M := (ModR.refl LF [] r).sF (f := 2) (by decide) (nI (p + 1))
    obtain ⟨r', E, C, M2⟩ := ih (sF r 42 2 (nI (p + 1))) (hr.mod M (by decide) (by decide)) (by rw [gF_sF, u1f_eq])
    have et : tkA B n p = tkA B n (p + 1) := by
      unfold tkA
      rw [sc_yes hp e]
    refine ⟨r', fun Q hQ => ?_, by rw [et]; exact C, M.trans M2⟩
    obtain ⟨m, hm⟩ := E Q hQ
    refine ⟨m + 1, ?_⟩
    unfold MO_next_0
    rw [h2, atR h hr (by omega), byR_in hp, MO_isBlank_e, blR_b _ (h.2 p), e, if_pos rfl, if_neg (by decide)]
    refine bnd_iff.mpr ?_
    rw [h2, nI_p1]
    exact hm
theorem next_ok {B : Nat → Nat} {n p : Nat} (h : SrcOk B n) {r : vmD} (hr : SrcR B n r) (hp : p ≤ n) (h2 : gF r 42 2 = nI p) : ∃ r', (∀ Q : vmD → Prop, Q r' → MO_next r Q) ∧ CurR r' (tkA B n p) ∧ ModR LF [] r r' := by
  obtain ⟨r', E, C, M⟩ := nextR h p hp r hr h2
  exact ⟨r', fun Q hQ => by unfold MO_next; exact E Q hQ, C, M⟩
theorem goTo_ok {B : Nat → Nat} {n p : Nat} (h : SrcOk B n) {r : vmD} (hr : SrcR B n r) (hp : p ≤ n) : ∃ r', (∀ Q : vmD → Prop, Q r' → MO_goTo (nI p) r Q) ∧ CurR r' (tkA B n p) ∧ ModR LF [] r r' := by
  have M := (ModR.refl LF [] r).sF (f := 2) (by decide) (nI p)
  obtain ⟨r', E, C, M2⟩ := next_ok h (hr.mod M (by decide) (by decide)) hp (r := sF r 42 2 (nI p)) (by rw [gF_sF, u1f_eq])
  exact ⟨r', fun Q hQ => by unfold MO_goTo; exact bnd_iff.mpr (E _ hQ), C, M.trans M2⟩
