/-! The class reads an exp -/
theorem joinK_b : ∀ k, k < 128 → (decide (lev k = 0) || (decide (lev k = 7) || (decide (k = 38) || (decide (k = 42) || (decide (k = 43) || (decide (k = 45) || (decide (k = 60) || (decide (k = 62) || (decide (k = 94) || (decide (k = 124) || decide (k = 47))))))))))) = true := by decide +kernel
theorem joinK (k : Nat) (hk : k < 128) (h0 : 0 < lev k) (h7 : lev k < 7) : k = 38 ∨ k = 42 ∨ k = 43 ∨ k = 45 ∨ k = 60 ∨ k = 62 ∨ k = 94 ∨ k = 124 ∨ k = 47 := by
  have := joinK_b k hk
  simp only [Bool.or_eq_true, decide_eq_true_eq] at this
  rcases this with e | e | e
  · omega
  · omega
  · exact e
theorem joinC {c : vmD} {here : Int32} {o : Op} {os : List Op} {v : List Vl} {tr : Nat × Nat} (hX : XC c here (o :: os) v tr) (hI : XI false (o :: os) v) (hp : 0 < lev o.1) (h7 : lev o.1 < 7) : ∃ c', (∀ Q : vmD → Prop, Q c' → Expression_join (nI o.1) (nI o.2) (sF c 28 6 (nI os.length)) Q) ∧ XC c' here os (apV o v) (apT2 o v tr) ∧ ModC XF XA [] c c' := by
  have h40 : ¬ o.1 = 40 := fun z => by rw [z] at hp; revert hp; decide
  have n7 : ¬ lev o.1 = 7 := by omega
  obtain ⟨g1, g2, g3, g4⟩ := hI.pop h40
  have hl := hI.len
  rw [if_neg n7] at g3 g4
  obtain ⟨x1, x2, x3, x4, x5, x6, x7, x8, x9, x10, x11, x12⟩ := hX
  match v, g4 with
  | [], g4 => exact absurd g4 (by show ¬ 2 ≤ 0; omega)
  | [b], g4 => exact absurd g4 (by show ¬ 2 ≤ 1; omega)
  | b :: a :: v, _ =>
    have hlen : v.length + 1 + 1 ≤ 287 := hl.2
    have ho := hI.1.2.1
    have e2 : nI (b :: a :: v).length - 1 = nI (v.length + 1) := nI_pred _
    have e3 : nI (v.length + 1) - 1 = nI v.length := nI_pred _
    have va : gA c 31 v.length = a.1 := by
      have := x11.2.1
      rw [map_len] at this
      exact this
    have vb : gA c 31 (v.length + 1) = b.1 := by
      have := x11.1
      rw [map_len] at this
      exact this
    have ka : gA c 32 v.length = kb a.2 := by
      have := x12.2.1
      rw [map_len] at this
      exact this
    have kbb : gA c 32 (v.length + 1) = kb b.2 := by
      have := x12.1
      rw [map_len] at this
      exact this
    have eV : apV o (b :: a :: v) = (opB o.1 a.1 b.1, a.2 && (b.2 && !(decide (o.1 = 47) && decide (b.1 = 0)))) :: v := by
      unfold apV
      rw [if_neg n7]
      rfl
    have eT : apT2 o (b :: a :: v) tr = if o.1 = 47 ∧ b.1 = 0 ∧ b.2 = true ∧ tr.1 = 0 then (5, o.2) else tr := by
      unfold apT2
      rw [if_neg n7]
      rfl
    -- the end: value and known are laid down
    have fin : ∀ (d : vmD) (Q : vmD → Prop) (r : Int32) (kn : Bool), gF d 28 7 = nI (v.length + 1) → Q (sA (sA d 31 v.length r) 32 v.length (kb kn)) → Expression_join_308 (kb kn) r d Q := by
      intro d Q r kn hd hQ
      unfold Expression_join_308
      rw [hd, e3]
      refine ⟨nI_in (by omega) (by omega), bnd_iff.mpr ?_⟩
      rw [gF_sA, hd, e3, nI_clamp (by omega), kb_and]
      exact ⟨nI_in (by omega) (by omega), bnd_iff.mpr hQ⟩
    obtain ⟨d0, hd0⟩ : ∃ d0 : vmD, d0 = sF (sF c 28 6 (nI os.length)) 28 7 (nI (v.length + 1)) := ⟨_, rfl⟩
    have hd7 : gF d0 28 7 = nI (v.length + 1) := by rw [hd0, gF_sF, u1f_eq]
    have hd11 : gF d0 28 11 = nI tr.1 := by rw [hd0, gF_sF, u1f_ne _ _ (by decide), gF_sF, u1f_ne _ _ (by decide), x6]
    have hdA : gA d0 = gA c := by rw [hd0]; rfl
    obtain ⟨d1, hd1⟩ : ∃ d1 : vmD, d1 = if o.1 = 47 ∧ b.1 = 0 ∧ b.2 = true ∧ tr.1 = 0 then sF (sF d0 28 11 5) 28 12 (nI o.2) else d0 := ⟨_, rfl⟩
    have hk : ∀ m : Nat, ∀ M : Int32, M = nI m → m < 128 → (nI o.1 = M ↔ o.1 = m) := fun m M hM hm => by rw [hM]; exact nI_eq (by omega) (by omega)
    have main : ∀ (Q : vmD → Prop), Q (sA (sA d1 31 v.length (opB o.1 a.1 b.1)) 32 v.length (kb (a.2 && (b.2 && !(decide (o.1 = 47) && decide (b.1 = 0)))))) → Expression_join_83 (nI o.1) (nI o.2) a.1 b.1 (kb (a.2 && b.2)) d0 Q := by
      intro Q hQ
      have kpos : ∀ k m : Nat, o.1 = k → ¬ k = 47 → d1 = d0 ∧ (a.2 && (b.2 && !(decide (o.1 = 47) && decide (b.1 = 0)))) = (a.2 && b.2) := by
        intro k m e z
        rw [hd1, if_neg (fun w => z (e.symm.trans w.1)), e, decide_eq_false z, Bool.false_and, Bool.not_false, Bool.and_true]
        exact ⟨rfl, rfl⟩
      unfold Expression_join_83
      have arith : ∀ k : Nat, o.1 = k → ¬ k = 47 → ∀ r : Int32, opB k a.1 b.1 = r → Expression_join_308 (kb (a.2 && b.2)) r d0 Q := by
        intro k e z r hr
        obtain ⟨k1, k2⟩ := kpos k 0 e z
        rw [k1, k2, e, hr] at hQ
        exact fin d0 Q r _ hd7 hQ
      rcases joinK o.1 ho hp h7 with e | e | e | e | e | e | e | e | e
      · rw [if_pos ((hk 38 38 rfl (by omega)).mpr e)]
        exact bnd_iff.mpr (arith 38 e (by omega) _ rfl)
      · rw [if_neg (fun z => by have := (hk 38 38 rfl (by omega)).mp z; omega), if_pos ((hk 42 42 rfl (by omega)).mpr e)]
        exact bnd_iff.mpr (arith 42 e (by omega) _ rfl)
      · rw [if_neg (fun z => by have := (hk 38 38 rfl (by omega)).mp z; omega), if_neg (fun z => by have := (hk 42 42 rfl (by omega)).mp z; omega), if_pos ((hk 43 43 rfl (by omega)).mpr e)]
        exact bnd_iff.mpr (arith 43 e (by omega) _ rfl)
      · rw [if_neg (fun z => by have := (hk 38 38 rfl (by omega)).mp z; omega), if_neg (fun z => by have := (hk 42 42 rfl (by omega)).mp z; omega), if_neg (fun z => by have := (hk 43 43 rfl (by omega)).mp z; omega), if_pos ((hk 45 45 rfl (by omega)).mpr e)]
        exact bnd_iff.mpr (arith 45 e (by omega) _ rfl)
      · rw [if_neg (fun z => by have := (hk 38 38 rfl (by omega)).mp z; omega), if_neg (fun z => by have := (hk 42 42 rfl (by omega)).mp z; omega), if_neg (fun z => by have := (hk 43 43 rfl (by omega)).mp z; omega), if_neg (fun z => by have := (hk 45 45 rfl (by omega)).mp z; omega), if_pos ((hk 60 60 rfl (by omega)).mpr e)]
        exact bnd_iff.mpr (arith 60 e (by omega) _ rfl)
      · rw [if_neg (fun z => by have := (hk 38 38 rfl (by omega)).mp z; omega), if_neg (fun z => by have := (hk 42 42 rfl (by omega)).mp z; omega), if_neg (fun z => by have := (hk 43 43 rfl (by omega)).mp z; omega), if_neg (fun z => by have := (hk 45 45 rfl (by omega)).mp z; omega), if_neg (fun z => by have := (hk 60 60 rfl (by omega)).mp z; omega), if_pos ((hk 62 62 rfl (by omega)).mpr e)]
        exact bnd_iff.mpr (arith 62 e (by omega) _ rfl)
      · rw [if_neg (fun z => by have := (hk 38 38 rfl (by omega)).mp z; omega), if_neg (fun z => by have := (hk 42 42 rfl (by omega)).mp z; omega), if_neg (fun z => by have := (hk 43 43 rfl (by omega)).mp z; omega), if_neg (fun z => by have := (hk 45 45 rfl (by omega)).mp z; omega), if_neg (fun z => by have := (hk 60 60 rfl (by omega)).mp z; omega), if_neg (fun z => by have := (hk 62 62 rfl (by omega)).mp z; omega), if_pos ((hk 94 94 rfl (by omega)).mpr e)]
        exact bnd_iff.mpr (arith 94 e (by omega) _ rfl)
      · rw [if_neg (fun z => by have := (hk 38 38 rfl (by omega)).mp z; omega), if_neg (fun z => by have := (hk 42 42 rfl (by omega)).mp z; omega), if_neg (fun z => by have := (hk 43 43 rfl (by omega)).mp z; omega), if_neg (fun z => by have := (hk 45 45 rfl (by omega)).mp z; omega), if_neg (fun z => by have := (hk 60 60 rfl (by omega)).mp z; omega), if_neg (fun z => by have := (hk 62 62 rfl (by omega)).mp z; omega), if_neg (fun z => by have := (hk 94 94 rfl (by omega)).mp z; omega), if_pos ((hk 124 124 rfl (by omega)).mpr e)]
        exact bnd_iff.mpr (arith 124 e (by omega) _ rfl)
      · rw [if_neg (fun z => by have := (hk 38 38 rfl (by omega)).mp z; omega), if_neg (fun z => by have := (hk 42 42 rfl (by omega)).mp z; omega), if_neg (fun z => by have := (hk 43 43 rfl (by omega)).mp z; omega), if_neg (fun z => by have := (hk 45 45 rfl (by omega)).mp z; omega), if_neg (fun z => by have := (hk 60 60 rfl (by omega)).mp z; omega), if_neg (fun z => by have := (hk 62 62 rfl (by omega)).mp z; omega), if_neg (fun z => by have := (hk 94 94 rfl (by omega)).mp z; omega), if_neg (fun z => by have := (hk 124 124 rfl (by omega)).mp z; omega)]
        have e47 : opB o.1 a.1 b.1 = if b.1 = 0 then 0 else a.1 / b.1 := by
          unfold opB
          rw [e]
          rfl
        have h257 : ∀ kn : Bool, (a.2 && (b.2 && !(decide (o.1 = 47) && decide (b.1 = 0)))) = kn → Expression_join_257 (nI o.2) a.1 b.1 (kb kn) d0 Q := by
          intro kn hkn
          rw [hkn, e47] at hQ
          unfold Expression_join_257 Expression_join_272
          by_cases z : b.1 = 0
          · rw [if_pos z] at hQ ⊢
            rw [if_pos z]
            refine ⟨by rw [hd7]; exact nI_in (by omega) (by omega), bnd_iff.mpr ?_⟩
            rw [hd7, nI_clamp (by omega), hdA, kbb]
            by_cases w : b.2 = true
            · rw [if_neg (fun q => (kb_0 _).mp q w), hd11]
              by_cases t0 : tr.1 = 0
              · rw [if_pos (by rw [t0]; rfl)]
                rw [if_pos ⟨e, z, w, t0⟩] at hd1
                refine bnd_iff.mpr (bnd_iff.mpr ?_)
                rw [← hd1]
                refine fin d1 Q 0 kn ?_ hQ
                rw [hd1, gF_sF, u1f_ne _ _ (by decide), gF_sF, u1f_ne _ _ (by decide), hd7]
              · rw [if_neg (show ¬ nI tr.1 = 0 from fun q => t0 ((nI_eq (b := 0) (by omega) (by omega)).mp q))]
                rw [if_neg (fun q => t0 q.2.2.2)] at hd1
                rw [hd1] at hQ
                exact fin d0 Q 0 kn hd7 hQ
            · rw [if_pos ((kb_0 _).mpr w)]
              rw [if_neg (fun q => w q.2.2.1)] at hd1
              rw [hd1] at hQ
              exact fin d0 Q 0 kn hd7 hQ
          · rw [if_neg z] at hQ ⊢
            rw [if_neg z]
            rw [if_neg (fun q => z q.2.1)] at hd1
            rw [hd1] at hQ
            exact ⟨z, fin d0 Q _ kn hd7 hQ⟩
        have hdec : decide (o.1 = 47) = true := decide_eq_true e
        by_cases w : (a.2 && b.2) = true
        · rw [if_neg (fun q => (kb_0 _).mp q w)]
          have w2 : a.2 = true ∧ b.2 = true := by
            rw [Bool.and_eq_true] at w
            exact w
          by_cases z : b.1 = 0
          · rw [if_pos z]
            unfold Expression_join_256
            exact h257 false (by rw [hdec, decide_eq_true z, w2.1, w2.2]; rfl)
          · rw [if_neg z]
            exact h257 true (by rw [hdec, decide_eq_false z, w2.1, w2.2]; rfl)
        · rw [if_pos ((kb_0 _).mpr w)]
          unfold Expression_join_256
          refine h257 false ?_
          cases ha : a.2 <;> cases hb : b.2 <;> rw [ha, hb] at w <;> simp at w ⊢
    refine ⟨sA (sA d1 31 v.length (opB o.1 a.1 b.1)) 32 v.length (kb (a.2 && (b.2 && !(decide (o.1 = 47) && decide (b.1 = 0))))), fun Q hQ => ?_, ?_, ?_⟩
    · have m := main Q hQ
      unfold Expression_join
      have q7 : gF (sF c 28 6 (nI os.length)) 28 7 = nI (b :: a :: v).length := by rw [gF_sF, u1f_ne _ _ (by decide), x2]
      rw [q7, if_neg (show ¬ nI (b :: a :: v).length < 2 from nI_nlt (b := 2) (by show 2 ≤ v.length + 1 + 1; omega) (by show v.length + 1 + 1 < 2 ^ 31; omega)), if_neg (show ¬ (320 : Int32) < nI (b :: a :: v).length from nI_nlt (a := 320) (by show v.length + 1 + 1 ≤ 320; omega) (by omega)), e2]
      refine bnd_iff.mpr ?_
      rw [← hd0, hd7, e3]
      refine ⟨nI_in (by omega) (by omega), bnd_iff.mpr ⟨nI_in (by omega) (by omega), bnd_iff.mpr ⟨nI_in (by omega) (by omega), bnd_iff.mpr ?_⟩⟩⟩
      rw [nI_clamp (show v.length < 2 ^ 31 by omega), nI_clamp (show v.length + 1 < 2 ^ 31 by omega), hdA, va, vb, ka]
      by_cases w : a.2 = true
      · rw [if_neg (fun q => (kb_0 _).mp q w)]
        refine ⟨nI_in (by omega) (by omega), bnd_iff.mpr ?_⟩
        rw [kbb]
        by_cases w2 : b.2 = true
        · rw [if_neg (fun q => (kb_0 _).mp q w2)]
          rw [w, w2] at m
          exact m
        · rw [if_pos ((kb_0 _).mpr w2)]
          have w2' : b.2 = false := by rw [← Bool.not_eq_true]; exact w2
          rw [w, w2'] at m
          exact m
      · rw [if_pos ((kb_0 _).mpr w)]
        have w' : a.2 = false := by rw [← Bool.not_eq_true]; exact w
        rw [w', Bool.false_and] at m
        exact m
    · rw [eV, eT]
      have f1 : ∀ f, ¬ f = 11 → ¬ f = 12 → gF d1 28 f = gF d0 28 f := by
        intro f a1 a2
        rw [hd1]
        split
        · rw [gF_sF, u1f_ne _ _ a2, gF_sF, u1f_ne _ _ a1]
        · rfl
      have f0 : ∀ f, ¬ f = 6 → ¬ f = 7 → gF d0 28 f = gF c 28 f := by
        intro f a1 a2
        rw [hd0, gF_sF, u1f_ne _ _ a2, gF_sF, u1f_ne _ _ a1]
      have hA1 : gA d1 = gA c := by
        rw [hd1]
        split
        · exact hdA
        · exact hdA
      refine ⟨?_, ?_, ?_, ?_, ?_, ?_, ?_, ?_, ?_, ?_, ?_, ?_⟩
      · rw [gF_sA, gF_sA, f1 6 (by decide) (by decide), hd0, gF_sF, u1f_ne _ _ (by decide), gF_sF, u1f_eq]
      · rw [gF_sA, gF_sA, f1 7 (by decide) (by decide), hd7]
        rfl
      · rw [gF_sA, gF_sA, f1 8 (by decide) (by decide), f0 8 (by decide) (by decide), x3, g3]
        exact congrArg nI (by omega)
      · rw [gF_sA, gF_sA, f1 9 (by decide) (by decide), f0 9 (by decide) (by decide), x4, g2]
      · rw [gF_sA, gF_sA, f1 10 (by decide) (by decide), f0 10 (by decide) (by decide), x5]
      · rw [gF_sA, gF_sA, hd1]
        split
        · rw [gF_sF, u1f_ne _ _ (by decide), gF_sF, u1f_eq]
          rfl
        · rw [hd11]
      · rw [gF_sA, gF_sA, hd1]
        split
        · intro _
          rw [gF_sF, u1f_eq]
        · intro z
          rw [f0 12 (by decide) (by decide)]
          exact x7 z
      · split
        · show 5 < 6
          omega
        · exact x8
      · rw [gA_sA_ne _ _ _ (by decide), gA_sA_ne _ _ _ (by decide), hA1]
        exact x9.2
      · rw [gA_sA_ne _ _ _ (by decide), gA_sA_ne _ _ _ (by decide), hA1]
        exact x10.2
      · rw [gA_sA_ne _ _ _ (by decide), gA_sA, hA1]
        have hp := (x11.2.2).push (opB o.1 a.1 b.1)
        rw [map_len] at hp
        exact hp
      · rw [gA_sA, gA_sA_ne _ _ _ (by decide), hA1]
        have hp := (x12.2.2).push (kb (a.2 && (b.2 && !(decide (o.1 = 47) && decide (b.1 = 0)))))
        rw [map_len] at hp
        exact hp
    · have M0 : ModC XF XA [] c d0 := by
        rw [hd0]
        exact ((ModC.refl XF XA [] c).sF (by decide) _).sF (by decide) _
      have M1 : ModC XF XA [] c d1 := by
        rw [hd1]
        split
        · exact (M0.sF (by decide) _).sF (by decide) _
        · exact M0
      exact (M1.sA (by decide) _ _).sA (by decide) _ _
theorem settleC {here : Int32} {L : Nat} (hL : 1 ≤ L) (hL2 : L < 8) : ∀ (os : List Op) (v : List Vl) (tr : Nat × Nat) (c : vmD), XC c here os v tr → XI false os v → ∃ c', (∀ Q : vmD → Prop, Q c' → ∃ m, Expression_settle_0 Q m (nI L) c) ∧ XC c' here (stl L os v tr).1 (stl L os v tr).2.1 (stl L os v tr).2.2 ∧ ModC XF XA [] c c' := by
  intro os
  induction os with
  | nil =>
    intro v tr c hX hI
    refine ⟨c, fun Q hQ => ⟨1, ?_⟩, hX, ModC.refl _ _ _ _⟩
    unfold Expression_settle_0
    rw [hX.1, if_neg (by decide)]
    exact hQ
  | cons o os ih =>
    intro v tr c hX hI
    have hl := hI.len
    rw [List.length_cons] at hl
    have ho := hI.1.2.1
    have e1 : nI (o :: os).length - 1 = nI os.length := nI_pred _
    have t29 : gA c 29 os.length = nI o.1 := by
      have := hX.2.2.2.2.2.2.2.2.1.1
      rw [map_len] at this
      exact this
    have t30 : gA c 30 os.length = nI o.2 := by
      have := hX.2.2.2.2.2.2.2.2.2.1.1
      rw [map_len] at this
      exact this
    have l7 := lev_7 o.1
    have hop : (0 : Int32) < nI (o :: os).length := nI_lt (a := 0) (by rw [List.length_cons]; omega) (by rw [List.length_cons]; omega)
    have hn32 : ¬ (320 : Int32) < nI (o :: os).length := nI_nlt (a := 320) (by rw [List.length_cons]; omega) (by omega)
    have hlev : nI (lev o.1) < nI L ↔ lev o.1 < L := nI_ltI (by omega) (by omega)
    have i6 : gF (sF c 28 6 (nI os.length)) 28 6 = nI os.length := by rw [gF_sF, u1f_eq]
    unfold stl
    by_cases e : lev o.1 < L
    · rw [if_pos e]
      refine ⟨c, fun Q hQ => ⟨1, ?_⟩, hX, ModC.refl _ _ _ _⟩
      unfold Expression_settle_0
      rw [hX.1, if_pos hop, if_neg hn32, e1]
      refine ⟨nI_in (by omega) (by omega), bnd_iff.mpr ?_⟩
      rw [nI_clamp (by omega), t29, levI_e, lev_I _ ho, if_pos (hlev.mpr e)]
      exact hQ
    · rw [if_neg e]
      have h40 : ¬ o.1 = 40 := fun z => by rw [z, lev_40] at e; omega
      obtain ⟨g1, -⟩ := hI.pop h40
      have go : ∀ (m : Nat) (Q : vmD → Prop), (if nI o.1 = 126 then Expression_settle_67 (Expression_settle_0 Q m) (nI L) (nI o.1) (sF c 28 6 (nI os.length)) Q else if nI o.1 = 109 then Expression_settle_67 (Expression_settle_0 Q m) (nI L) (nI o.1) (sF c 28 6 (nI os.length)) Q else Expression_join (nI o.1) (nI o.2) (sF c 28 6 (nI os.length)) fun d_16 => Expression_settle_89 (Expression_settle_0 Q m) (nI L) d_16 Q) → Expression_settle_0 Q (m + 1) (nI L) c := by
        intro m Q hQ
        unfold Expression_settle_0
        rw [hX.1, if_pos hop, if_neg hn32, e1]
        refine ⟨nI_in (by omega) (by omega), bnd_iff.mpr ?_⟩
        rw [nI_clamp (by omega), t29, levI_e, lev_I _ ho, if_neg (fun z => e (hlev.mp z))]
        refine bnd_iff.mpr ?_
        rw [hX.1, e1, i6]
        refine ⟨nI_in (by omega) (by omega), bnd_iff.mpr ?_⟩
        rw [nI_clamp (by omega), show gA (sF c 28 6 (nI os.length)) 29 os.length = nI o.1 from t29]
        split
        · rename_i z
          rw [if_pos z] at hQ
          exact hQ
        · rename_i z
          rw [if_neg z] at hQ
          split
          · rename_i w
            rw [if_pos w] at hQ
            exact hQ
          · rename_i w
            rw [if_neg w] at hQ
            refine ⟨nI_in (by omega) (by omega), bnd_iff.mpr ?_⟩
            rw [show gA (sF c 28 6 (nI os.length)) 30 os.length = nI o.2 from t30]
            exact hQ
      have c126 : nI o.1 = 126 ↔ o.1 = 126 := nI_eq (b := 126) (by omega) (by omega)
      have c109 : nI o.1 = 109 ↔ o.1 = 109 := nI_eq (b := 109) (by omega) (by omega)
      by_cases h7 : lev o.1 = 7
      · obtain ⟨c1, E1, X1, M1⟩ := turnC hX hI h7
        obtain ⟨c2, E2, X2, M2⟩ := ih (apV o v) (apT2 o v tr) c1 X1 g1
        refine ⟨c2, fun Q hQ => ?_, X2, M1.trans M2⟩
        obtain ⟨m, hm⟩ := E2 Q hQ
        refine ⟨m + 1, go m Q ?_⟩
        have h67 : Expression_settle_67 (Expression_settle_0 Q m) (nI L) (nI o.1) (sF c 28 6 (nI os.length)) Q := by
          unfold Expression_settle_67
          exact E1 _ hm
        have hor : o.1 = 126 ∨ o.1 = 109 := by
          have := (isO_7 o.1).mpr (Or.inr h7)
          unfold isO at this
          simp only [Bool.or_eq_true, decide_eq_true_eq] at this
          rcases this with z | z | z
          · exact absurd z h40
          · exact Or.inl z
          · exact Or.inr z
        by_cases z : o.1 = 126
        · rw [if_pos (c126.mpr z)]
          exact h67
        · rw [if_neg (fun w => z (c126.mp w)), if_pos (c109.mpr (hor.resolve_left z))]
          exact h67
      · obtain ⟨c1, E1, X1, M1⟩ := joinC hX hI (by omega) (by omega)
        obtain ⟨c2, E2, X2, M2⟩ := ih (apV o v) (apT2 o v tr) c1 X1 g1
        refine ⟨c2, fun Q hQ => ?_, X2, M1.trans M2⟩
        obtain ⟨m, hm⟩ := E2 Q hQ
        refine ⟨m + 1, go m Q ?_⟩
        rw [if_neg (fun w => by have z := c126.mp w; rw [z] at h7; exact h7 (by decide)), if_neg (fun w => by have z := c109.mp w; rw [z] at h7; exact h7 (by decide))]
        exact E1 _ hm
theorem settle_ok {here : Int32} {L : Nat} (hL : 1 ≤ L) (hL2 : L < 8) {os : List Op} {v : List Vl} {tr : Nat × Nat} {c : vmD} (hX : XC c here os v tr) (hI : XI false os v) : ∃ c', (∀ Q : vmD → Prop, Q c' → Expression_settle (nI L) c Q) ∧ XC c' here (stl L os v tr).1 (stl L os v tr).2.1 (stl L os v tr).2.2 ∧ ModC XF XA [] c c' := by
  obtain ⟨c', E, X, M⟩ := settleC hL hL2 os v tr c hX hI
  exact ⟨c', fun Q hQ => by unfold Expression_settle; exact E Q hQ, X, M⟩
