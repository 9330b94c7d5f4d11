/-! The reference looks at an operand -/
theorem workR {B : Nat → Nat} {n : Nat} {r : vmD} {T : List Tk} {N : Nt} {h t w x i : Nat} (hw : w < 107) (hX : inX T N (nI h) t w = some x) (hLn : LnR B n r T N (nI h)) (h8 : gF r 42 8 = 0) (h20 : gF r 42 20 = nI h) (hA : agP x (gF r 42)) (ht : t + 1 < T.length) (ok : lsOk T N (nI h) (t + 1) = true) (hi : i < lsN T N (nI h) (t + 1)) (hlt : lsT T N (nI h) (t + 1) i < T.length) (hO : OPR r i T (lsT T N (nI h) (t + 1) i)) (hoo : oOk T N (nI h) (lsT T N (nI h) (t + 1) i) = true) : ∃ r' b, (∀ Q : Int32 → vmD → Prop, Q b r' → MO_work (nI i) (nI (szN x)) r Q) ∧ ModR WF [47, 48, 49] r r' ∧ OutR (thF (opA T N (nI h) (t + 1) i) (opR T N (nI h) (t + 1) h x i)) b r' (WkS T N (nI h) (t + 1) h w x i r r') := by
  obtain ⟨p, hp⟩ : ∃ p, p = t + 1 := ⟨_, rfl⟩
  rw [← hp] at ok hi hlt hO hoo ⊢
  have hL := hLn.2.1
  have h2 := lsN_2 T N (nI h) p
  have hi2 : i < 2 := by omega
  obtain ⟨k, hk⟩ : ∃ k, k = oKd T (lsT T N (nI h) p i) := ⟨_, rfl⟩
  have hkd : kdN T N (nI h) p i = k := by
    rw [hk]
    exact if_pos hi
  obtain ⟨hx, hsz, hs4, a0, a1, -, -, -, hGx, -⟩ := inX_ok hw hX
  obtain ⟨hraw, -⟩ := raw_ok hw hX
  rw [← hp] at a0 a1
  have ha : asrI (shF x i) = nI (adjK w k) := by
    rw [← hkd]
    have : i = 0 ∨ i = 1 := by omega
    rcases this with rfl | rfl
    · exact a0
    · exact a1
  obtain ⟨n34, n35⟩ := hraw i hi2
  have hk36 : k < 36 := by
    rw [hk]
    exact (oKd_36 T _).1
  obtain ⟨⟨m14, m16, m15⟩, m20⟩ := rkT_3 k hk36
  obtain ⟨⟨o50, o51, o53, o54⟩, o52⟩ := hO
  rw [← hk] at o50 o51 o54
  have c14 : nI (rkT k) = 14 ↔ (30 ≤ k ∧ k ≤ 33) := (nI_eq (b := 14) (by omega) (by omega)).trans m14
  have c16 : nI (rkT k) = 16 ↔ k = 34 := (nI_eq (b := 16) (by omega) (by omega)).trans m16
  have c15 : nI (rkT k) = 15 ↔ k = 35 := (nI_eq (b := 15) (by omega) (by omega)).trans m15
  obtain ⟨fr1, fr2⟩ := oKd_fr (T := T) (t := lsT T N (nI h) p i)
  rw [← hk] at fr1 fr2
  have ix8 : ixOk (nI i) 8 := nI_in (by omega) (by omega)
  have adj3 : (k < 30 → adjK w k = k) ∧ (30 ≤ k ∧ k ≤ 33 → 30 ≤ adjK w k ∧ adjK w k ≤ 33) ∧ (32 ≤ k → adjK w k = k) := by
    unfold adjK
    refine ⟨fun q => ?_, fun q => ?_, fun q => ?_⟩
    · repeat' split
      all_goals omega
    · repeat' split
      all_goals omega
    · repeat' split
      all_goals omega
  -- no exp
  have noexp : oFr T (lsT T N (nI h) p i) = none → thF (opA T N (nI h) p i) (opR T N (nI h) p h x i) = none ∧ vlI T N (nI h) p i = 0 := by
    intro e
    unfold opA opR vlI
    rw [if_pos hi, if_pos hi, if_pos hi, e]
    exact ⟨rfl, rfl⟩
  -- kinds that aren't looked at
  have small : adjK w k < 34 → pkI (shF x i) = 0 ∧ bkI (shF x i) = 0 ∧ shF x i = nI (adjK w k) := by
    intro q
    have hs := asr_lt ha q
    rw [hs]
    have ne : ∀ m : Nat, m < 100 → 34 ≤ m → ¬ nI (adjK w k) = nI m := fun m g1 g2 q2 => by
      have := (nI_eq (a := adjK w k) (b := m) (by omega) (by omega)).mp q2
      omega
    have n6 : ¬ nI (adjK w k) = 36 := ne 36 (by omega) (by omega)
    have n7 : ¬ nI (adjK w k) = 37 := ne 37 (by omega) (by omega)
    have n8 : ¬ nI (adjK w k) = 38 := ne 38 (by omega) (by omega)
    have n9 : ¬ nI (adjK w k) = 39 := ne 39 (by omega) (by omega)
    have n40 : ¬ nI (adjK w k) = 40 := ne 40 (by omega) (by omega)
    have n41 : ¬ nI (adjK w k) = 41 := ne 41 (by omega) (by omega)
    have n42 : ¬ nI (adjK w k) = 42 := ne 42 (by omega) (by omega)
    have n43 : ¬ nI (adjK w k) = 43 := ne 43 (by omega) (by omega)
    unfold pkI bkI
    rw [if_neg n9, if_neg n40, if_neg n41, if_neg (fun z => z.elim n6 n42), if_neg (fun z => z.elim n7 n43), if_neg n8]
    exact ⟨rfl, rfl, rfl⟩
  by_cases kb14 : 30 ≤ k ∧ k ≤ 33
  · obtain ⟨s1, s2, s3⟩ := small (by have := (adj3.2.1 kb14).2; omega)
    by_cases bare : k = 30 ∨ k = 31
    · obtain ⟨e1, e2⟩ := noexp (fr1 bare)
      rw [e1]
      have M : ModR WF [47, 48, 49] r (sF r 42 56 0) := (ModR.refl _ _ r).sF (by decide) _
      refine ⟨sF r 42 56 0, 1, fun Q hQ => ?_, M, Or.inl ⟨rfl, rfl, ?_, ?_, ?_, ?_, ?_, ?_, ?_⟩⟩
      · unfold MO_work
        refine ⟨ix8, bnd_iff.mpr ?_⟩
        try rw [nI_clamp (show i < 2 ^ 31 by omega)]
        try rw [o50]
        rw [if_pos (c14.mpr kb14)]
        refine ⟨ix8, bnd_iff.mpr ?_⟩
        try rw [nI_clamp (show i < 2 ^ 31 by omega)]
        try rw [o54]
        rw [if_neg (fun q => (kb_dd k).mp q bare)]
        exact bnd_iff.mpr hQ
      · rw [gF_sF, u1f_ne _ _ (by decide)]
        exact h8
      · intro _
        rw [gF_sF, u1f_eq, e2]
      · intro q
        rw [hkd] at q
        exact absurd (adj3.2.1 kb14) q
      · exact fun q => absurd s1 q
      · intro _
        rw [gF_sF, u1f_ne _ _ (by decide)]
      · exact fun q => absurd s2 q
      · intro _
        rw [gF_sF, u1f_ne _ _ (by decide)]
    · have k32 : 32 ≤ k := by omega
      obtain ⟨q, hq⟩ := fr2 k32
      obtain ⟨ql, -, -⟩ := oFr_in hL hlt hq
      have xk := oOk_x hoo hq
      obtain ⟨r1, E1, M1, H1⟩ := xvlR (i := i) hLn h8 hi2 (o52 q hq) ql xk
      have M1' : ModR WF [47, 48, 49] r r1 := M1.mono (by decide) (by decide)
      have eA : opA T N (nI h) p i = xT T N (nI h) q := by
        unfold opA
        rw [if_pos hi, hq]
      have eV : vlI T N (nI h) p i = (if oNg T (lsT T N (nI h) p i) = true then -(xvl T N (nI h) q) else xvl T N (nI h) q) := by
        unfold vlI
        rw [if_pos hi, hq]
      have hs : shF x i = 32 ∨ shF x i = 33 := by
        rw [s3, adj3.2.2 k32]
        have : k = 32 ∨ k = 33 := by omega
        rcases this with q | q
        · exact Or.inl (by rw [q]; rfl)
        · exact Or.inr (by rw [q]; rfl)
      have h38 : ¬ shF x i = 38 := by
        rcases hs with q | q <;> rw [q] <;> decide
      have eC : cvI T N (nI h) p h x i = vlI T N (nI h) p i := if_neg h38
      have eFi : fiI (shF x i) (vlI T N (nI h) p i) = !(decide (vlI T N (nI h) p i < -128) || decide (127 < vlI T N (nI h) p i)) := if_pos (by
        rcases hs with q | q
        · exact Or.inl q
        · exact Or.inr (Or.inl q))
      have start : ∀ Q : Int32 → vmD → Prop, (if (0 : Int32) < gF r1 42 8 then Q 0 r1 else (if kb (oNg T (lsT T N (nI h) p i)) = 0 then (MO_work_112 (nI (plaT T q)) (gF r1 42 22) r1 Q) else (MO_work_112 (nI (plaT T q)) (-(gF r1 42 22)) r1 Q))) → MO_work (nI i) (nI (szN x)) r Q := by
        intro Q hQ
        unfold MO_work
        refine ⟨ix8, bnd_iff.mpr ?_⟩
        try rw [nI_clamp (show i < 2 ^ 31 by omega)]
        try rw [o50]
        rw [if_pos (c14.mpr kb14)]
        refine ⟨ix8, bnd_iff.mpr ?_⟩
        try rw [nI_clamp (show i < 2 ^ 31 by omega)]
        try rw [o54]
        rw [if_pos ((kb_dd k).mpr bare)]
        unfold MO_work_27
        refine ⟨ix8, bnd_iff.mpr ?_⟩
        try rw [nI_clamp (show i < 2 ^ 31 by omega)]
        try rw [o50]
        rw [if_neg (fun z => by have := c16.mp z; omega)]
        refine ⟨ix8, bnd_iff.mpr ?_⟩
        try rw [nI_clamp (show i < 2 ^ 31 by omega)]
        try rw [o50]
        rw [if_neg (fun z => by have := c15.mp z; omega)]
        refine ⟨ix8, bnd_iff.mpr ?_⟩
        try rw [nI_clamp (show i < 2 ^ 31 by omega)]
        try rw [o50]
        rw [if_pos (c14.mpr kb14)]
        unfold MO_work_62
        refine E1 _ ?_
        by_cases z : (0 : Int32) < gF r1 42 8
        · rw [if_pos z] at hQ ⊢
          exact hQ
        · rw [if_neg z] at hQ ⊢
          refine ⟨ix8, bnd_iff.mpr ⟨ix8, bnd_iff.mpr ?_⟩⟩
          try rw [nI_clamp (show i < 2 ^ 31 by omega)]
          rw [M1.2.2.1 50 (by decide), M1.2.2.1 52 (by decide), o50, if_pos (c14.mpr kb14), o52 q hq]
          refine ⟨ix8, bnd_iff.mpr ?_⟩
          try rw [nI_clamp (show i < 2 ^ 31 by omega)]
          rw [M1.2.2.1 53 (by decide), o53]
          exact hQ
      rcases H1 with ⟨g1, g2, g3⟩ | ⟨e, g1, g2⟩
      · have z0 : (xtr T N (nI h) q).1 = 0 := by
          unfold xT at g1
          by_cases z : (xtr T N (nI h) q).1 = 0
          · exact z
          · rw [if_neg z] at g1
            cases g1
        have start : ∀ Q : Int32 → vmD → Prop, (MO_work_112 (nI (plaT T q)) (vlI T N (nI h) p i) r1 Q) → MO_work (nI i) (nI (szN x)) r Q := by
          intro Q hQ
          refine start Q ?_
          rw [g2, if_neg (by decide), g3]
          rw [eV] at hQ
          cases z : oNg T (lsT T N (nI h) p i) with
          | true =>
            rw [z, if_pos rfl] at hQ
            rw [if_neg (show ¬ kb true = 0 by decide)]
            exact hQ
          | false =>
            rw [z, if_neg Bool.false_ne_true] at hQ
            rw [if_pos (show kb false = 0 from rfl)]
            exact hQ
        have eR : opR T N (nI h) p h x i = (if ¬ fiI (shF x i) (vlI T N (nI h) p i) = true then some (5, plaT T q) else none) := by
          unfold opR
          rw [if_pos hi, hq, eC]
          dsimp only
          by_cases y : fiI (shF x i) (vlI T N (nI h) p i) = true
          · rw [if_neg (fun w => w.2 y), if_neg (fun w => w y)]
          · rw [if_pos ⟨z0, y⟩, if_pos y]
        obtain ⟨v, hv⟩ : ∃ v, v = vlI T N (nI h) p i := ⟨_, rfl⟩
        rw [← hv] at start eR eFi
        have M2 : ModR WF [47, 48, 49] r (sF r1 42 56 v) := M1'.sF (by decide) _
        have h82 : gF (sF r1 42 56 v) 42 8 = 0 := by
          rw [gF_sF, u1f_ne _ _ (by decide)]
          exact g2
        have f56 : gF (sF r1 42 56 v) 42 56 = v := by rw [gF_sF, u1f_eq]
        rw [eA, g1, thF_none, eR]
        have good : WkS T N (nI h) p h w x i r (sF r1 42 56 v) := by
          refine ⟨h82, fun _ => f56.trans hv, fun q => ?_, fun q => absurd s1 q, fun _ => ?_, fun q => absurd s2 q, fun _ => ?_⟩
          · rw [hkd] at q
            exact absurd (adj3.2.1 kb14) q
          · rw [gF_sF, u1f_ne _ _ (by decide)]
            exact M1.2.1 55 (by decide)
          · rw [gF_sF, u1f_ne _ _ (by decide)]
            exact M1.2.1 57 (by decide)
        have bad : ¬ fiI (shF x i) v = true → (∀ Q : Int32 → vmD → Prop, MO_work_133 (nI (plaT T q)) (sF r1 42 56 v) Q → MO_work (nI i) (nI (szN x)) r Q) → ∃ r' b, (∀ Q : Int32 → vmD → Prop, Q b r' → MO_work (nI i) (nI (szN x)) r Q) ∧ ModR WF [47, 48, 49] r r' ∧ OutR (if ¬ fiI (shF x i) v = true then some (5, plaT T q) else none) b r' (WkS T N (nI h) p h w x i r r') := by
          intro y hgo
          obtain ⟨r2, E2, -, -, -, -, f2, M3⟩ := wk5 h82 (plaT T q)
          exact ⟨r2, 0, fun Q hQ => hgo Q (E2 Q hQ), M2.trans (M3.mono (by decide) (by decide)), Or.inr ⟨_, if_pos y, rfl, f2⟩⟩
        by_cases y1 : v < -128
        · refine bad (by rw [eFi, decide_eq_true y1]; exact Bool.false_ne_true) (fun Q hQ => start Q ?_)
          unfold MO_work_112
          refine bnd_iff.mpr ?_
          rw [f56, if_pos y1]
          exact hQ
        · by_cases y2 : 127 < v
          · refine bad (by rw [eFi, decide_eq_true y2, Bool.or_true]; exact Bool.false_ne_true) (fun Q hQ => start Q ?_)
            unfold MO_work_112
            refine bnd_iff.mpr ?_
            rw [f56, if_neg y1, if_pos y2]
            exact hQ
          · refine ⟨sF r1 42 56 v, 1, fun Q hQ => start Q ?_, M2, Or.inl ⟨if_neg (fun q => q (by rw [eFi, decide_eq_false y1, decide_eq_false y2]; rfl)), rfl, good⟩⟩
            unfold MO_work_112
            refine bnd_iff.mpr ?_
            rw [f56, if_neg y1, if_neg y2]
            exact hQ
      · have hbd := xT_i hL (N := N) (here := nI h) ql e g1
        refine ⟨r1, 0, fun Q hQ => start Q ?_, M1', Or.inr ⟨e, by rw [eA, g1, thF_some], rfl, g2⟩⟩
        rw [g2.1, if_pos (show (0 : Int32) < nI e.1 from nI_lt (a := 0) hbd.1 (by omega))]
        exact hQ
  · by_cases k34 : k = 34 ∨ k = 35
    · have k32 : 32 ≤ k := by omega
      obtain ⟨q, hq⟩ := fr2 k32
      obtain ⟨ql, -, -⟩ := oFr_in hL hlt hq
      have xk := oOk_x hoo hq
      obtain ⟨r1, E1, M1, H1⟩ := xvlR (i := i) hLn h8 hi2 (o52 q hq) ql xk
      have M1' : ModR WF [47, 48, 49] r r1 := M1.mono (by decide) (by decide)
      have eA : opA T N (nI h) p i = xT T N (nI h) q := by
        unfold opA
        rw [if_pos hi, hq]
      have hng : oNg T (lsT T N (nI h) p i) = false := by
        unfold oNg
        unfold oKd at hk
        cases hc : clo T (lsT T N (nI h) p i) with
        | none => rfl
        | some l =>
          rw [hc] at hk
          dsimp only at hk ⊢
          by_cases a : atS T (lsT T N (nI h) p i) l = true
          · rw [a]
            rfl
          · rw [if_neg a] at hk
            by_cases b : nearS T (lsT T N (nI h) p i) = true
            · rw [if_pos b] at hk
              exfalso
              split at hk <;> omega
            · rw [Bool.eq_false_iff.mpr b, Bool.false_and, Bool.and_false]
      have eV : vlI T N (nI h) p i = xvl T N (nI h) q := by
        unfold vlI
        rw [if_pos hi, hq]
        dsimp only
        rw [hng, if_neg Bool.false_ne_true]
      have hs : (shF x i = 36 ∨ shF x i = 37 ∨ shF x i = 38 ∨ shF x i = 39 ∨ shF x i = 40 ∨ shF x i = 41) ∨ (shF x i = 42 ∨ shF x i = 43) := by
        rw [adj3.2.2 k32] at ha
        rcases k34 with z | z
        · rw [z] at ha
          exact Or.inl (asr_34 ha n34)
        · rw [z] at ha
          exact Or.inr (asr_35 ha n35)
      have n3233 : ¬ (shF x i = 32 ∨ shF x i = 33) := by
        rcases hs with (e | e | e | e | e | e) | (e | e) <;> rw [e] <;> decide
      have hadj : ¬ (30 ≤ adjK w (kdN T N (nI h) p i) ∧ adjK w (kdN T N (nI h) p i) ≤ 33) := by
        rw [hkd, adj3.2.2 k32]
        omega
      have start : ∀ Q : Int32 → vmD → Prop, (if (0 : Int32) < gF r1 42 8 then Q 0 r1 else (if (0 : Int32) < (gF r1 42 34) then (if (gF r1 42 35) = nI i then (bnd (sF r1 42 55 (gF r1 42 22)) fun d_29 => if (gF d_29 42 34) = 1 then (if (gF r1 42 22) < 0 then (MO_work_191 (nI (plaT T q)) d_29 Q) else (if (7 : Int32) < (gF r1 42 22) then (MO_work_191 (nI (plaT T q)) d_29 Q) else (MO_work_242 (nI (plaT T q)) 1 d_29 Q))) else (if (gF d_29 42 34) = 2 then (if (gF r1 42 22) < 0 then (MO_work_224 (nI (plaT T q)) d_29 Q) else (if (56 : Int32) < (gF r1 42 22) then (MO_work_224 (nI (plaT T q)) d_29 Q) else (if ((gF r1 42 22) - (gF r1 42 22) / 8 * 8) = 0 then (MO_work_242 (nI (plaT T q)) 1 d_29 Q) else (MO_work_224 (nI (plaT T q)) d_29 Q)))) else (if (gF r1 42 22) < 0 then (MO_work_241 (nI (plaT T q)) d_29 Q) else (if (2 : Int32) < (gF r1 42 22) then (MO_work_241 (nI (plaT T q)) d_29 Q) else (MO_work_242 (nI (plaT T q)) 1 d_29 Q))))) else (MO_work_265 (nI (szN x)) (gF r1 42 22) (nI (plaT T q)) r1 Q)) else (MO_work_265 (nI (szN x)) (gF r1 42 22) (nI (plaT T q)) r1 Q))) → MO_work (nI i) (nI (szN x)) r Q := by
        intro Q hQ
        have s62 : MO_work_62 (nI i) (nI (szN x)) r Q := by
          unfold MO_work_62
          refine E1 _ ?_
          by_cases z : (0 : Int32) < gF r1 42 8
          · rw [if_pos z] at hQ ⊢
            exact hQ
          · rw [if_neg z] at hQ ⊢
            refine ⟨ix8, bnd_iff.mpr ⟨ix8, bnd_iff.mpr ?_⟩⟩
            try rw [nI_clamp (show i < 2 ^ 31 by omega)]
            rw [M1.2.2.1 50 (by decide), M1.2.2.1 52 (by decide), o50, if_neg (fun z => kb14 (c14.mp z)), o52 q hq]
            exact hQ
        unfold MO_work
        refine ⟨ix8, bnd_iff.mpr ?_⟩
        try rw [nI_clamp (show i < 2 ^ 31 by omega)]
        try rw [o50]
        rw [if_neg (fun z => kb14 (c14.mp z))]
        unfold MO_work_27
        refine ⟨ix8, bnd_iff.mpr ?_⟩
        try rw [nI_clamp (show i < 2 ^ 31 by omega)]
        try rw [o50]
        by_cases z : k = 34
        · rw [if_pos (c16.mpr z)]
          exact s62
        · rw [if_neg (fun y => z (c16.mp y))]
          refine ⟨ix8, bnd_iff.mpr ?_⟩
          try rw [nI_clamp (show i < 2 ^ 31 by omega)]
          try rw [o50]
          rw [if_pos (c15.mpr (by omega))]
          exact s62
      rcases H1 with ⟨g1, g2, g3⟩ | ⟨e, g1, g2⟩
      · have z0 : (xtr T N (nI h) q).1 = 0 := by
          unfold xT at g1
          by_cases z : (xtr T N (nI h) q).1 = 0
          · exact z
          · rw [if_neg z] at g1
            cases g1
        rw [← eV] at g3
        obtain ⟨v, hv⟩ : ∃ v, v = vlI T N (nI h) p i := ⟨_, rfl⟩
        rw [← hv] at g3
        have eR : opR T N (nI h) p h x i = (if ¬ fiI (shF x i) (cvI T N (nI h) p h x i) = true then some (5, plaT T q) else none) := by
          unfold opR
          rw [if_pos hi, hq]
          dsimp only
          by_cases y : fiI (shF x i) (cvI T N (nI h) p h x i) = true
          · rw [if_neg (fun w => w.2 y), if_neg (fun w => w y)]
          · rw [if_pos ⟨z0, y⟩, if_pos y]
        rw [eA, g1, thF_none, eR]
        obtain ⟨A1, A2, A3, A4, A5, A6, A7⟩ := hA
        have f34 : gF r1 42 34 = pkI (shF x 0) := (M1.2.1 34 (by decide)).trans A6
        have f32 : gF r1 42 32 = bkI (shF x 0) + bkI (shF x 1) := (M1.2.1 32 (by decide)).trans A5
        have f35 : gF r1 42 35 = gF r 42 35 := M1.2.1 35 (by decide)
        have f201 : gF r1 42 20 = nI h := (M1.2.1 20 (by decide)).trans h20
        unfold agX at hGx
        simp only [Bool.and_eq_true, Bool.or_eq_true, decide_eq_true_eq] at hGx
        obtain ⟨⟨⟨⟨-, x2⟩, x3⟩, x4⟩, -⟩ := hGx
        have start : ∀ Q : Int32 → vmD → Prop, (if (0 : Int32) < pkI (shF x 0) then (if (gF r 42 35) = nI i then (if pkI (shF x 0) = 1 then (if v < 0 then (MO_work_191 (nI (plaT T q)) (sF r1 42 55 v) Q) else (if (7 : Int32) < v then (MO_work_191 (nI (plaT T q)) (sF r1 42 55 v) Q) else (MO_work_242 (nI (plaT T q)) 1 (sF r1 42 55 v) Q))) else (if pkI (shF x 0) = 2 then (if v < 0 then (MO_work_224 (nI (plaT T q)) (sF r1 42 55 v) Q) else (if (56 : Int32) < v then (MO_work_224 (nI (plaT T q)) (sF r1 42 55 v) Q) else (if (v - v / 8 * 8) = 0 then (MO_work_242 (nI (plaT T q)) 1 (sF r1 42 55 v) Q) else (MO_work_224 (nI (plaT T q)) (sF r1 42 55 v) Q)))) else (if v < 0 then (MO_work_241 (nI (plaT T q)) (sF r1 42 55 v) Q) else (if (2 : Int32) < v then (MO_work_241 (nI (plaT T q)) (sF r1 42 55 v) Q) else (MO_work_242 (nI (plaT T q)) 1 (sF r1 42 55 v) Q))))) else (MO_work_265 (nI (szN x)) v (nI (plaT T q)) r1 Q)) else (MO_work_265 (nI (szN x)) v (nI (plaT T q)) r1 Q)) → MO_work (nI i) (nI (szN x)) r Q := by
          intro Q hQ
          refine start Q ?_
          rw [g2, if_neg (by decide), f34, f35, g3]
          by_cases z1 : (0 : Int32) < pkI (shF x 0)
          · rw [if_pos z1] at hQ ⊢
            by_cases z2 : gF r 42 35 = nI i
            · rw [if_pos z2] at hQ ⊢
              refine bnd_iff.mpr ?_
              rw [gF_sF, u1f_ne _ _ (by decide), f34]
              exact hQ
            · rw [if_neg z2] at hQ ⊢
              exact hQ
          · rw [if_neg z1] at hQ ⊢
            exact hQ
        by_cases zp : pkI (shF x i) = 0
        · -- behind
          have hb : ¬ bkI (shF x i) = 0 := by
            rcases hs with (e | e | e | e | e | e) | (e | e) <;> rw [e] at zp ⊢ <;> revert zp <;> decide
          have e32 : bkI (shF x 0) + bkI (shF x 1) = bkI (shF x i) := by
            have : i = 0 ∨ i = 1 := by omega
            rcases this with rfl | rfl
            · rw [x2.resolve_left hb, Int32.add_zero]
            · rw [x2.resolve_right hb, Int32.zero_add]
          have start : ∀ Q : Int32 → vmD → Prop, (MO_work_265 (nI (szN x)) v (nI (plaT T q)) r1 Q) → MO_work (nI i) (nI (szN x)) r Q := by
            intro Q hQ
            refine start Q ?_
            by_cases z1 : (0 : Int32) < pkI (shF x 0)
            · rw [if_pos z1]
              have np : ¬ pkI (shF x 0) = 0 := fun e => by rw [e] at z1; exact absurd z1 (by decide)
              have i1 : i = 1 := by
                have : i = 0 ∨ i = 1 := by omega
                rcases this with e | e
                · rw [e] at zp
                  exact absurd zp np
                · exact e
              have : bkI (shF x 1) = 0 := x4.resolve_left np
              rw [i1] at hb
              exact absurd this hb
            · rw [if_neg z1]
              exact hQ
          rw [e32] at f32
          have M57 : ∀ u : Int32, ModR WF [47, 48, 49] r (sF r1 42 57 u) := fun u => M1'.sF (by decide) _
          have good : ∀ r2 : vmD, gF r2 42 8 = 0 → gF r2 42 57 = cvI T N (nI h) p h x i → gF r2 42 56 = gF r1 42 56 → gF r2 42 55 = gF r1 42 55 → WkS T N (nI h) p h w x i r r2 := by
            intro r2 q1 q2 q3 q4
            exact ⟨q1, fun e => absurd e n3233, fun _ => q3.trans (M1.2.1 56 (by decide)), fun e => absurd zp e, fun _ => q4.trans (M1.2.1 55 (by decide)), fun _ => q2, fun e => absurd e hb⟩
          have f8u : ∀ u : Int32, gF (sF r1 42 57 u) 42 8 = 0 := fun u => by rw [gF_sF, u1f_ne _ _ (by decide)]; exact g2
          -- a range
          have rng : ∀ (u lo hi : Int32) (r2 : vmD) (W : Int32 → vmD → (Int32 → vmD → Prop) → Prop), cvI T N (nI h) p h x i = u → ModR WF [47, 48, 49] r r2 → gF r2 42 8 = 0 → gF r2 42 57 = u → gF r2 42 56 = gF r1 42 56 → gF r2 42 55 = gF r1 42 55 → fiI (shF x i) u = !(decide (u < lo) || decide (hi < u)) → (∃ r3, (∀ Q : Int32 → vmD → Prop, Q 0 r3 → W (nI (plaT T q)) r2 Q) ∧ FlR r3 (5, plaT T q) ∧ ModR [8, 9] [] r2 r3) → (∀ Q : Int32 → vmD → Prop, (if u < lo then W (nI (plaT T q)) r2 Q else if hi < u then W (nI (plaT T q)) r2 Q else Q 1 r2) → MO_work (nI i) (nI (szN x)) r Q) → ∃ r' b, (∀ Q : Int32 → vmD → Prop, Q b r' → MO_work (nI i) (nI (szN x)) r Q) ∧ ModR WF [47, 48, 49] r r' ∧ OutR (if ¬ fiI (shF x i) (cvI T N (nI h) p h x i) = true then some (5, plaT T q) else none) b r' (WkS T N (nI h) p h w x i r r') := by
            intro u lo hi r2 W hc M2 q1 q2 q3 q4 ef hw3 hgo
            obtain ⟨r3, E3, f3, M3⟩ := hw3
            rw [hc]
            have bad : ¬ fiI (shF x i) u = true → (∀ Q : Int32 → vmD → Prop, W (nI (plaT T q)) r2 Q → MO_work (nI i) (nI (szN x)) r Q) → ∃ r' b, (∀ Q : Int32 → vmD → Prop, Q b r' → MO_work (nI i) (nI (szN x)) r Q) ∧ ModR WF [47, 48, 49] r r' ∧ OutR (if ¬ fiI (shF x i) u = true then some (5, plaT T q) else none) b r' (WkS T N (nI h) p h w x i r r') := fun y hg => ⟨r3, 0, fun Q hQ => hg Q (E3 Q hQ), M2.trans (M3.mono (by decide) (by decide)), Or.inr ⟨_, if_pos y, rfl, f3⟩⟩
            by_cases y1 : u < lo
            · exact bad (by rw [ef, decide_eq_true y1]; exact Bool.false_ne_true) (fun Q hQ => hgo Q (by rw [if_pos y1]; exact hQ))
            · by_cases y2 : hi < u
              · exact bad (by rw [ef, decide_eq_true y2, Bool.or_true]; exact Bool.false_ne_true) (fun Q hQ => hgo Q (by rw [if_neg y1, if_pos y2]; exact hQ))
              · refine ⟨r2, 1, fun Q hQ => hgo Q ?_, M2, Or.inl ⟨if_neg (fun q => q (by rw [ef, decide_eq_false y1, decide_eq_false y2]; rfl)), rfl, good r2 q1 (q2.trans hc.symm) q3 q4⟩⟩
                rw [if_neg y1, if_neg y2]
                exact hQ
          have s57 : ∀ u : Int32, gF (sF r1 42 57 u) 42 57 = u ∧ gF (sF r1 42 57 u) 42 56 = gF r1 42 56 ∧ gF (sF r1 42 57 u) 42 55 = gF r1 42 55 ∧ gF (sF r1 42 57 u) 42 32 = bkI (shF x i) ∧ gF (sF r1 42 57 u) 42 20 = nI h := by
            intro u
            rw [gF_sF, u1f_eq, u1f_ne _ _ (by decide), u1f_ne _ _ (by decide), u1f_ne _ _ (by decide), u1f_ne _ _ (by decide)]
            exact ⟨rfl, rfl, rfl, f32, f201⟩
          obtain ⟨w1, w2, w3, w4, w5⟩ := s57 v
          obtain ⟨r3, -, E3a, E3b, -, -, f3, M3⟩ := wk5 (f8u v) (plaT T q)
          by_cases b1 : shF x i = 36 ∨ shF x i = 42
          · have eb : bkI (shF x i) = 1 := if_pos b1
            have n38 : ¬ shF x i = 38 := by rcases b1 with e | e <;> rw [e] <;> decide
            have ec : cvI T N (nI h) p h x i = v := (if_neg n38).trans hv.symm
            have ef : fiI (shF x i) v = !(decide (v < -128) || decide (255 < v)) := (if_neg (by rcases b1 with e | e <;> rw [e] <;> decide)).trans (if_pos b1)
            refine rng v (-128) 255 (sF r1 42 57 v) MO_work_291 ec (M57 v) (f8u v) w1 w2 w3 ef ⟨r3, E3a, f3, M3⟩ (fun Q hQ => start Q ?_)
            unfold MO_work_265
            refine bnd_iff.mpr ?_
            rw [w4, eb, if_pos rfl]
            exact hQ
          · by_cases b2 : shF x i = 37 ∨ shF x i = 43
            · have eb : bkI (shF x i) = 2 := (if_neg b1).trans (if_pos b2)
              have n38 : ¬ shF x i = 38 := by rcases b2 with e | e <;> rw [e] <;> decide
              have ec : cvI T N (nI h) p h x i = v := (if_neg n38).trans hv.symm
              have ef : fiI (shF x i) v = !(decide (v < -32768) || decide (65535 < v)) := (if_neg (by rcases b2 with e | e <;> rw [e] <;> decide)).trans ((if_neg b1).trans (if_pos b2))
              refine rng v (-32768) 65535 (sF r1 42 57 v) MO_work_328 ec (M57 v) (f8u v) w1 w2 w3 ef ⟨r3, E3b, f3, M3⟩ (fun Q hQ => start Q ?_)
              unfold MO_work_265
              refine bnd_iff.mpr ?_
              rw [w4, eb, if_neg (by decide), if_pos rfl]
              exact hQ
            · have b3 : shF x i = 38 := by
                rcases hs with (e | e | e | e | e | e) | (e | e)
                · exact absurd (Or.inl e) b1
                · exact absurd (Or.inl e) b2
                · exact e
                · rw [e] at zp; exact absurd zp (by decide)
                · rw [e] at zp; exact absurd zp (by decide)
                · rw [e] at zp; exact absurd zp (by decide)
                · exact absurd (Or.inr e) b1
                · exact absurd (Or.inr e) b2
              have eb : bkI (shF x i) = 3 := by rw [b3]; decide
              have ec : cvI T N (nI h) p h x i = ((v - (nI h + nI (szN x))) <<< ((16 : Int32) &&& 31)) >>> ((16 : Int32) &&& 31) := by
                unfold cvI dsI
                rw [if_pos b3, far_eq, ← hv, sub3]
              obtain ⟨u, hu⟩ : ∃ u, u = ((v - (nI h + nI (szN x))) <<< ((16 : Int32) &&& 31)) >>> ((16 : Int32) &&& 31) := ⟨_, rfl⟩
              rw [← hu] at ec
              have ef : fiI (shF x i) u = !(decide (u < -128) || decide (127 < u)) := if_pos (Or.inr (Or.inr b3))
              have M58 : ModR WF [47, 48, 49] r (sF (sF r1 42 57 v) 42 57 u) := (M57 v).sF (by decide) _
              have f88 : gF (sF (sF r1 42 57 v) 42 57 u) 42 8 = 0 := by
                rw [gF_sF, u1f_ne _ _ (by decide)]
                exact f8u v
              obtain ⟨r4, -, -, -, E4, -, f4, M4⟩ := wk5 f88 (plaT T q)
              refine rng u (-128) 127 (sF (sF r1 42 57 v) 42 57 u) MO_work_380 ec M58 f88 (by rw [gF_sF, u1f_eq]) (by rw [gF_sF, u1f_ne _ _ (by decide)]; exact w2) (by rw [gF_sF, u1f_ne _ _ (by decide)]; exact w3) ef ⟨r4, E4, f4, M4⟩ (fun Q hQ => start Q ?_)
              unfold MO_work_265
              refine bnd_iff.mpr ?_
              rw [w4, eb, if_neg (by decide), if_neg (by decide), w5]
              refine bnd_iff.mpr (bnd_iff.mpr ?_)
              rw [← hu]
              exact hQ
        · -- a part of the opcode
          have i0 : i = 0 := by
            have : i = 0 ∨ i = 1 := by omega
            rcases this with e | e
            · exact e
            · rw [e] at zp
              exact absurd x3 zp
          subst i0
          have f35' : gF r 42 35 = nI 0 := by
            rcases A7 with e | ⟨e, -⟩
            · rw [A6] at e
              exact absurd e zp
            · exact e
          have hb0 : bkI (shF x 0) = 0 := by
            rcases hs with (e | e | e | e | e | e) | (e | e) <;> rw [e] at zp ⊢ <;> revert zp <;> decide
          have n38 : ¬ shF x 0 = 38 := fun e => zp (by rw [e]; decide)
          have ec : cvI T N (nI h) p h x 0 = v := (if_neg n38).trans hv.symm
          rw [ec]
          have M55 : ModR WF [47, 48, 49] r (sF r1 42 55 v) := M1'.sF (by decide) _
          have f85 : gF (sF r1 42 55 v) 42 8 = 0 := by
            rw [gF_sF, u1f_ne _ _ (by decide)]
            exact g2
          have good : WkS T N (nI h) p h w x 0 r (sF r1 42 55 v) := by
            refine ⟨f85, fun e => absurd e n3233, fun _ => ?_, fun _ => ?_, fun e => absurd e zp, fun e => absurd hb0 e, fun _ => ?_⟩
            · rw [gF_sF, u1f_ne _ _ (by decide)]
              exact M1.2.1 56 (by decide)
            · rw [gF_sF, u1f_eq, hv]
            · rw [gF_sF, u1f_ne _ _ (by decide)]
              exact M1.2.1 57 (by decide)
          obtain ⟨r3, -, -, -, -, E3, f3, M3⟩ := wk5 f85 (plaT T q)
          have bad : ¬ fiI (shF x 0) v = true → (∀ Q : Int32 → vmD → Prop, MO_work_242 (nI (plaT T q)) 0 (sF r1 42 55 v) Q → MO_work (nI 0) (nI (szN x)) r Q) → ∃ r' b, (∀ Q : Int32 → vmD → Prop, Q b r' → MO_work (nI 0) (nI (szN x)) r Q) ∧ ModR WF [47, 48, 49] r r' ∧ OutR (if ¬ fiI (shF x 0) v = true then some (5, plaT T q) else none) b r' (WkS T N (nI h) p h w x 0 r r') := fun y hg => ⟨r3, 0, fun Q hQ => hg Q (E3 Q hQ), M55.trans (M3.mono (by decide) (by decide)), Or.inr ⟨_, if_pos y, rfl, f3⟩⟩
          have fine : fiI (shF x 0) v = true → (∀ Q : Int32 → vmD → Prop, MO_work_242 (nI (plaT T q)) 1 (sF r1 42 55 v) Q → MO_work (nI 0) (nI (szN x)) r Q) → ∃ r' b, (∀ Q : Int32 → vmD → Prop, Q b r' → MO_work (nI 0) (nI (szN x)) r Q) ∧ ModR WF [47, 48, 49] r r' ∧ OutR (if ¬ fiI (shF x 0) v = true then some (5, plaT T q) else none) b r' (WkS T N (nI h) p h w x 0 r r') := by
            intro y hg
            refine ⟨sF r1 42 55 v, 1, fun Q hQ => hg Q ?_, M55, Or.inl ⟨if_neg (fun z => z y), rfl, good⟩⟩
            unfold MO_work_242
            rw [if_neg (by decide)]
            exact hQ
          have start : ∀ Q : Int32 → vmD → Prop, (if pkI (shF x 0) = 1 then (if v < 0 then (MO_work_191 (nI (plaT T q)) (sF r1 42 55 v) Q) else (if (7 : Int32) < v then (MO_work_191 (nI (plaT T q)) (sF r1 42 55 v) Q) else (MO_work_242 (nI (plaT T q)) 1 (sF r1 42 55 v) Q))) else (if pkI (shF x 0) = 2 then (if v < 0 then (MO_work_224 (nI (plaT T q)) (sF r1 42 55 v) Q) else (if (56 : Int32) < v then (MO_work_224 (nI (plaT T q)) (sF r1 42 55 v) Q) else (if (v - v / 8 * 8) = 0 then (MO_work_242 (nI (plaT T q)) 1 (sF r1 42 55 v) Q) else (MO_work_224 (nI (plaT T q)) (sF r1 42 55 v) Q)))) else (if v < 0 then (MO_work_241 (nI (plaT T q)) (sF r1 42 55 v) Q) else (if (2 : Int32) < v then (MO_work_241 (nI (plaT T q)) (sF r1 42 55 v) Q) else (MO_work_242 (nI (plaT T q)) 1 (sF r1 42 55 v) Q))))) → MO_work (nI 0) (nI (szN x)) r Q := by
            intro Q hQ
            refine start Q ?_
            have z1 : (0 : Int32) < pkI (shF x 0) := by
              rcases hs with (e | e | e | e | e | e) | (e | e) <;> rw [e] at zp ⊢ <;> revert zp <;> decide
            rw [if_pos z1, if_pos f35']
            exact hQ
          by_cases b1 : shF x 0 = 39
          · have ep : pkI (shF x 0) = 1 := if_pos b1
            have ef : fiI (shF x 0) v = !(decide (v < 0) || decide (7 < v)) := by
              rw [b1]
              exact (if_neg (by decide)).trans ((if_neg (by decide)).trans ((if_neg (by decide)).trans (if_pos (by decide))))
            have start : ∀ Q : Int32 → vmD → Prop, (if v < 0 then (MO_work_191 (nI (plaT T q)) (sF r1 42 55 v) Q) else (if (7 : Int32) < v then (MO_work_191 (nI (plaT T q)) (sF r1 42 55 v) Q) else (MO_work_242 (nI (plaT T q)) 1 (sF r1 42 55 v) Q))) → MO_work (nI 0) (nI (szN x)) r Q := fun Q hQ => start Q (by rw [if_pos ep]; exact hQ)
            by_cases y1 : v < 0
            · exact bad (by rw [ef, decide_eq_true y1]; exact Bool.false_ne_true) (fun Q hQ => start Q (by rw [if_pos y1]; exact hQ))
            · by_cases y2 : 7 < v
              · exact bad (by rw [ef, decide_eq_true y2, Bool.or_true]; exact Bool.false_ne_true) (fun Q hQ => start Q (by rw [if_neg y1, if_pos y2]; exact hQ))
              · exact fine (by rw [ef, decide_eq_false y1, decide_eq_false y2]; rfl) (fun Q hQ => start Q (by rw [if_neg y1, if_neg y2]; exact hQ))
          · by_cases b2 : shF x 0 = 40
            · have ep : pkI (shF x 0) = 2 := (if_neg b1).trans (if_pos b2)
              have ef : fiI (shF x 0) v = (!(decide (v < 0) || decide (56 < v)) && decide (v &&& 7 = 0)) := by
                rw [b2]
                exact (if_neg (by decide)).trans ((if_neg (by decide)).trans ((if_neg (by decide)).trans ((if_neg (by decide)).trans (if_pos (by decide)))))
              have start : ∀ Q : Int32 → vmD → Prop, (if v < 0 then (MO_work_224 (nI (plaT T q)) (sF r1 42 55 v) Q) else (if (56 : Int32) < v then (MO_work_224 (nI (plaT T q)) (sF r1 42 55 v) Q) else (if (v - v / 8 * 8) = 0 then (MO_work_242 (nI (plaT T q)) 1 (sF r1 42 55 v) Q) else (MO_work_224 (nI (plaT T q)) (sF r1 42 55 v) Q)))) → MO_work (nI 0) (nI (szN x)) r Q := fun Q hQ => start Q (by rw [ep, if_neg (by decide), if_pos rfl]; exact hQ)
              by_cases y1 : v < 0
              · exact bad (by rw [ef, decide_eq_true y1]; exact Bool.false_ne_true) (fun Q hQ => start Q (by rw [if_pos y1]; exact hQ))
              · by_cases y2 : 56 < v
                · exact bad (by rw [ef, decide_eq_true y2, Bool.or_true]; exact Bool.false_ne_true) (fun Q hQ => start Q (by rw [if_neg y1, if_pos y2]; exact hQ))
                · obtain ⟨j, hj, ej⟩ := nat_of_le (n := 56) (N := 56) rfl (by omega) y1 y2
                  have m8 := mod8 (k := j) (by omega)
                  rw [← ej] at m8
                  by_cases y3 : v &&& 7 = 0
                  · exact fine (by rw [ef, decide_eq_false y1, decide_eq_false y2, decide_eq_true y3]; rfl) (fun Q hQ => start Q (by rw [if_neg y1, if_neg y2, if_pos (m8.mpr y3)]; exact hQ))
                  · exact bad (by rw [ef, decide_eq_false y3, Bool.and_false]; exact Bool.false_ne_true) (fun Q hQ => start Q (by rw [if_neg y1, if_neg y2, if_neg (fun z => y3 (m8.mp z))]; exact hQ))
            · have b3 : shF x 0 = 41 := by
                rcases hs with (e | e | e | e | e | e) | (e | e)
                · rw [e] at zp; exact absurd (by decide) zp
                · rw [e] at zp; exact absurd (by decide) zp
                · exact absurd e n38
                · exact absurd e b1
                · exact absurd e b2
                · exact e
                · rw [e] at zp; exact absurd (by decide) zp
                · rw [e] at zp; exact absurd (by decide) zp
              have ep : pkI (shF x 0) = 3 := (if_neg b1).trans ((if_neg b2).trans (if_pos b3))
              have ef : fiI (shF x 0) v = !(decide (v < 0) || decide (2 < v)) := by
                rw [b3]
                exact (if_neg (by decide)).trans ((if_neg (by decide)).trans ((if_neg (by decide)).trans ((if_neg (by decide)).trans ((if_neg (by decide)).trans (if_pos (by decide))))))
              have start : ∀ Q : Int32 → vmD → Prop, (if v < 0 then (MO_work_241 (nI (plaT T q)) (sF r1 42 55 v) Q) else (if (2 : Int32) < v then (MO_work_241 (nI (plaT T q)) (sF r1 42 55 v) Q) else (MO_work_242 (nI (plaT T q)) 1 (sF r1 42 55 v) Q))) → MO_work (nI 0) (nI (szN x)) r Q := fun Q hQ => start Q (by rw [ep, if_neg (by decide), if_neg (by decide)]; exact hQ)
              by_cases y1 : v < 0
              · exact bad (by rw [ef, decide_eq_true y1]; exact Bool.false_ne_true) (fun Q hQ => start Q (by rw [if_pos y1]; exact hQ))
              · by_cases y2 : 2 < v
                · exact bad (by rw [ef, decide_eq_true y2, Bool.or_true]; exact Bool.false_ne_true) (fun Q hQ => start Q (by rw [if_neg y1, if_pos y2]; exact hQ))
                · exact fine (by rw [ef, decide_eq_false y1, decide_eq_false y2]; rfl) (fun Q hQ => start Q (by rw [if_neg y1, if_neg y2]; exact hQ))
      · have hbd := xT_i hL (N := N) (here := nI h) ql e g1
        refine ⟨r1, 0, fun Q hQ => start Q ?_, M1', Or.inr ⟨e, by rw [eA, g1, thF_some], rfl, g2⟩⟩
        rw [g2.1, if_pos (show (0 : Int32) < nI e.1 from nI_lt (a := 0) hbd.1 (by omega))]
        exact hQ
    · have k30 : k < 30 := by omega
      obtain ⟨s1, s2, s3⟩ := small (by rw [adj3.1 k30]; omega)
      rw [adj3.1 k30] at s3
      have n3233 : ¬ (shF x i = 32 ∨ shF x i = 33) := by
        rw [s3]
        intro z
        rcases z with z | z
        · have := (nI_eq (b := 32) (by omega) (by omega)).mp z
          omega
        · have := (nI_eq (b := 33) (by omega) (by omega)).mp z
          omega
      have eR : thF (opA T N (nI h) p i) (opR T N (nI h) p h x i) = none := by
        cases e : oFr T (lsT T N (nI h) p i) with
        | none => exact (noexp e).1
        | some q =>
          exfalso
          have := oKd_fr' e
          omega
      rw [eR]
      refine ⟨r, 1, fun Q hQ => ?_, ModR.refl _ _ _, Or.inl ⟨rfl, rfl, h8, fun e => absurd e n3233, fun _ => rfl, fun e => absurd s1 e, fun _ => rfl, fun e => absurd s2 e, fun _ => rfl⟩⟩
      unfold MO_work
      refine ⟨ix8, bnd_iff.mpr ?_⟩
      try rw [nI_clamp (show i < 2 ^ 31 by omega)]
      try rw [o50]
      rw [if_neg (fun z => kb14 (c14.mp z))]
      unfold MO_work_27
      refine ⟨ix8, bnd_iff.mpr ?_⟩
      try rw [nI_clamp (show i < 2 ^ 31 by omega)]
      try rw [o50]
      rw [if_neg (fun z => k34 (Or.inl (c16.mp z)))]
      refine ⟨ix8, bnd_iff.mpr ?_⟩
      try rw [nI_clamp (show i < 2 ^ 31 by omega)]
      try rw [o50]
      rw [if_neg (fun z => k34 (Or.inr (c15.mp z)))]
      refine ⟨ix8, bnd_iff.mpr ?_⟩
      try rw [nI_clamp (show i < 2 ^ 31 by omega)]
      try rw [o50]
      rw [if_neg (fun z => kb14 (c14.mp z))]
      exact hQ
