/-! The reference reads an exp -/
def ropN (k : Nat) : Nat := if k = 40 then 1 else if k = 109 then 2 else if k = 126 then 3 else if k = 60 then 300 else if k = 62 then 301 else k
def FltR (r : vmD) (T : List Tk) (tr : Nat × Nat) : Prop := gF r 42 8 = nI tr.1 ∧ gF r 42 9 = nI (tk T tr.2).2.1
abbrev RF : List Nat := [2, 3, 4, 5, 6, 8, 9, 16, 18, 19, 22]
abbrev RA : List Nat := [47, 48, 49]
/-- the reference's stacks, under the class's words for them -/
def SR (kf : Bool) (T : List Tk) (r : vmD) (os : List Op) (v : List Vl) (tr : Nat × Nat) : Prop := gF r 42 16 = nI os.length ∧ gF r 42 18 = nI v.length ∧ gF r 42 19 = nI (opn os) ∧ gF r 42 8 = 0 ∧ Stk (gA r 47) (os.map (fun o => nI (ropN o.1))) ∧ Stk (gA r 48) (os.map (fun o => nI (tk T o.2).2.1)) ∧ (kf = true → tr.1 = 0 ∧ Stk (gA r 49) (v.map (fun x => x.1)))
theorem rop_e : ∀ k, k < 128 → ((ropN k = 1 ↔ k = 40 ∨ k = 1) ∧ (ropN k = 2 ↔ k = 109 ∨ k = 2) ∧ (ropN k = 3 ↔ k = 126 ∨ k = 3) ∧ (ropN k = 47 ↔ k = 47)) := by decide +kernel
theorem rop_b (k : Nat) (h : k < 128) : ropN k < 302 := by
  unfold ropN
  repeat' split
  all_goals omega
theorem CurR.mod {F A : List Nat} {r r' : vmD} {t : Tk} (h : CurR r t) (M : ModR F A r r') (h2 : ¬ 2 ∈ F) (h3 : ¬ 3 ∈ F) (h4 : ¬ 4 ∈ F) (h5 : ¬ 5 ∈ F) (h6 : ¬ 6 ∈ F) (h7 : gG r' 42 7 = gG r 42 7) : CurR r' t := by
  unfold CurR at h ⊢
  rw [M.2.1 2 h2, M.2.1 3 h3, M.2.1 4 h4, M.2.1 5 h5, M.2.1 6 h6, h7]
  exact h
abbrev AF2 : List Nat := [8, 9, 16, 18, 19]
theorem wrongR {F A : List Nat} {r0 r : vmD} (M : ModR F A r0 r) (h8 : gF r 42 8 = 0) (h8m : 8 ∈ F) (h9m : 9 ∈ F) (k p : Int32) : ∃ r', (∀ Q : Int32 → vmD → Prop, Q 0 r' → MO_wrong k p r Q) ∧ gF r' 42 8 = k ∧ gF r' 42 9 = p ∧ ModR F A r0 r' ∧ gG r' = gG r := by
  refine ⟨sF (sF r 42 8 k) 42 9 p, fun Q hQ => ?_, ?_, ?_, (M.sF h8m _).sF h9m _, rfl⟩
  · unfold MO_wrong
    rw [h8, if_pos rfl]
    exact bnd_iff.mpr (bnd_iff.mpr hQ)
  · rw [gF_sF, u1f_ne _ _ (by decide), gF_sF, u1f_eq]
  · rw [gF_sF, u1f_eq]
theorem opB_r {k : Nat} (hk : k < 128) (h0 : 0 < lev k) (h7 : lev k < 7) (a b : Int32) (hz : k = 47 → ¬ b = 0) (d : vmD) (Q : Int32 → vmD → Prop) (hQ : MO_apply_278 (opB k a b) ((gF d 42 18) - 1) d Q) : MO_apply_152 (nI (ropN k)) a b d Q := by
  unfold MO_apply_152
  rcases joinK k hk h0 h7 with rfl | rfl | rfl | rfl | rfl | rfl | rfl | rfl | rfl
  · rw [if_neg (by decide), if_neg (by decide), if_pos (by decide)]
    exact hQ
  · rw [if_neg (by decide), if_neg (by decide), if_neg (by decide), if_neg (by decide), if_neg (by decide), if_neg (by decide), if_neg (by decide), if_pos (by decide)]
    exact hQ
  · rw [if_neg (by decide), if_neg (by decide), if_neg (by decide), if_neg (by decide), if_neg (by decide), if_pos (by decide)]
    exact hQ
  · rw [if_neg (by decide), if_neg (by decide), if_neg (by decide), if_neg (by decide), if_neg (by decide), if_neg (by decide), if_pos (by decide)]
    exact hQ
  · rw [if_neg (by decide), if_neg (by decide), if_neg (by decide), if_pos (by decide)]
    exact hQ
  · rw [if_neg (by decide), if_neg (by decide), if_neg (by decide), if_neg (by decide), if_pos (by decide)]
    exact hQ
  · rw [if_neg (by decide), if_pos (by decide)]
    exact hQ
  · rw [if_pos (by decide)]
    exact hQ
  · rw [if_neg (by decide), if_neg (by decide), if_neg (by decide), if_neg (by decide), if_neg (by decide), if_neg (by decide), if_neg (by decide), if_neg (by decide)]
    refine ⟨hz rfl, ?_⟩
    have e : opB 47 a b = a / b := by
      show (if b = 0 then 0 else a / b) = _
      rw [if_neg (hz rfl)]
    rw [e] at hQ
    exact hQ
theorem nu_1 (k : Nat) (h : k < 128) (h7 : lev k = 7) : k = 126 ∨ k = 109 := by
  have h40 : ¬ k = 40 := fun z => by rw [z] at h7; revert h7; decide
  have := (isO_7 k).mpr (Or.inr h7)
  unfold isO at this
  simp only [Bool.or_eq_true, decide_eq_true_eq] at this
  rcases this with z | z | z
  · exact absurd z h40
  · exact Or.inl z
  · exact Or.inr z
/-- one sign is done -/
theorem applyR {kf : Bool} {T : List Tk} {r : vmD} {o : Op} {os : List Op} {v : List Vl} {tr : Nat × Nat} {t : Nat} (hS : SR kf T r (o :: os) v tr) (hJ : XJ false (o :: os) v tr t) (h40 : ¬ o.1 = 40) : ∃ r', ModR AF2 RA r r' ∧ gG r' = gG r ∧ ((kf = true ∧ ¬ (apT2 o v tr).1 = 0 ∧ (∀ Q : Int32 → vmD → Prop, Q 0 r' → MO_apply (kb kf) r Q) ∧ FltR r' T (apT2 o v tr) ∧ ¬ lev o.1 = 7) ∨ ((∀ Q : Int32 → vmD → Prop, Q 1 r' → MO_apply (kb kf) r Q) ∧ SR kf T r' os (apV o v) (apT2 o v tr))) := by
  obtain ⟨hI, hO, hK⟩ := hJ
  obtain ⟨g1, g2, g3, g4⟩ := hI.pop h40
  have hl := hI.len
  have ho := hI.1.2.1
  have hr4 := rop_e o.1 ho
  have hrb := rop_b o.1 ho
  obtain ⟨s1, s2, s3, s8, s47, s48, s49⟩ := hS
  have hll : os.length + 1 ≤ 286 := hl.1
  have e1 : nI (o :: os).length - 1 = nI os.length := nI_pred _
  have t47 : gA r 47 os.length = nI (ropN o.1) := by
    have := s47.1
    rw [map_len] at this
    exact this
  have t48 : gA r 48 os.length = nI (tk T o.2).2.1 := by
    have := s48.1
    rw [map_len] at this
    exact this
  obtain ⟨r1, hr1⟩ : ∃ r1 : vmD, r1 = sF r 42 16 (nI os.length) := ⟨_, rfl⟩
  have M1 : ModR AF2 RA r r1 := by
    rw [hr1]
    exact (ModR.refl AF2 RA r).sF (by decide) _
  have q16 : gF r1 42 16 = nI os.length := by rw [hr1, gF_sF, u1f_eq]
  have qx : ∀ f, ¬ f = 16 → gF r1 42 f = gF r 42 f := fun f hf => by rw [hr1, gF_sF, u1f_ne _ _ hf]
  have qA : gA r1 = gA r := by rw [hr1]; rfl
  have ck : ∀ (m : Nat) (M : Int32), M = nI m → m < 400 → (nI (ropN o.1) = M ↔ ropN o.1 = m) := fun m M hM hm => by rw [hM]; exact nI_eq (by omega) (by omega)
  have start : ∀ Q : Int32 → vmD → Prop, (if nI (ropN o.1) = 2 then (MO_apply_30 (nI (ropN o.1)) r1 Q) else (if nI (ropN o.1) = 3 then (MO_apply_30 (nI (ropN o.1)) r1 Q) else (bnd (sF r1 42 18 ((gF r1 42 18) - 1)) fun d_14 => ixOk ((gF d_14 42 18) - 1) 400 ∧ bnd (gA d_14 49 ((gF d_14 42 18) - 1).toNatClampNeg) fun y_16 => ixOk (gF d_14 42 18) 400 ∧ bnd (gA d_14 49 (gF d_14 42 18).toNatClampNeg) fun y_18 => if nI (ropN o.1) = 47 then (if y_18 = 0 then (if kb kf = 0 then (MO_apply_152 (nI (ropN o.1)) y_16 1 d_14 Q) else (ixOk (gF d_14 42 16) 400 ∧ bnd (gA d_14 48 (gF d_14 42 16).toNatClampNeg) fun y_34 => MO_wrong 5 y_34 d_14 fun r_36 d_35 => (r_36 = 0 ∨ r_36 = 1) ∧ Q r_36 d_35)) else (MO_apply_152 (nI (ropN o.1)) y_16 y_18 d_14 Q)) else (MO_apply_152 (nI (ropN o.1)) y_16 y_18 d_14 Q)))) → MO_apply (kb kf) r Q := by
    intro Q hQ
    unfold MO_apply
    rw [s1, e1]
    refine bnd_iff.mpr ?_
    rw [← hr1, q16]
    refine ⟨nI_in (by omega) (by omega), bnd_iff.mpr ?_⟩
    rw [nI_clamp (by omega), qA, t47]
    exact hQ
  by_cases h7 : lev o.1 = 7
  · rw [if_pos h7] at g3 g4
    cases v with
    | nil => exact absurd g4 (by show ¬ 1 ≤ 0; omega)
    | cons x v =>
      have hlen : v.length + 1 ≤ 287 := hl.2
      have eV : apV o (x :: v) = ((if o.1 = 126 then x.1 ^^^ (-1) else -x.1), x.2) :: v := by
        unfold apV
        rw [if_pos h7]
        rfl
      have eT : apT2 o (x :: v) tr = tr := by
        unfold apT2
        rw [if_pos h7]
      have e2 : nI (x :: v).length - 1 = nI v.length := nI_pred _
      have e3 : nI (opn (o :: os)) - 1 = nI (opn os) := by
        rw [g3, show (1 : Int32) = nI 1 from rfl, pk_sub (by omega)]
        exact congrArg nI (by omega)
      obtain ⟨nv, hnv⟩ : ∃ nv : Int32, nv = if o.1 = 126 then (gA r 49 v.length) ^^^ (-1) else -(gA r 49 v.length) := ⟨_, rfl⟩
      refine ⟨sA (sF r1 42 19 (nI (opn os))) 49 v.length nv, (M1.sF (by decide) _).sA (by decide) _ _, by rw [hr1]; rfl, Or.inr ⟨fun Q hQ => start Q ?_, ?_⟩⟩
      · have h30 : MO_apply_30 (nI (ropN o.1)) r1 Q := by
          unfold MO_apply_30
          refine bnd_iff.mpr ?_
          rw [qx 19 (by decide), s3, e3]
          have q18 : gF (sF r1 42 19 (nI (opn os))) 42 18 = nI (x :: v).length := by rw [gF_sF, u1f_ne _ _ (by decide), qx 18 (by decide), s2]
          rw [q18, e2]
          have hA : gA (sF r1 42 19 (nI (opn os))) = gA r := qA
          unfold MO_apply_83
          rcases nu_1 o.1 ho h7 with z | z
          · rw [if_pos z] at hnv
            rw [if_neg (fun w => by have := (ck 2 2 rfl (by omega)).mp w; have := hr4.2.1.mp this; omega)]
            refine ⟨nI_in (by omega) (by omega), bnd_iff.mpr ⟨nI_in (by omega) (by omega), bnd_iff.mpr ?_⟩⟩
            rw [nI_clamp (by omega), hA, ← hnv]
            exact hQ
          · rw [if_neg (by omega)] at hnv
            rw [if_pos ((ck 2 2 rfl (by omega)).mpr (hr4.2.1.mpr (Or.inl z)))]
            refine ⟨nI_in (by omega) (by omega), bnd_iff.mpr ⟨nI_in (by omega) (by omega), bnd_iff.mpr ?_⟩⟩
            rw [nI_clamp (by omega), hA, ← hnv]
            exact hQ
        rcases nu_1 o.1 ho h7 with z | z
        · rw [if_neg (fun w => by have := (ck 2 2 rfl (by omega)).mp w; have := hr4.2.1.mp this; omega), if_pos ((ck 3 3 rfl (by omega)).mpr (hr4.2.2.1.mpr (Or.inl z)))]
          exact h30
        · rw [if_pos ((ck 2 2 rfl (by omega)).mpr (hr4.2.1.mpr (Or.inl z)))]
          exact h30
      · rw [eV, eT]
        unfold SR
        rw [gF_sA, gF_sF, u1f_ne _ _ (by decide), u1f_ne _ _ (by decide), u1f_eq, u1f_ne _ _ (by decide), q16, qx 18 (by decide), s2, qx 8 (by decide), s8, gA_sA_ne _ _ _ (by decide), gA_sA_ne _ _ _ (by decide), show gA (sF r1 42 19 (nI (opn os))) = gA r from qA]
        refine ⟨rfl, rfl, rfl, rfl, s47.2, s48.2, fun z => ⟨(s49 z).1, ?_⟩⟩
        have h49 := (s49 z).2
        have hx : gA r 49 v.length = x.1 := by
          have := h49.1
          rw [map_len] at this
          exact this
        rw [gA_sA, gA_sF, qA]
        rw [hx] at hnv
        rw [hnv]
        have := Stk.push (if o.1 = 126 then x.1 ^^^ (-1) else -x.1) h49.2
        rw [map_len] at this
        exact this
  · rw [if_neg h7] at g3 g4
    have hb := hI.1.2.2
    have hlv : 0 < lev o.1 ∧ lev o.1 < 7 := by
      rcases hb with z | z | z
      · exact absurd z h40
      · exact absurd z h7
      · exact ⟨z.1, z.2.1⟩
    match v, g4, hK with
    | [], g4, _ => exact absurd g4 (by show ¬ 2 ≤ 0; omega)
    | [b], g4, _ => exact absurd g4 (by show ¬ 2 ≤ 1; omega)
    | b :: a :: v, _, hK =>
      have hlen : v.length + 1 + 1 ≤ 287 := hl.2
      have eV : apV o (b :: a :: v) = (opB o.1 a.1 b.1, a.2 && (b.2 && !(decide (o.1 = 47) && decide (b.1 = 0)))) :: v := by
        unfold apV
        rw [if_neg h7]
        rfl
      have eT : apT2 o (b :: a :: v) tr = if o.1 = 47 ∧ b.1 = 0 ∧ b.2 = true ∧ tr.1 = 0 then (5, o.2) else tr := by
        unfold apT2
        rw [if_neg h7]
        rfl
      have e2 : nI (b :: a :: v).length - 1 = nI (v.length + 1) := nI_pred _
      have e3 : nI (v.length + 1) - 1 = nI v.length := nI_pred _
      obtain ⟨r2, hr2⟩ : ∃ r2 : vmD, r2 = sF r1 42 18 (nI (v.length + 1)) := ⟨_, rfl⟩
      have M2 : ModR AF2 RA r r2 := by
        rw [hr2]
        exact M1.sF (by decide) _
      have w18 : gF r2 42 18 = nI (v.length + 1) := by rw [hr2, gF_sF, u1f_eq]
      have w16 : gF r2 42 16 = nI os.length := by rw [hr2, gF_sF, u1f_ne _ _ (by decide), q16]
      have wx : ∀ f, ¬ f = 16 → ¬ f = 18 → gF r2 42 f = gF r 42 f := fun f a1 a2 => by rw [hr2, gF_sF, u1f_ne _ _ a2, qx f a1]
      have wA : gA r2 = gA r := by rw [hr2]; exact qA
      have n2 : ¬ nI (ropN o.1) = 2 := fun w => by
        rcases hr4.2.1.mp ((ck 2 2 rfl (by omega)).mp w) with z | z
        · rw [z] at h7; exact h7 (by decide)
        · have h0 := hlv.1; rw [z] at h0; revert h0; decide
      have n3 : ¬ nI (ropN o.1) = 3 := fun w => by
        rcases hr4.2.2.1.mp ((ck 3 3 rfl (by omega)).mp w) with z | z
        · rw [z] at h7; exact h7 (by decide)
        · have h0 := hlv.1; rw [z] at h0; revert h0; decide
      have c47 : nI (ropN o.1) = 47 ↔ o.1 = 47 := (ck 47 47 rfl (by omega)).trans hr4.2.2.2
      have start2 : ∀ Q : Int32 → vmD → Prop, (if o.1 = 47 ∧ gA r 49 (v.length + 1) = 0 then (if kf = true then MO_wrong 5 (nI (tk T o.2).2.1) r2 (fun r_36 d_35 => (r_36 = 0 ∨ r_36 = 1) ∧ Q r_36 d_35) else MO_apply_152 (nI (ropN o.1)) (gA r 49 v.length) 1 r2 Q) else MO_apply_152 (nI (ropN o.1)) (gA r 49 v.length) (gA r 49 (v.length + 1)) r2 Q) → MO_apply (kb kf) r Q := by
        intro Q hQ
        refine start Q ?_
        rw [if_neg n2, if_neg n3]
        refine bnd_iff.mpr ?_
        rw [qx 18 (by decide), s2, e2, ← hr2, w18, e3]
        refine ⟨nI_in (by omega) (by omega), bnd_iff.mpr ⟨nI_in (by omega) (by omega), bnd_iff.mpr ?_⟩⟩
        rw [nI_clamp (show v.length < 2 ^ 31 by omega), nI_clamp (show v.length + 1 < 2 ^ 31 by omega), wA]
        by_cases z : o.1 = 47
        · rw [if_pos (c47.mpr z)]
          by_cases w : gA r 49 (v.length + 1) = 0
          · rw [if_pos ⟨z, w⟩] at hQ
            rw [if_pos w]
            by_cases k : kf = true
            · rw [if_pos k] at hQ
              rw [k, if_neg (by decide), w16]
              refine ⟨nI_in (by omega) (by omega), bnd_iff.mpr ?_⟩
              rw [nI_clamp (by omega), t48]
              exact hQ
            · rw [if_neg k] at hQ
              rw [if_pos ((kb_0 _).mpr k)]
              exact hQ
          · rw [if_neg (fun q => w q.2)] at hQ
            rw [if_neg w]
            exact hQ
        · rw [if_neg (fun q => z q.1)] at hQ
          rw [if_neg (fun q => z (c47.mp q))]
          exact hQ
      -- laid down
      have lay : ∀ (x : Int32) (Q : Int32 → vmD → Prop), Q 1 (sA r2 49 v.length x) → MO_apply_278 x ((gF r2 42 18) - 1) r2 Q := by
        intro x Q hQ
        unfold MO_apply_278
        rw [w18, e3]
        refine ⟨nI_in (by omega) (by omega), bnd_iff.mpr ?_⟩
        rw [nI_clamp (by omega)]
        exact hQ
      have srx : ∀ (x : Int32) (w : Vl) (tr' : Nat × Nat), (kf = true → tr'.1 = 0 ∧ x = w.1) → SR kf T (sA r2 49 v.length x) os (w :: v) tr' := by
        intro x w tr' hx
        unfold SR
        rw [gF_sA, w16, w18, wx 19 (by decide) (by decide), s3, wx 8 (by decide) (by decide), s8, gA_sA_ne _ _ _ (by decide), gA_sA_ne _ _ _ (by decide), wA]
        refine ⟨rfl, rfl, by rw [g3]; exact congrArg nI (by omega), rfl, s47.2, s48.2, fun z => ⟨(hx z).1, ?_⟩⟩
        have h49 := (s49 z).2
        rw [gA_sA, wA, (hx z).2]
        have := Stk.push w.1 h49.2.2
        rw [map_len] at this
        exact this
      have vals : kf = true → gA r 49 (v.length + 1) = b.1 ∧ gA r 49 v.length = a.1 ∧ b.2 = true ∧ tr.1 = 0 := by
        intro k
        have h49 := (s49 k).2
        refine ⟨?_, ?_, ?_, (s49 k).1⟩
        · have := h49.1
          rw [map_len] at this
          exact this
        · have := h49.2.1
          rw [map_len] at this
          exact this
        · exact hK.1 (s49 k).1 b List.mem_cons_self
      by_cases cz : o.1 = 47 ∧ gA r 49 (v.length + 1) = 0
      · by_cases k : kf = true
        · obtain ⟨v1, v2, v3, v4⟩ := vals k
          have eT2 : apT2 o (b :: a :: v) tr = (5, o.2) := by
            rw [eT, if_pos ⟨cz.1, by rw [← v1]; exact cz.2, v3, v4⟩]
          obtain ⟨r3, E, f8, f9, M3, G3⟩ := wrongR M2 (by rw [wx 8 (by decide) (by decide), s8]) (by decide) (by decide) 5 (nI (tk T o.2).2.1)
          refine ⟨r3, M3, by rw [G3, hr2, hr1]; rfl, Or.inl ⟨k, by rw [eT2]; exact (show ¬ (5 : Nat) = 0 by decide), fun Q hQ => start2 Q ?_, ?_, h7⟩⟩
          · rw [if_pos cz, if_pos k]
            exact E _ ⟨Or.inl rfl, hQ⟩
          · rw [eT2]
            exact ⟨f8, f9⟩
        · have hz1 : o.1 = 47 → ¬ (1 : Int32) = 0 := fun _ => by decide
          refine ⟨sA r2 49 v.length (opB o.1 (gA r 49 v.length) 1), M2.sA (by decide) _ _, by rw [hr2, hr1]; rfl, Or.inr ⟨fun Q hQ => start2 Q ?_, ?_⟩⟩
          · rw [if_pos cz, if_neg k]
            exact opB_r ho hlv.1 hlv.2 _ _ hz1 r2 Q (lay _ Q hQ)
          · rw [eV]
            exact srx _ _ _ (fun z => absurd z k)
      · refine ⟨sA r2 49 v.length (opB o.1 (gA r 49 v.length) (gA r 49 (v.length + 1))), M2.sA (by decide) _ _, by rw [hr2, hr1]; rfl, Or.inr ⟨fun Q hQ => start2 Q ?_, ?_⟩⟩
        · rw [if_neg cz]
          exact opB_r ho hlv.1 hlv.2 _ _ (fun z w => cz ⟨z, w⟩) r2 Q (lay _ Q hQ)
        · rw [eV]
          refine srx _ _ _ (fun k => ?_)
          obtain ⟨v1, v2, v3, v4⟩ := vals k
          rw [eT, v1, v2]
          rw [v1] at cz
          rw [if_neg (fun z => cz ⟨z.1, z.2.1⟩)]
          exact ⟨v4, rfl⟩
