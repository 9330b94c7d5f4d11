/-! The reference reads an exp: its loops -/
theorem apT2_keep {o : Op} {v : List Vl} {tr : Nat × Nat} (h : ¬ tr.1 = 0) : apT2 o v tr = tr := by
  unfold apT2 apt
  split
  · rfl
  · split
    · rw [if_neg (fun z => h z.2.2.2)]
    · rfl
theorem stl_keep (L : Nat) : ∀ (os : List Op) (v : List Vl) (tr : Nat × Nat), ¬ tr.1 = 0 → (stl L os v tr).2.2 = tr := by
  intro os
  induction os with
  | nil => intro v tr _; rfl
  | cons o os ih =>
    intro v tr h
    unfold stl
    split
    · rfl
    · rw [apT2_keep h]
      exact ih _ _ h
theorem tro_keep {x : Vl} {tr : Nat × Nat} {t : Nat} (h : ¬ tr.1 = 0) : tro x tr t = tr := by
  unfold tro
  rw [if_neg (fun z => h z.2)]
theorem xrun_keep {T : List Tk} {N : Nt} {here : Int32} : ∀ (f : Nat) (w : Bool) (os : List Op) (v : List Vl) (tr : Nat × Nat) (t : Nat), ¬ tr.1 = 0 → (xrun T N here f w os v tr t).2.2.2.2 = tr := by
  intro f
  induction f with
  | zero => intro w os v tr t _; rfl
  | succ f ih =>
    intro w os v tr t h
    unfold xrun
    split
    · split
      · split
        · rfl
        · exact ih _ _ _ _ _ h
      · split
        · rfl
        · rename_i x _
          have e : (stl 6 os (x :: v) (tro x tr t)).2.2 = tr := by
            rw [tro_keep h]
            exact stl_keep 6 _ _ _ h
          rw [e]
          exact ih _ _ _ _ _ h
    · split
      · have e1 : (stl 1 os v tr).2.2 = tr := stl_keep 1 _ _ _ h
        have e2 : (stl 6 (stl 1 os v tr).1.tail (stl 1 os v tr).2.1 (stl 1 os v tr).2.2).2.2 = tr := by
          rw [e1]
          exact stl_keep 6 _ _ _ h
        rw [e2]
        exact ih _ _ _ _ _ h
      · split
        · have e1 : (stl (lev (tk T t).1) os v tr).2.2 = tr := stl_keep _ _ _ _ h
          rw [e1]
          exact ih _ _ _ _ _ h
        · rfl
theorem stl_comp {L M : Nat} (h : L ≤ M) : ∀ (os : List Op) (v : List Vl) (tr : Nat × Nat), stl L (stl M os v tr).1 (stl M os v tr).2.1 (stl M os v tr).2.2 = stl L os v tr := by
  intro os
  induction os with
  | nil => intro v tr; rfl
  | cons o os ih =>
    intro v tr
    by_cases e : lev o.1 < M
    · have e1 : stl M (o :: os) v tr = (o :: os, v, tr) := by
        show (if lev o.1 < M then _ else _) = _
        rw [if_pos e]
      rw [e1]
    · have e1 : stl M (o :: os) v tr = stl M os (apV o v) (apT2 o v tr) := by
        show (if lev o.1 < M then _ else _) = _
        rw [if_neg e]
      have e2 : stl L (o :: os) v tr = stl L os (apV o v) (apT2 o v tr) := by
        show (if lev o.1 < L then _ else _) = _
        rw [if_neg (by omega)]
      rw [e1, e2]
      exact ih _ _
/-- no unary on top -/
def NU (os : List Op) : Prop := ∀ o os', os = o :: os' → ¬ lev o.1 = 7
theorem NU.pop {o : Op} {os : List Op} (h : NU (o :: os)) (hI : Inv (o :: os)) (h40 : ¬ o.1 = 40) : NU os := by
  intro o' os' e
  rcases hI.2.2 with z | z | z
  · exact absurd z h40
  · exact absurd z (h o os rfl)
  · have := z.2.2.2 o' os' e
    have := z.2.1
    omega
theorem lev_0 {o : Op} (h : o.1 < 128) (hI : o.1 = 40 ∨ lev o.1 = 7 ∨ (0 < lev o.1 ∧ lev o.1 < 7 ∧ rowL [] < 7)) : True := True.intro
theorem top_lev {o : Op} {os : List Op} (hI : Inv (o :: os)) (h40 : ¬ o.1 = 40) : 0 < lev o.1 := by
  rcases hI.2.2 with z | z | z
  · exact absurd z h40
  · omega
  · exact z.1
/-- what a row of signs done comes to, in the reference -/
def SRx (kf : Bool) (T : List Tk) (r0 r : vmD) (s : Xs) (out : Bool) : Prop := ModR AF2 RA r0 r ∧ gG r = gG r0 ∧ (out = true → kf = true ∧ ¬ s.2.2.1 = 0 ∧ FltR r T s.2.2) ∧ (out = false → SR kf T r s.1 s.2.1 s.2.2)
theorem SR.cur {kf : Bool} {T : List Tk} {r r' : vmD} {t : Tk} (h : CurR r t) (M : ModR AF2 RA r r') (hG : gG r' = gG r) : CurR r' t := h.mod M (by decide) (by decide) (by decide) (by decide) (by decide) (by rw [hG])
theorem unaR {kf : Bool} {T : List Tk} {t : Nat} : ∀ (os : List Op) (v : List Vl) (tr : Nat × Nat) (r : vmD), SR kf T r os v tr → XJ false os v tr t → ∃ r', (∀ Q : Int32 → vmD → Prop, Q 1 r' → ∃ m, MO_unaries_0 Q m (kb kf) r) ∧ SR kf T r' (stl 7 os v tr).1 (stl 7 os v tr).2.1 (stl 7 os v tr).2.2 ∧ ModR AF2 RA r r' ∧ gG r' = gG r := by
  intro os
  induction os with
  | nil =>
    intro v tr r hS hJ
    refine ⟨r, fun Q hQ => ⟨1, ?_⟩, hS, ModR.refl _ _ _, rfl⟩
    unfold MO_unaries_0
    rw [hS.1, if_neg (by decide)]
    exact hQ
  | cons o os ih =>
    intro v tr r hS hJ
    have hl := hJ.1.len
    have hll : os.length + 1 ≤ 286 := hl.1
    have ho := hJ.1.1.2.1
    have hr4 := rop_e o.1 ho
    have hrb := rop_b o.1 ho
    have e1 : nI (o :: os).length - 1 = nI os.length := nI_pred _
    have t47 : gA r 47 os.length = nI (ropN o.1) := by
      have := hS.2.2.2.2.1.1
      rw [map_len] at this
      exact this
    have hop : (0 : Int32) < nI (o :: os).length := nI_lt (a := 0) (by rw [List.length_cons]; omega) (by rw [List.length_cons]; omega)
    have ck : ∀ (m : Nat) (M : Int32), M = nI m → m < 400 → (nI (ropN o.1) = M ↔ ropN o.1 = m) := fun m M hM hm => by rw [hM]; exact nI_eq (by omega) (by omega)
    have l7 := lev_7 o.1
    by_cases h7 : lev o.1 = 7
    · have e : stl 7 (o :: os) v tr = stl 7 os (apV o v) (apT2 o v tr) := by
        show (if lev o.1 < 7 then _ else _) = _
        rw [if_neg (by omega)]
      rw [e]
      have h40 : ¬ o.1 = 40 := fun z => by rw [z] at h7; revert h7; decide
      obtain ⟨r1, M1, G1, A⟩ := applyR hS hJ h40
      rcases A with ⟨-, -, -, -, n7⟩ | ⟨E1, S1⟩
      · exact absurd h7 n7
      · obtain ⟨g1, -, -, g4⟩ := hJ.1.pop h40
        obtain ⟨r2, E2, S2, M2, G2⟩ := ih _ _ r1 S1 ⟨g1, hJ.2.1.pop, hJ.2.2.un h7⟩
        refine ⟨r2, fun Q hQ => ?_, S2, M1.trans M2, G2.trans G1⟩
        obtain ⟨m, hm⟩ := E2 Q hQ
        refine ⟨m + 1, ?_⟩
        unfold MO_unaries_0
        rw [hS.1, if_pos hop, e1]
        refine ⟨nI_in (by omega) (by omega), bnd_iff.mpr ?_⟩
        rw [nI_clamp (by omega), t47]
        have h37 : MO_unaries_37 (MO_unaries_0 Q m) (kb kf) r Q := by
          unfold MO_unaries_37
          exact E1 _ hm
        rcases nu_1 o.1 ho h7 with z | z
        · rw [if_neg (fun w => by have := (ck 2 2 rfl (by omega)).mp w; have := hr4.2.1.mp this; omega)]
          refine ⟨nI_in (by omega) (by omega), bnd_iff.mpr ?_⟩
          rw [if_pos ((ck 3 3 rfl (by omega)).mpr (hr4.2.2.1.mpr (Or.inl z)))]
          exact h37
        · rw [if_pos ((ck 2 2 rfl (by omega)).mpr (hr4.2.1.mpr (Or.inl z)))]
          exact h37
    · have e : stl 7 (o :: os) v tr = (o :: os, v, tr) := by
        show (if lev o.1 < 7 then _ else _) = _
        rw [if_pos (by omega)]
      rw [e]
      refine ⟨r, fun Q hQ => ⟨1, ?_⟩, hS, ModR.refl _ _ _, rfl⟩
      have hk : ∀ k, k < 128 → ¬ lev k = 7 → (k = 40 ∨ 0 < lev k) → ¬ ropN k = 2 ∧ ¬ ropN k = 3 := by decide +kernel
      have hpos : o.1 = 40 ∨ 0 < lev o.1 := by
        by_cases z : o.1 = 40
        · exact Or.inl z
        · exact Or.inr (top_lev hJ.1.1 z)
      obtain ⟨k2, k3⟩ := hk o.1 ho h7 hpos
      unfold MO_unaries_0
      rw [hS.1, if_pos hop, e1]
      refine ⟨nI_in (by omega) (by omega), bnd_iff.mpr ?_⟩
      rw [nI_clamp (by omega), t47, if_neg (fun w => k2 ((ck 2 2 rfl (by omega)).mp w))]
      refine ⟨nI_in (by omega) (by omega), bnd_iff.mpr ?_⟩
      rw [if_neg (fun w => k3 ((ck 3 3 rfl (by omega)).mp w))]
      exact hQ
theorem rnk_e : ∀ k, k < 128 → (k = 40 ∨ 0 < lev k) → ∀ (d : vmD) (Q : Int32 → vmD → Prop), Q (nI (if lev k = 7 then 0 else lev k)) d → MO_rank (nI (ropN k)) d Q := by
  have h : ∀ k, k < 128 → (k = 40 ∨ 0 < lev k) → (if nI (ropN k) = 38 then (3 : Int32) else if nI (ropN k) = 42 then 6 else if nI (ropN k) = 43 then 5 else if nI (ropN k) = 45 then 5 else if nI (ropN k) = 47 then 6 else if nI (ropN k) = 94 then 2 else if nI (ropN k) = 124 then 1 else if nI (ropN k) = 300 then 4 else if nI (ropN k) = 301 then 4 else 0) = nI (if lev k = 7 then 0 else lev k) := by decide +kernel
  intro k hk hp d Q hQ
  rw [← h k hk hp] at hQ
  have hq : ∀ (p : Prop) [Decidable p] (a b : Int32), Q (if p then a else b) d = if p then Q a d else Q b d := by
    intro p _ a b
    split <;> rfl
  unfold MO_rank
  simp only [hq] at hQ
  exact hQ
/-- signs are done up to a bracket: for a ) -/
theorem b36 {kf : Bool} {T : List Tk} {t : Nat} : ∀ (os : List Op) (v : List Vl) (tr : Nat × Nat) (r : vmD), SR kf T r os v tr → XJ false os v tr t → ∃ r' out, SRx kf T r r' (stl 1 os v tr) out ∧ (∀ (b0 : Int32 → vmD → Prop) (x2 : Int32) (Q : Int32 → vmD → Prop), (if out = true then Q 0 r' else MO_behind_68 b0 (kb kf) x2 r' Q) → ∃ m, MO_behind_36 b0 Q m (kb kf) x2 r) := by
  intro os
  induction os with
  | nil =>
    intro v tr r hS hJ
    refine ⟨r, false, ⟨ModR.refl _ _ _, rfl, fun z => (by cases z), fun _ => hS⟩, fun b0 x2 Q hQ => ⟨1, ?_⟩⟩
    unfold MO_behind_36
    rw [hS.1, if_neg (by decide)]
    exact hQ
  | cons o os ih =>
    intro v tr r hS hJ
    have hl := hJ.1.len
    have hll : os.length + 1 ≤ 286 := hl.1
    have ho := hJ.1.1.2.1
    have hr4 := rop_e o.1 ho
    have hrb := rop_b o.1 ho
    have e1 : nI (o :: os).length - 1 = nI os.length := nI_pred _
    have t47 : gA r 47 os.length = nI (ropN o.1) := by
      have := hS.2.2.2.2.1.1
      rw [map_len] at this
      exact this
    have hop : (0 : Int32) < nI (o :: os).length := nI_lt (a := 0) (by rw [List.length_cons]; omega) (by rw [List.length_cons]; omega)
    have c1 : nI (ropN o.1) = 1 ↔ ropN o.1 = 1 := nI_eq (b := 1) (by omega) (by omega)
    by_cases h40 : o.1 = 40
    · have e : stl 1 (o :: os) v tr = (o :: os, v, tr) := by
        show (if lev o.1 < 1 then _ else _) = _
        rw [h40, if_pos (by decide)]
      rw [e]
      refine ⟨r, false, ⟨ModR.refl _ _ _, rfl, fun z => (by cases z), fun _ => hS⟩, fun b0 x2 Q hQ => ⟨1, ?_⟩⟩
      unfold MO_behind_36
      rw [hS.1, if_pos hop, e1]
      refine ⟨nI_in (by omega) (by omega), bnd_iff.mpr ?_⟩
      rw [nI_clamp (by omega), t47, if_pos (c1.mpr (hr4.1.mpr (Or.inl h40)))]
      exact hQ
    · have hp := top_lev hJ.1.1 h40
      have e : stl 1 (o :: os) v tr = stl 1 os (apV o v) (apT2 o v tr) := by
        show (if lev o.1 < 1 then _ else _) = _
        rw [if_neg (by omega)]
      rw [e]
      have n1 : ¬ nI (ropN o.1) = 1 := fun w => by
        rcases hr4.1.mp (c1.mp w) with z | z
        · exact h40 z
        · rw [z] at hp; revert hp; decide
      obtain ⟨r1, M1, G1, A⟩ := applyR hS hJ h40
      have go : ∀ (b0 : Int32 → vmD → Prop) (x2 : Int32) (m : Nat) (Q : Int32 → vmD → Prop), (MO_apply (kb kf) r fun r_35 d_34 => if r_35 = 0 then (Q 0 d_34) else ((MO_behind_36 b0 Q m) (kb kf) x2 d_34)) → MO_behind_36 b0 Q (m + 1) (kb kf) x2 r := by
        intro b0 x2 m Q hQ
        unfold MO_behind_36
        rw [hS.1, if_pos hop, e1]
        refine ⟨nI_in (by omega) (by omega), bnd_iff.mpr ?_⟩
        rw [nI_clamp (by omega), t47, if_neg n1]
        exact hQ
      rcases A with ⟨k, nz, E1, F1, -⟩ | ⟨E1, S1⟩
      · have ek := stl_keep 1 os (apV o v) (apT2 o v tr) nz
        refine ⟨r1, true, ⟨M1, G1, fun _ => ⟨k, by rw [ek]; exact nz, by rw [ek]; exact F1⟩, fun z => (by cases z)⟩, fun b0 x2 Q hQ => ⟨1, go b0 x2 0 Q (E1 _ ?_)⟩⟩
        rw [if_pos rfl] at hQ ⊢
        exact hQ
      · obtain ⟨g1, -, -, g4⟩ := hJ.1.pop h40
        have hK2 : KT (apV o v) (apT2 o v tr) := by
          by_cases h7 : lev o.1 = 7
          · exact hJ.2.2.un h7
          · rw [if_neg h7] at g4
            exact hJ.2.2.bi h7 g4
        obtain ⟨r2, out, ⟨M2, G2, F2, S2⟩, E2⟩ := ih _ _ r1 S1 ⟨g1, hJ.2.1.pop, hK2⟩
        refine ⟨r2, out, ⟨M1.trans M2, G2.trans G1, F2, S2⟩, fun b0 x2 Q hQ => ?_⟩
        obtain ⟨m, hm⟩ := E2 b0 x2 Q hQ
        refine ⟨m + 1, go b0 x2 m Q (E1 _ ?_)⟩
        rw [if_neg (by decide)]
        exact hm
/-- signs are done that bind as tightly -/
theorem b128 {kf : Bool} {T : List Tk} {t : Nat} {L : Nat} (hL : L ≤ 6) : ∀ (os : List Op) (v : List Vl) (tr : Nat × Nat) (r : vmD), SR kf T r os v tr → XJ false os v tr t → NU os → ∃ r' out, SRx kf T r r' (stl (if L = 0 then 1 else L) os v tr) out ∧ (∀ Q : Int32 → vmD → Prop, (if out = true then Q 0 r' else MO_behind_179 (nI L) r' Q) → ∃ m, MO_behind_128 Q m (kb kf) (nI L) r) := by
  intro os
  induction os with
  | nil =>
    intro v tr r hS hJ hN
    refine ⟨r, false, ⟨ModR.refl _ _ _, rfl, fun z => (by cases z), fun _ => hS⟩, fun Q hQ => ⟨1, ?_⟩⟩
    unfold MO_behind_128
    rw [hS.1, if_neg (by decide)]
    exact hQ
  | cons o os ih =>
    intro v tr r hS hJ hN
    have hl := hJ.1.len
    have hll : os.length + 1 ≤ 286 := hl.1
    have ho := hJ.1.1.2.1
    have hr4 := rop_e o.1 ho
    have hrb := rop_b o.1 ho
    have e1 : nI (o :: os).length - 1 = nI os.length := nI_pred _
    have t47 : gA r 47 os.length = nI (ropN o.1) := by
      have := hS.2.2.2.2.1.1
      rw [map_len] at this
      exact this
    have hop : (0 : Int32) < nI (o :: os).length := nI_lt (a := 0) (by rw [List.length_cons]; omega) (by rw [List.length_cons]; omega)
    have c1 : nI (ropN o.1) = 1 ↔ ropN o.1 = 1 := nI_eq (b := 1) (by omega) (by omega)
    have l7 := lev_7 o.1
    by_cases h40 : o.1 = 40
    · have e : stl (if L = 0 then 1 else L) (o :: os) v tr = (o :: os, v, tr) := by
        show (if lev o.1 < (if L = 0 then 1 else L) then _ else _) = _
        rw [h40, if_pos (by show 0 < _; split <;> omega)]
      rw [e]
      refine ⟨r, false, ⟨ModR.refl _ _ _, rfl, fun z => (by cases z), fun _ => hS⟩, fun Q hQ => ⟨1, ?_⟩⟩
      unfold MO_behind_128
      rw [hS.1, if_pos hop, e1]
      refine ⟨nI_in (by omega) (by omega), bnd_iff.mpr ?_⟩
      rw [nI_clamp (by omega), t47, if_pos (c1.mpr (hr4.1.mpr (Or.inl h40)))]
      exact hQ
    · have hp := top_lev hJ.1.1 h40
      have h7 := hN o os rfl
      have n1 : ¬ nI (ropN o.1) = 1 := fun w => by
        rcases hr4.1.mp (c1.mp w) with z | z
        · exact h40 z
        · rw [z] at hp; revert hp; decide
      have hrank : ∀ (Q : Int32 → vmD → Prop), Q (nI (lev o.1)) r → MO_rank (nI (ropN o.1)) r Q := by
        intro Q hQ
        refine rnk_e o.1 ho (Or.inr hp) r Q ?_
        rw [if_neg h7]
        exact hQ
      have cl : nI (lev o.1) < nI L ↔ lev o.1 < L := nI_ltI (by omega) (by omega)
      by_cases hlt : lev o.1 < L
      · have e : stl (if L = 0 then 1 else L) (o :: os) v tr = (o :: os, v, tr) := by
          show (if lev o.1 < (if L = 0 then 1 else L) then _ else _) = _
          rw [if_neg (show ¬ L = 0 by omega), if_pos hlt]
        rw [e]
        refine ⟨r, false, ⟨ModR.refl _ _ _, rfl, fun z => (by cases z), fun _ => hS⟩, fun Q hQ => ⟨1, ?_⟩⟩
        unfold MO_behind_128
        rw [hS.1, if_pos hop, e1]
        refine ⟨nI_in (by omega) (by omega), bnd_iff.mpr ?_⟩
        rw [nI_clamp (by omega), t47, if_neg n1]
        refine ⟨nI_in (by omega) (by omega), bnd_iff.mpr ?_⟩
        refine hrank _ ?_
        rw [if_pos (cl.mpr hlt)]
        exact hQ
      · have e : stl (if L = 0 then 1 else L) (o :: os) v tr = stl (if L = 0 then 1 else L) os (apV o v) (apT2 o v tr) := by
          show (if lev o.1 < (if L = 0 then 1 else L) then _ else _) = _
          rw [if_neg (by split <;> omega)]
        rw [e]
        obtain ⟨r1, M1, G1, A⟩ := applyR hS hJ h40
        have go : ∀ (m : Nat) (Q : Int32 → vmD → Prop), (MO_apply (kb kf) r fun r_20 d_19 => if r_20 = 0 then (Q 0 d_19) else ((MO_behind_128 Q m) (kb kf) (nI L) d_19)) → MO_behind_128 Q (m + 1) (kb kf) (nI L) r := by
          intro m Q hQ
          unfold MO_behind_128
          rw [hS.1, if_pos hop, e1]
          refine ⟨nI_in (by omega) (by omega), bnd_iff.mpr ?_⟩
          rw [nI_clamp (by omega), t47, if_neg n1]
          refine ⟨nI_in (by omega) (by omega), bnd_iff.mpr ?_⟩
          refine hrank _ ?_
          rw [if_neg (fun w => hlt (cl.mp w))]
          exact hQ
        rcases A with ⟨k, nz, E1, F1, -⟩ | ⟨E1, S1⟩
        · have ek := stl_keep (if L = 0 then 1 else L) os (apV o v) (apT2 o v tr) nz
          refine ⟨r1, true, ⟨M1, G1, fun _ => ⟨k, by rw [ek]; exact nz, by rw [ek]; exact F1⟩, fun z => (by cases z)⟩, fun Q hQ => ⟨1, go 0 Q (E1 _ ?_)⟩⟩
          rw [if_pos rfl] at hQ ⊢
          exact hQ
        · obtain ⟨g1, -, -, g4⟩ := hJ.1.pop h40
          rw [if_neg h7] at g4
          obtain ⟨r2, out, ⟨M2, G2, F2, S2⟩, E2⟩ := ih _ _ r1 S1 ⟨g1, hJ.2.1.pop, hJ.2.2.bi h7 g4⟩ (hN.pop hJ.1.1 h40)
          refine ⟨r2, out, ⟨M1.trans M2, G2.trans G1, F2, S2⟩, fun Q hQ => ?_⟩
          obtain ⟨m, hm⟩ := E2 Q hQ
          refine ⟨m + 1, go m Q (E1 _ ?_)⟩
          rw [if_neg (by decide)]
          exact hm
