/-! The reference reads an exp, whole: behind a value -/
theorem rnk_v : ∀ k, k < 128 → 4 < k → ∀ (d : vmD) (Q : Int32 → vmD → Prop), Q (nI (if lev k = 7 then 0 else lev k)) d → MO_rank (rvl k) d Q := by
  have h : ∀ k, k < 128 → 4 < k → (if rvl k = 38 then (3 : Int32) else if rvl k = 42 then 6 else if rvl k = 43 then 5 else if rvl k = 45 then 5 else if rvl k = 47 then 6 else if rvl k = 94 then 2 else if rvl k = 124 then 1 else if rvl k = 300 then 4 else if rvl k = 301 then 4 else 0) = nI (if lev k = 7 then 0 else lev k) := by decide +kernel
  intro k hk hp d Q hQ
  rw [← h k hk hp] at hQ
  have hq : ∀ (p : Prop) [Decidable p] (a b : Int32), Q (if p then a else b) d = if p then Q a d else Q b d := by
    intro p _ a b
    split <;> rfl
  unfold MO_rank
  simp only [hq] at hQ
  exact hQ
def rok (X : Xr) : Bool := !X.1 && decide (parn X.2.2.1 = 0)
def rtr (X : Xr) : Nat × Nat := if rok X = true then (stl 1 X.2.2.1 X.2.2.2.1 X.2.2.2.2).2.2 else X.2.2.2.2
def rvlX (X : Xr) : Int32 := match (stl 1 X.2.2.1 X.2.2.2.1 X.2.2.2.2).2.1 with
  | [] => 0
  | x :: _ => x.1
theorem rtr_keep {T : List Tk} {N : Nt} {here : Int32} {f : Nat} {w : Bool} {os : List Op} {v : List Vl} {tr : Nat × Nat} {t : Nat} (h : ¬ tr.1 = 0) : rtr (xrun T N here f w os v tr t) = tr := by
  have k := xrun_keep (T := T) (N := N) (here := here) f w os v tr t h
  unfold rtr
  split
  · rw [stl_keep 1 _ _ _ (by rw [k]; exact h), k]
  · exact k
theorem stl_low : ∀ (os : List Op) (v : List Vl) (tr : Nat × Nat), Inv os → (∀ o os', os = o :: os' → lev o.1 < 6) → (stl 1 os v tr).2.2 = tr := by
  intro os
  induction os with
  | nil => intro v tr _ _; rfl
  | cons o os ih =>
    intro v tr hI hh
    unfold stl
    split
    · rfl
    · rename_i hl
      have h6 := hh o os rfl
      have e : apT2 o v tr = tr := by
        unfold apT2 apt
        rw [if_neg (by omega)]
        split
        · rw [if_neg (fun z => by rw [z.1] at h6; revert h6; decide)]
        · rfl
      rw [e]
      refine ih _ _ hI.1 (fun o' os' eo => ?_)
      rcases hI.2.2 with z | z | z
      · rw [z] at hl
        exact absurd (show lev 40 < 1 by decide) hl
      · omega
      · have := z.2.2.2 o' os' eo
        omega
theorem apT2_6 {o : Op} {v : List Vl} {tr : Nat × Nat} (h : tr.1 < 6) : (apT2 o v tr).1 < 6 := by
  unfold apT2 apt
  split
  · exact h
  · split
    · split
      · show 5 < 6
        omega
      · exact h
    · exact h
theorem stl_6 (L : Nat) : ∀ (os : List Op) (v : List Vl) (tr : Nat × Nat), tr.1 < 6 → (stl L os v tr).2.2.1 < 6 := by
  intro os
  induction os with
  | nil => intro v tr h; exact h
  | cons o os ih =>
    intro v tr h
    unfold stl
    split
    · exact h
    · exact ih _ _ (apT2_6 h)
theorem tro_6 {x : Vl} {tr : Nat × Nat} {t : Nat} (h : tr.1 < 6) : (tro x tr t).1 < 6 := by
  unfold tro
  split
  · show 4 < 6
    omega
  · exact h
theorem xrun_6 {T : List Tk} {N : Nt} {here : Int32} : ∀ (f : Nat) (w : Bool) (os : List Op) (v : List Vl) (tr : Nat × Nat) (t : Nat), tr.1 < 6 → (xrun T N here f w os v tr t).2.2.2.2.1 < 6 := by
  intro f
  induction f with
  | zero => intro w os v tr t h; exact h
  | succ f ih =>
    intro w os v tr t h
    unfold xrun
    split
    · split
      · split
        · exact h
        · exact ih _ _ _ _ _ h
      · split
        · exact h
        · exact ih _ _ _ _ _ (stl_6 _ _ _ _ (tro_6 h))
    · split
      · exact ih _ _ _ _ _ (stl_6 _ _ _ _ (stl_6 _ _ _ _ h))
      · split
        · exact ih _ _ _ _ _ (stl_6 _ _ _ _ h)
        · exact h
theorem rtr_6 {X : Xr} (h : X.2.2.2.2.1 < 6) : (rtr X).1 < 6 := by
  unfold rtr
  split
  · exact stl_6 _ _ _ _ h
  · exact h
/-- where the reference looks for a bracket -/
theorem b16 {kf : Bool} {r : vmD} : ∀ os : List Op, os.length ≤ 286 → (∀ o, o ∈ os → o.1 < 128 ∧ (o.1 = 40 ∨ 0 < lev o.1)) → Stk (gA r 47) (os.map (fun o => nI (ropN o.1))) → ∃ x2 : Int32, (x2 < 0 ↔ parn os = 0) ∧ ∀ (b0 : Int32 → vmD → Prop) (Q : Int32 → vmD → Prop), (∃ m, MO_behind_36 b0 Q m (kb kf) x2 r) → ∃ m, MO_behind_16 b0 Q m (kb kf) (nI os.length - 1) r := by
  intro os
  induction os with
  | nil =>
    intro _ _ _
    refine ⟨nI 0 - 1, ⟨fun _ => rfl, fun _ => by decide⟩, fun b0 Q hQ => ⟨1, ?_⟩⟩
    unfold MO_behind_16
    rw [if_pos (show nI ([] : List Op).length - 1 < 0 by decide)]
    exact hQ
  | cons o os ih =>
    intro hl hk hS
    rw [List.length_cons] at hl
    obtain ⟨ho, hol⟩ := hk o List.mem_cons_self
    have hr4 := rop_e o.1 ho
    have hrb := rop_b o.1 ho
    have e1 : nI (o :: os).length - 1 = nI os.length := nI_pred _
    have t47 : gA r 47 os.length = nI (ropN o.1) := by
      have := hS.1
      rw [map_len] at this
      exact this
    have c1 : nI (ropN o.1) = 1 ↔ ropN o.1 = 1 := nI_eq (b := 1) (by omega) (by omega)
    have np : ¬ nI os.length < 0 := nI_pos (by omega)
    have start : ∀ (b0 : Int32 → vmD → Prop) (m : Nat) (Q : Int32 → vmD → Prop), (if nI (ropN o.1) = 1 then (∃ m36, MO_behind_36 b0 Q m36 (kb kf) (nI os.length) r) else (MO_behind_16 b0 Q m) (kb kf) (nI os.length - 1) r) → MO_behind_16 b0 Q (m + 1) (kb kf) (nI (o :: os).length - 1) r := by
      intro b0 m Q hQ
      unfold MO_behind_16
      rw [e1, if_neg np]
      refine ⟨nI_in (by omega) (by omega), bnd_iff.mpr ?_⟩
      rw [nI_clamp (by omega), t47]
      by_cases z : nI (ropN o.1) = 1
      · rw [if_pos z] at hQ ⊢
        exact hQ
      · rw [if_neg z] at hQ ⊢
        refine bnd_iff.mpr ?_
        rw [← Int32.sub_eq_add_neg]
        exact hQ
    by_cases h40 : o.1 = 40
    · refine ⟨nI os.length, ⟨fun z => absurd z np, fun z => ?_⟩, fun b0 Q hQ => ⟨1, start b0 0 Q ?_⟩⟩
      · have : (if o.1 = 40 then 1 else 0) + parn os = 0 := z
        rw [if_pos h40] at this
        omega
      · rw [if_pos (c1.mpr (hr4.1.mpr (Or.inl h40)))]
        exact hQ
    · obtain ⟨x2, hx, hE⟩ := ih (by omega) (fun o' ho' => hk o' (List.mem_cons_of_mem _ ho')) hS.2
      have ep : parn (o :: os) = parn os := by
        show (if o.1 = 40 then 1 else 0) + parn os = _
        rw [if_neg h40]
        omega
      refine ⟨x2, by rw [ep]; exact hx, fun b0 Q hQ => ?_⟩
      obtain ⟨m, hm⟩ := hE b0 Q hQ
      refine ⟨m + 1, start b0 m Q ?_⟩
      rw [if_neg (fun w => by
        rcases hr4.1.mp (c1.mp w) with z | z
        · exact h40 z
        · rcases hol with q | q
          · exact h40 q
          · rw [z] at q; revert q; decide)]
      exact hm
theorem Inv_all : ∀ os, Inv os → ∀ o, o ∈ os → o.1 < 128 ∧ (o.1 = 40 ∨ 0 < lev o.1) := by
  intro os
  induction os with
  | nil => intro _ o ho; cases ho
  | cons o os ih =>
    intro h o' ho'
    rcases List.mem_cons.mp ho' with rfl | ho'
    · refine ⟨h.2.1, ?_⟩
      rcases h.2.2 with z | z | z
      · exact Or.inl z
      · exact Or.inr (by omega)
      · exact Or.inr z.1
    · exact ih h.1 o' ho'
/-- a sign is laid by -/
theorem pushR {kf : Bool} {T : List Tk} {r : vmD} {os : List Op} {v : List Vl} {tr : Nat × Nat} {t k : Nat} {x : Int32} (hS : SR kf T r os v tr) (hC : CurR r (tk T t)) (hl : os.length ≤ 286) (hx : x = nI (ropN k)) : ∃ r1, (∀ Q : vmD → Prop, Q r1 → MO_push x r Q) ∧ ModR AF2 RA r r1 ∧ gG r1 = gG r ∧ (isO k = false → SR kf T r1 ((k, t) :: os) v tr) ∧ (isO k = true → SR kf T (sF r1 42 19 (gF r1 42 19 + 1)) ((k, t) :: os) v tr) := by
  obtain ⟨s1, s2, s3, s8, s47, s48, s49⟩ := hS
  have h4 := hC.2.1
  refine ⟨sF (sA (sA r 47 os.length x) 48 os.length (nI (tk T t).2.1)) 42 16 (nI (os.length + 1)), fun Q hQ => ?_, (((ModR.refl AF2 RA r).sA (by decide) _ _).sA (by decide) _ _).sF (by decide) _, rfl, fun z => ?_, fun z => ?_⟩
  · unfold MO_push
    rw [s1]
    refine ⟨nI_in (by omega) (by omega), bnd_iff.mpr ?_⟩
    rw [nI_clamp (by omega), gF_sA, s1]
    refine ⟨nI_in (by omega) (by omega), bnd_iff.mpr ?_⟩
    rw [nI_clamp (by omega), gF_sA, h4]
    refine bnd_iff.mpr ?_
    rw [gF_sA, s1, nI_p1]
    exact hQ
  · have p47 : Stk (gA (sF (sA (sA r 47 os.length x) 48 os.length (nI (tk T t).2.1)) 42 16 (nI (os.length + 1))) 47) (((k, t) :: os).map (fun o => nI (ropN o.1))) := by
      rw [gA_sF, gA_sA_ne _ _ _ (by decide), gA_sA, hx]
      have := Stk.push (nI (ropN k)) s47
      rw [map_len] at this
      exact this
    have p48 : Stk (gA (sF (sA (sA r 47 os.length x) 48 os.length (nI (tk T t).2.1)) 42 16 (nI (os.length + 1))) 48) (((k, t) :: os).map (fun o => nI (tk T o.2).2.1)) := by
      rw [gA_sF, gA_sA, gA_sA_ne _ _ _ (by decide)]
      have := Stk.push (nI (tk T t).2.1) s48
      rw [map_len] at this
      exact this
    have p49 : gA (sF (sA (sA r 47 os.length x) 48 os.length (nI (tk T t).2.1)) 42 16 (nI (os.length + 1))) 49 = gA r 49 := by rw [gA_sF, gA_sA_ne _ _ _ (by decide), gA_sA_ne _ _ _ (by decide)]
    unfold SR
    rw [p49]
    refine ⟨?_, ?_, ?_, ?_, p47, p48, s49⟩
    · rw [gF_sF, u1f_eq]
      rfl
    · rw [gF_sF, u1f_ne _ _ (by decide), gF_sA, gF_sA]
      exact s2
    · rw [gF_sF, u1f_ne _ _ (by decide), gF_sA, gF_sA, s3]
      show _ = nI ((if isO k = true then 1 else 0) + opn os)
      rw [z, if_neg Bool.false_ne_true, Nat.zero_add]
    · rw [gF_sF, u1f_ne _ _ (by decide), gF_sA, gF_sA]
      exact s8
  · have p47 : Stk (gA (sF (sA (sA r 47 os.length x) 48 os.length (nI (tk T t).2.1)) 42 16 (nI (os.length + 1))) 47) (((k, t) :: os).map (fun o => nI (ropN o.1))) := by
      rw [gA_sF, gA_sA_ne _ _ _ (by decide), gA_sA, hx]
      have := Stk.push (nI (ropN k)) s47
      rw [map_len] at this
      exact this
    have p48 : Stk (gA (sF (sA (sA r 47 os.length x) 48 os.length (nI (tk T t).2.1)) 42 16 (nI (os.length + 1))) 48) (((k, t) :: os).map (fun o => nI (tk T o.2).2.1)) := by
      rw [gA_sF, gA_sA, gA_sA_ne _ _ _ (by decide)]
      have := Stk.push (nI (tk T t).2.1) s48
      rw [map_len] at this
      exact this
    have p49 : gA (sF (sA (sA r 47 os.length x) 48 os.length (nI (tk T t).2.1)) 42 16 (nI (os.length + 1))) 49 = gA r 49 := by rw [gA_sF, gA_sA_ne _ _ _ (by decide), gA_sA_ne _ _ _ (by decide)]
    unfold SR
    refine ⟨?_, ?_, ?_, ?_, p47, p48, fun w => ⟨(s49 w).1, ?_⟩⟩
    · rw [gF_sF, u1f_ne _ _ (by decide), gF_sF, u1f_eq]
      rfl
    · rw [gF_sF, u1f_ne _ _ (by decide), gF_sF, u1f_ne _ _ (by decide), gF_sA, gF_sA]
      exact s2
    · rw [gF_sF, u1f_eq, gF_sF, u1f_ne _ _ (by decide), gF_sA, gF_sA, s3, nI_p1]
      show _ = nI ((if isO k = true then 1 else 0) + opn os)
      rw [z, if_pos rfl, Nat.add_comm]
    · rw [gF_sF, u1f_ne _ _ (by decide), gF_sF, u1f_ne _ _ (by decide), gF_sA, gF_sA]
      exact s8
    · rw [gA_sF, p49]
      exact (s49 w).2
