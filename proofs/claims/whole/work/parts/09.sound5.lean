/-! SOUNDNESS, 5: one instruction that touches objects, over the machine -/
theorem ckI_of (T : DataOk) {c j h : Nat} {v : Int32} (hr : rI c j = some (v, h)) : Cond.constant (cN c) j v ∈ TB := by
  have h1 := T.1.2.2.1 c j
  unfold ckI at h1
  rw [hr] at h1
  exact ckAt_TB h1
theorem ckJ_of (T : DataOk) {c j h : Nat} {v : Int64} (hr : rJ c j = some (v, h)) : Cond.constantLong (cN c) j v ∈ TB := by
  have h1 := T.1.2.2.2.1 c j
  unfold ckJ at h1
  rw [hr] at h1
  exact ckAt_TB h1
theorem ckN_of (T : DataOk) {c j ci : Nat} {hs : List Nat} (hr : rN c j = some (ci, hs)) : ci < 14 ∧ Cond.classLink (cN c) j (cN ci) ∈ TB ∧ Cond.instantiable (cN ci) (cF ci) ∈ TB ∧ Cond.initialized (cN ci) ∈ TB := by
  have h1 := T.1.2.2.2.2 c j
  unfold ckN at h1
  rw [hr] at h1
  dsimp only at h1
  rw [Bool.and_eq_true, Bool.and_eq_true, Bool.and_eq_true] at h1
  exact ⟨Nat.le_of_ble_eq_true h1.1, ckAt_TB h1.2.1, ckAt_TB h1.2.2.1, ckAt_TB h1.2.2.2⟩
theorem def_fv (rd : Nat → Nat) {w : vmW} {kd n ci f : Nat} (h : vmTyOk (cTy ci f) = true) : trv rd (vmFv (vmNew w kd n) ci w.1.1 f) = defaultValue (cTy ci f) := by
  unfold vmFv vmNew upz
  simp only [if_true]
  cases hty : cTy ci f with
  | int => rfl
  | boolean => rfl
  | long => rfl
  | object C => rfl
  | array t => rfl
  | _ => rw [hty] at h; cases h
section SND5
variable {p : Program} {l : Launch} {e : Env} {R : Room} {s : State} {m : MethodId} {args : Array Value} {below : List Frame} {meth : Method} {c : Code} {H : Heap} {locs : List Loc} {cells slots : Nat} {Q : State → Prop} {A : Nat → Prop} {D : va_G} {kA : Nat → ClassId} {rx rd : Nat → Nat}
theorem W.cnt {cells2 slots2 : Nat} {g : JFrame} (h1 : cells2 = cells) (h2 : slots2 = slots) (h : W p l e R s m args below meth c H locs cells2 slots2 Q g) : W p l e R s m args below meth c H locs cells slots Q g := by
  subst h1; subst h2
  exact h
/-- String's three methods on the constants: proved in a part of their own -/
def StrStep (p : Program) (l : Launch) (e : Env) (R : Room) (s : State) (m : MethodId) (args : Array Value) (below : List Frame) (meth : Method) (c : Code) (rx : Nat → Nat) (k : Nat) : Prop :=
  ∀ (A : Nat → Prop) (H : Heap) (locs : List Loc) (cells slots : Nat) (Q : State → Prop) (pc j v : Nat) (ls : Array Slot) (rest : List Value), StrX rx A s → va_S A s.heap H locs → CallFix p m c (mB k) (mL k) s args TB (cN (mC k)) → v < 7 → ls.size = mL k → 6 ≤ R.frames → 140 ≤ R.locals → (rest.map fun v => v.category).sum ≤ 8 → cells ≤ R.cells → slots ≤ R.slots → decode (mB k) pc = .ok (.invokevirtual j, 3) →
    (Cond.methodLink (cN (mC k)) j yJ0_length_8abf5 ∈ TB → W p l e R s m args below meth c H locs cells slots Q (F0 m (pc + 3) ls (.int (Int32.ofNat (sB v).length) :: rest)) → W p l e R s m args below meth c H locs cells slots Q (F0 m pc ls (.ref (rx (vmBase + v)) :: rest))) ∧
    (Cond.methodLink (cN (mC k)) j yJ0_charAt_5068e ∈ TB → ∀ x : Int32, ¬ (x < 0 ∨ (sB v).length ≤ x.toNatClampNeg) → W p l e R s m args below meth c H locs cells slots Q (F0 m (pc + 3) ls (.int ((sB v).getD x.toNatClampNeg 0) :: rest)) → W p l e R s m args below meth c H locs cells slots Q (F0 m pc ls (.int x :: .ref (rx (vmBase + v)) :: rest))) ∧
    (Cond.methodLink (cN (mC k)) j yJ0_indexOf_0f7a4 ∈ TB → ∀ x : Int32, W p l e R s m args below meth c H locs cells slots Q (F0 m (pc + 3) ls (.int (vmIx x (sB v) 0) :: rest)) → W p l e R s m args below meth c H locs cells slots Q (F0 m pc ls (.int x :: .ref (rx (vmBase + v)) :: rest)))
set_option maxRecDepth 100000 in
set_option maxHeartbeats 8000000 in
theorem heap_step (T : DataOk) {k pc len tg : Nat} {cv : Int32} {i : Instr} {lo : vmL} {st : List Value} {w : vmW} {ls : Array Slot} {pc' : Nat} {lo' : vmL} {w' : vmW} {st' : List Value} (X : Cx p s m args meth c R D kA rx A k) (hStr : StrStep p l e R s m args below meth c rx k) (hH : Hp A s.heap H locs D kA rx rd w) (hSc : Scr rx A s w k) (hI : vmInv w lo st) (hmi : mI k pc = some (i, len, cv, tg)) (hl : lv_has ls (mL k) (trL rd lo)) (hA : vmAct k i len cv tg pc lo st w = vmGo pc' lo' w' st') (hsim : vmSim i = false) (hcells : cells + w'.1.1 ≤ R.cells + w.1.1) (hslots : slots + w'.1.2.2.2.2 ≤ R.slots + w.1.2.2.2.2)
    (kk : ∀ (H' : Heap) (locs' : List Loc) (rd' : Nat → Nat) (ls' : Array Slot) (cells' slots' : Nat), cells' + w.1.1 = cells + w'.1.1 → slots' + w.1.2.2.2.2 = slots + w'.1.2.2.2.2 → (∀ i, okr w i → rd' i = rd i) → Hp A s.heap H' locs' D kA rx rd' w' → lv_has ls' (mL k) (trL rd' lo') → W p l e R s m args below meth c H' locs' cells' slots' Q (F0 m pc' ls' (trS rd' st'))) :
    W p l e R s m args below meth c H locs cells slots Q (F0 m pc ls (trS rd st)) := by
  obtain ⟨hD, hok⟩ := ckD_of T hmi
  obtain ⟨S, hN, hin, hK, hR, hX, hnew⟩ := X
  obtain ⟨hx, hb0, hml, hown, hts⟩ := id S
  obtain ⟨hP, hDs, hS, hrx⟩ := id hH
  cases i
  all_goals first | (cases hsim; done) | skip
  case ldc j =>
    delta vmAct at hA
    dsimp only at hA
    obtain rfl : len = 2 := Nat.eq_of_beq_eq_true hok
    split at hA
    · rename_i v h2 hr
      obtain ⟨rfl, rfl, rfl, rfl⟩ := vmGo_inj hA
      exact lv_ldc hx hb0 hown (hts _ (ckI_of T hr)) hD (kk H locs rd ls cells slots rfl rfl (fun _ _ => rfl) hH hl)
    · split at hA
      · rename_i v h2 hr
        obtain ⟨rfl, rfl, rfl, rfl⟩ := vmGo_inj hA
        have hq := hX.2.1 _ _ _ _ hr
        refine va_ldcS hx hb0 hown hq hD ?_
        have hz : rd (vmBase + v) = rx (vmBase + v) := hrx _ (by unfold vmBase; omega)
        rw [← hz]
        exact kk H locs rd ls cells slots rfl rfl (fun _ _ => rfl) hH hl
      · exact (vmNo_go hA).elim
  case ldc_w j =>
    delta vmAct at hA
    dsimp only at hA
    obtain rfl : len = 3 := Nat.eq_of_beq_eq_true hok
    split at hA
    · rename_i v h2 hr
      obtain ⟨rfl, rfl, rfl, rfl⟩ := vmGo_inj hA
      exact lv_ldcw hx hb0 hown (hts _ (ckI_of T hr)) hD (kk H locs rd ls cells slots rfl rfl (fun _ _ => rfl) hH hl)
    · exact (vmNo_go hA).elim
  case ldc2_w j =>
    delta vmAct at hA
    dsimp only at hA
    obtain rfl : len = 3 := Nat.eq_of_beq_eq_true hok
    split at hA
    · rename_i v h2 hr
      obtain ⟨rfl, rfl, rfl, rfl⟩ := vmGo_inj hA
      exact lv_ldc2 hx hb0 hown (hts _ (ckJ_of T hr)) hD (kk H locs rd ls cells slots rfl rfl (fun _ _ => rfl) hH hl)
    · exact (vmNo_go hA).elim
  case getfield j =>
    delta vmAct at hA
    dsimp only at hA
    split at hA
    · rename_i o2 r ci f hh hrf
      obtain ⟨hb, rfl, rfl, rfl, rfl⟩ := bif_go hA
      obtain ⟨ho, hkd⟩ := vmIs_iff hb
      obtain ⟨hf1, hf2, hf3, hf4⟩ := ckF_of T hrf
      obtain rfl : len = 3 := Nat.eq_of_beq_eq_true hok
      refine va_get (D := D) (cl := vwCl) (tys := tysA kA) (ws := pcs kA rd w) (ci := ci) (fs := (List.range (cF ci)).map (fun f => trv rd (vmFv w ci o2 f))) (v := trv rd (vmFv w ci o2 f)) (C := cN ci) (T := cT ci) (N := cF ci) (ref := cN ci) hx hb0 hts (uws_in T hf4) hown hK hP o2 (by rw [pcs_at kA rd ho, ent_obj kA rd hkd hf4]) (T.2.2.1 ci hf4) f hf3 (hts _ hf1) (fun x h => by rw [hf2] at h; exact h) (by rw [List.getElem?_map, List.getElem?_range hf3]; rfl) hD ?_
      exact kk H locs rd ls cells slots rfl rfl (fun _ _ => rfl) hH hl
    · exact (vmNo_go hA).elim
  case putfield j =>
    delta vmAct at hA
    dsimp only at hA
    split at hA
    · rename_i v o2 r ci f hh hrf
      cases hb : (vmIs w o2 ci && (!(cT ci f).2.2.2 || (mInit k && Nat.beq ci (mC k)))) with
      | false => rw [hb] at hA; exact (vmNo_go hA).elim
      | true =>
        rw [hb] at hA
        dsimp only [cond_true] at hA
        split at hA
        · rename_i w2 hw2
          obtain ⟨rfl, rfl, rfl, rfl⟩ := vmGo_inj hA
          rw [Bool.and_eq_true] at hb
          obtain ⟨ho, hkd⟩ := vmIs_iff hb.1
          obtain ⟨hf1, hf2, hf3, hf4⟩ := ckF_of T hrf
          obtain rfl : len = 3 := Nat.eq_of_beq_eq_true hok
          obtain ⟨hn, hfit, hw, hc1, hc2⟩ := put_facts kA rd hw2 ho hkd hf4
          cases hfin : (cT ci f).2.2.2 with
          | false =>
            refine va_put (D := D) (cl := vwCl) (tys := tysA kA) (ws := pcs kA rd w) (ci := ci) (fs := (List.range (cF ci)).map (fun f => trv rd (vmFv w ci o2 f))) (v := trv rd v) (ty := cTy ci f) (C := cN ci) (T := cT ci) (N := cF ci) (ref := cN ci) hx hb0 hts (uws_in T hf4) (cTy ci) (fun z hz => (ckW_of T hf4 hz).2) (T.2.2.2.1 ci hf4) hown hK hP hDs hS o2 (by rw [pcs_at kA rd ho, ent_obj kA rd hkd hf4]) (T.2.2.1 ci hf4) f hf3 (hts _ hf1) (fun x h => by rw [hf2] at h; exact h) hfin (ckW_of T hf4 hf3).2 hn hfit (by rw [List.length_map, List.length_range]; exact hf3) hD (fun H1 locs1 hP1 hD1 hS1 => ?_)
            rw [hw] at hP1 hD1
            exact kk H1 locs1 rd ls cells slots (by rw [hc1]) (by rw [hc2]) (fun _ _ => rfl) ⟨hP1, hD1, hS1, hrx⟩ hl
          | true =>
            have hb2 := hb.2
            rw [hfin] at hb2
            have hb2 : (mInit k && Nat.beq ci (mC k)) = true := hb2
            rw [Bool.and_eq_true] at hb2
            refine va_putF (D := D) (cl := vwCl) (tys := tysA kA) (ws := pcs kA rd w) (ci := ci) (fs := (List.range (cF ci)).map (fun f => trv rd (vmFv w ci o2 f))) (v := trv rd v) (ty := cTy ci f) (C := cN ci) (T := cT ci) (N := cF ci) (ref := cN ci) hx hb0 hts (uws_in T hf4) (cTy ci) (fun z hz => (ckW_of T hf4 hz).2) (T.2.2.2.1 ci hf4) hown hK hP hDs hS o2 (by rw [pcs_at kA rd ho, ent_obj kA rd hkd hf4]) (T.2.2.1 ci hf4) f hf3 (hts _ hf1) (fun x h => by rw [hf2] at h; exact h) hfin (hin hb2.1) (by rw [hf2, Nat.eq_of_beq_eq_true hb2.2]) (ckW_of T hf4 hf3).2 hn hfit (by rw [List.length_map, List.length_range]; exact hf3) hD (fun H1 locs1 hP1 hD1 hS1 => ?_)
            rw [hw] at hP1 hD1
            exact kk H1 locs1 rd ls cells slots (by rw [hc1]) (by rw [hc2]) (fun _ _ => rfl) ⟨hP1, hD1, hS1, hrx⟩ hl
        · exact (vmNo_go hA).elim
    · exact (vmNo_go hA).elim
  case iaload =>
    delta vmAct at hA
    dsimp only at hA
    obtain rfl : len = 1 := Nat.eq_of_beq_eq_true hok
    split at hA
    · rename_i j o2 r
      cases hb : (vmIs w o2 20 || (Nat.beq o2 1000 && Nat.beq k 406)) with
      | false => rw [hb] at hA; exact (vmNo_go hA).elim
      | true =>
        rw [hb] at hA
        obtain ⟨hq, rfl, rfl, rfl, rfl⟩ := pif_go hA
        rcases Bool.or_eq_true_iff.mp hb with hb1 | hb1
        · obtain ⟨ho, hkd⟩ := vmIs_iff hb1
          exact va_iald (D := D) (cl := vwCl) (tys := tysA kA) (ws := pcs kA rd w) hx hb0 hK hP o2 0 (by rw [pcs_at kA rd ho, ent_int kA rd hkd (by decide) (by decide)]) rfl hq hD (kk H locs rd ls cells slots rfl rfl (fun _ _ => rfl) hH hl)
        · rw [Bool.and_eq_true] at hb1
          obtain ⟨h1, h2, h3⟩ := hSc (Nat.eq_of_beq_eq_true hb1.2)
          obtain rfl : o2 = 1000 := Nat.eq_of_beq_eq_true hb1.1
          have hz : rd 1000 = rx 1000 := hrx _ (by omega)
          show W p l e R s m args below meth c H locs cells slots Q (F0 m pc ls (.int j :: .ref (rd 1000) :: trS rd r))
          rw [hz]
          exact va_sld hx hb0 h1 h2 h3 hS hq hD (kk H locs rd ls cells slots rfl rfl (fun _ _ => rfl) hH hl)
    · exact (vmNo_go hA).elim
  case baload =>
    delta vmAct at hA
    dsimp only at hA
    obtain rfl : len = 1 := Nat.eq_of_beq_eq_true hok
    split at hA
    · rename_i j o2 r
      cases hb : (vmIs w o2 21 || vmIs w o2 22) with
      | false => rw [hb] at hA; exact (vmNo_go hA).elim
      | true =>
        rw [hb] at hA
        obtain ⟨hq, rfl, rfl, rfl, rfl⟩ := pif_go hA
        rcases Bool.or_eq_true_iff.mp hb with hb1 | hb1
        · obtain ⟨ho, hkd⟩ := vmIs_iff hb1
          exact va_bald (D := D) (cl := vwCl) (tys := tysA kA) (ws := pcs kA rd w) hx hb0 hK hP o2 1 (by rw [pcs_at kA rd ho, ent_int kA rd hkd (by decide) (by decide)]) rfl hq hD (kk H locs rd ls cells slots rfl rfl (fun _ _ => rfl) hH hl)
        · obtain ⟨ho, hkd⟩ := vmIs_iff hb1
          exact va_zald (D := D) (cl := vwCl) (tys := tysA kA) (ws := pcs kA rd w) hx hb0 hK hP o2 2 (by rw [pcs_at kA rd ho, ent_int kA rd hkd (by decide) (by decide)]) rfl hq hD (kk H locs rd ls cells slots rfl rfl (fun _ _ => rfl) hH hl)
    · exact (vmNo_go hA).elim
  case laload =>
    delta vmAct at hA
    dsimp only at hA
    obtain rfl : len = 1 := Nat.eq_of_beq_eq_true hok
    split at hA
    · rename_i j o2 r
      cases hb1 : vmIs w o2 23 with
      | false => rw [hb1] at hA; exact (vmNo_go hA).elim
      | true =>
        rw [hb1] at hA
        obtain ⟨hq, rfl, rfl, rfl, rfl⟩ := pif_go hA
        obtain ⟨ho, hkd⟩ := vmIs_iff hb1
        exact va_lald (D := D) (cl := vwCl) (tys := tysA kA) (ws := pcs kA rd w) hx hb0 hK hP o2 3 (by rw [pcs_at kA rd ho, ent_long kA rd hkd]) rfl hq hD (kk H locs rd ls cells slots rfl rfl (fun _ _ => rfl) hH hl)
    · exact (vmNo_go hA).elim
  case iastore =>
    delta vmAct at hA
    dsimp only at hA
    obtain rfl : len = 1 := Nat.eq_of_beq_eq_true hok
    split at hA
    · rename_i x j o2 r
      cases hb1 : vmIs w o2 20 with
      | false => rw [hb1] at hA; exact (vmNo_go hA).elim
      | true =>
        rw [hb1] at hA
        obtain ⟨hq, rfl, rfl, rfl, rfl⟩ := pif_go hA
        obtain ⟨ho, hkd⟩ := vmIs_iff hb1
        refine va_iast (D := D) (cl := vwCl) (tys := tysA kA) (ws := pcs kA rd w) hx hb0 hK hP hDs hS o2 0 (by rw [pcs_at kA rd ho, ent_int kA rd hkd (by decide) (by decide)]) rfl hq hD (fun H1 locs1 hP1 hD1 hS1 => ?_)
        rw [pcs_ints kA rd ho hkd (by decide) (by decide)] at hP1 hD1
        exact kk H1 locs1 rd ls cells slots rfl rfl (fun _ _ => rfl) ⟨hP1, hD1, hS1, hrx⟩ hl
    · exact (vmNo_go hA).elim
  case lastore =>
    delta vmAct at hA
    dsimp only at hA
    obtain rfl : len = 1 := Nat.eq_of_beq_eq_true hok
    split at hA
    · rename_i x j o2 r
      cases hb1 : vmIs w o2 23 with
      | false => rw [hb1] at hA; exact (vmNo_go hA).elim
      | true =>
        rw [hb1] at hA
        obtain ⟨hq, rfl, rfl, rfl, rfl⟩ := pif_go hA
        obtain ⟨ho, hkd⟩ := vmIs_iff hb1
        refine va_last (D := D) (cl := vwCl) (tys := tysA kA) (ws := pcs kA rd w) hx hb0 hK hP hDs hS o2 3 (by rw [pcs_at kA rd ho, ent_long kA rd hkd]) rfl hq hD (fun H1 locs1 hP1 hD1 hS1 => ?_)
        rw [pcs_longs kA rd ho hkd] at hP1 hD1
        exact kk H1 locs1 rd ls cells slots rfl rfl (fun _ _ => rfl) ⟨hP1, hD1, hS1, hrx⟩ hl
    · exact (vmNo_go hA).elim
  case bastore =>
    delta vmAct at hA
    dsimp only at hA
    obtain rfl : len = 1 := Nat.eq_of_beq_eq_true hok
    split at hA
    · rename_i x j o2 r
      cases hb1 : vmIs w o2 21 with
      | true =>
        rw [hb1] at hA
        obtain ⟨hq, rfl, rfl, rfl, rfl⟩ := pif_go hA
        obtain ⟨ho, hkd⟩ := vmIs_iff hb1
        refine va_bast (D := D) (cl := vwCl) (tys := tysA kA) (ws := pcs kA rd w) hx hb0 hK hP hDs hS o2 1 (by rw [pcs_at kA rd ho, ent_int kA rd hkd (by decide) (by decide)]) rfl hq hD (fun H1 locs1 hP1 hD1 hS1 => ?_)
        rw [pcs_ints kA rd ho hkd (by decide) (by decide)] at hP1 hD1
        exact kk H1 locs1 rd ls cells slots rfl rfl (fun _ _ => rfl) ⟨hP1, hD1, hS1, hrx⟩ hl
      | false =>
        rw [hb1] at hA
        dsimp only [cond_false] at hA
        clear hb1
        cases hb1 : vmIs w o2 22 with
        | true =>
          rw [hb1] at hA
          obtain ⟨hq, rfl, rfl, rfl, rfl⟩ := pif_go hA
          obtain ⟨ho, hkd⟩ := vmIs_iff hb1
          refine va_zast (D := D) (cl := vwCl) (tys := tysA kA) (ws := pcs kA rd w) hx hb0 hK hP hDs hS o2 2 (by rw [pcs_at kA rd ho, ent_int kA rd hkd (by decide) (by decide)]) rfl hq hD (fun H1 locs1 hP1 hD1 hS1 => ?_)
          rw [pcs_ints kA rd ho hkd (by decide) (by decide)] at hP1 hD1
          exact kk H1 locs1 rd ls cells slots rfl rfl (fun _ _ => rfl) ⟨hP1, hD1, hS1, hrx⟩ hl
        | false => rw [hb1] at hA; exact (vmNo_go hA).elim
    · exact (vmNo_go hA).elim
  case arraylength =>
    delta vmAct at hA
    dsimp only at hA
    obtain rfl : len = 1 := Nat.eq_of_beq_eq_true hok
    split at hA
    · rename_i o2 r
      obtain ⟨hb, rfl, rfl, rfl, rfl⟩ := bif_go hA
      rcases Bool.or_eq_true_iff.mp hb with hb | hb1
      · rcases Bool.or_eq_true_iff.mp hb with hb1 | hb
        · obtain ⟨ho, hkd⟩ := vmIs_iff hb1
          obtain ⟨z, hz1, hz2⟩ := ent_arr kA rd hkd (by decide); exact va_alen (D := D) (cl := vwCl) (tys := tysA kA) (ws := pcs kA rd w) hx hb0 hK hP o2 0 (by rw [pcs_at kA rd ho, hz1]) rfl (by rw [hz2]) hD (kk H locs rd ls cells slots rfl rfl (fun _ _ => rfl) hH hl)
        · rcases Bool.or_eq_true_iff.mp hb with hb1 | hb
          · obtain ⟨ho, hkd⟩ := vmIs_iff hb1
            obtain ⟨z, hz1, hz2⟩ := ent_arr kA rd hkd (by decide); exact va_alen (D := D) (cl := vwCl) (tys := tysA kA) (ws := pcs kA rd w) hx hb0 hK hP o2 1 (by rw [pcs_at kA rd ho, hz1]) rfl (by rw [hz2]) hD (kk H locs rd ls cells slots rfl rfl (fun _ _ => rfl) hH hl)
          · rcases Bool.or_eq_true_iff.mp hb with hb1 | hb1
            · obtain ⟨ho, hkd⟩ := vmIs_iff hb1
              obtain ⟨z, hz1, hz2⟩ := ent_arr kA rd hkd (by decide); exact va_alen (D := D) (cl := vwCl) (tys := tysA kA) (ws := pcs kA rd w) hx hb0 hK hP o2 2 (by rw [pcs_at kA rd ho, hz1]) rfl (by rw [hz2]) hD (kk H locs rd ls cells slots rfl rfl (fun _ _ => rfl) hH hl)
            · obtain ⟨ho, hkd⟩ := vmIs_iff hb1
              obtain ⟨z, hz1, hz2⟩ := ent_arr kA rd hkd (by decide); exact va_alen (D := D) (cl := vwCl) (tys := tysA kA) (ws := pcs kA rd w) hx hb0 hK hP o2 3 (by rw [pcs_at kA rd ho, hz1]) rfl (by rw [hz2]) hD (kk H locs rd ls cells slots rfl rfl (fun _ _ => rfl) hH hl)
      · rw [Bool.and_eq_true] at hb1
        obtain ⟨h1, h2, h3⟩ := hSc (Nat.eq_of_beq_eq_true hb1.2)
        obtain rfl : o2 = 1000 := Nat.eq_of_beq_eq_true hb1.1
        have hz : rd 1000 = rx 1000 := hrx _ (by omega)
        show W p l e R s m args below meth c H locs cells slots Q (F0 m pc ls (.ref (rd 1000) :: trS rd r))
        rw [hz]
        exact va_slen hx hb0 h1 h2 h3 hS hD (kk H locs rd ls cells slots rfl rfl (fun _ _ => rfl) hH hl)
    · exact (vmNo_go hA).elim
  case newarray ty =>
    delta vmAct at hA
    dsimp only at hA
    split at hA
    · rename_i n r kind x2 hty
      obtain ⟨hn, rfl, rfl, rfl, rfl⟩ := pif_go hA
      have harr := hts _ (T.2.2.2.2.2 _ _ _ hty)
      have hn1 : ¬ n < 0 := hn.1.1
      have hn2 : n.toNatClampNeg ≤ 65536 := hn.1.2
      have hc1 : cells + (w.1.1 + 1) ≤ R.cells + w.1.1 := hcells
      have hc2 : slots + (w.1.2.2.2.2 + n.toNatClampNeg) ≤ R.slots + w.1.2.2.2.2 := hslots
      obtain ⟨hI1, hI2, hI3, hI4⟩ := hI
      obtain rfl : len = 2 := Nat.eq_of_beq_eq_true hok
      unfold vmAt at hty
      split at hty
      · cases hty
        refine va_newa (D := D) (cl := vwCl) (tys := tysA kA) (ws := pcs kA rd w) (ty := .int) (a0 := (n.toNatClampNeg, .inl (fun _ => 0))) hx hb0 harr rfl hK hP hDs hS hnew (fun _ => rfl) hn1 rfl (by simp only [componentBytes]; omega) (by omega) (by omega) hD (fun q cA H1 hK1 hP1 hD1 hS1 => ?_)
        obtain rfl : kA 20 = cA := by
          have e1 : s.vm.findClass _ = some (kA 20) := (hK.2 0 (kA 20, .int) rfl).2
          have e2 : s.vm.findClass _ = some cA := (hK1.2 4 (cA, .int) rfl).2
          exact Option.some.inj (e1.symm.trans e2)
        obtain ⟨hw, hrd⟩ := new_facts T kA rd (kd := 20) (n := n.toNatClampNeg) (q := q) (e := .inl (kA 20, (n.toNatClampNeg, .inl (fun _ => 0)))) hI2 hn.2 (by
          rw [ent_int kA _ (w := vmNew w 20 n.toNatClampNeg) (o := w.1.1) (kd := 20) (by show up1 _ _ _ _ = _; unfold up1; rw [if_pos rfl]) (by decide) (by decide)]
          unfold vmNew up1 upz
          simp only [if_true])
        rw [hw] at hP1 hD1
        refine W.cnt rfl rfl (kk H1 locs (up1 rd w.1.1 q) ls (cells + 1) (slots + n.toNatClampNeg) (by show _ = cells + (w.1.1 + 1); omega) (by show _ = slots + (w.1.2.2.2.2 + n.toNatClampNeg); omega) hrd ⟨hP1, hD1, hS1, fun z hz => by rw [← hrx z hz]; exact hrd z (Or.inr hz)⟩ (by rw [trL_ok hI3 hrd]; exact hl) |> fun z => ?_)
        have e0 : trS (up1 rd w.1.1 q) (.ref w.1.1 :: r) = .ref q :: trS rd r := by
          show .ref (up1 rd w.1.1 q w.1.1) :: trS (up1 rd w.1.1 q) r = _
          rw [trS_ok (ok_tl hI4) hrd]
          unfold up1
          rw [if_pos rfl]
        rw [e0] at z
        exact z
      · cases hty
        refine va_newa (D := D) (cl := vwCl) (tys := tysA kA) (ws := pcs kA rd w) (ty := .byte) (a0 := (n.toNatClampNeg, .inl (fun _ => 0))) hx hb0 harr rfl hK hP hDs hS hnew (fun _ => rfl) hn1 rfl (by simp only [componentBytes]; omega) (by omega) (by omega) hD (fun q cA H1 hK1 hP1 hD1 hS1 => ?_)
        obtain rfl : kA 21 = cA := by
          have e1 : s.vm.findClass _ = some (kA 21) := (hK.2 1 (kA 21, .byte) rfl).2
          have e2 : s.vm.findClass _ = some cA := (hK1.2 4 (cA, .byte) rfl).2
          exact Option.some.inj (e1.symm.trans e2)
        obtain ⟨hw, hrd⟩ := new_facts T kA rd (kd := 21) (n := n.toNatClampNeg) (q := q) (e := .inl (kA 21, (n.toNatClampNeg, .inl (fun _ => 0)))) hI2 hn.2 (by
          rw [ent_int kA _ (w := vmNew w 21 n.toNatClampNeg) (o := w.1.1) (kd := 21) (by show up1 _ _ _ _ = _; unfold up1; rw [if_pos rfl]) (by decide) (by decide)]
          unfold vmNew up1 upz
          simp only [if_true])
        rw [hw] at hP1 hD1
        refine W.cnt rfl rfl (kk H1 locs (up1 rd w.1.1 q) ls (cells + 1) (slots + n.toNatClampNeg) (by show _ = cells + (w.1.1 + 1); omega) (by show _ = slots + (w.1.2.2.2.2 + n.toNatClampNeg); omega) hrd ⟨hP1, hD1, hS1, fun z hz => by rw [← hrx z hz]; exact hrd z (Or.inr hz)⟩ (by rw [trL_ok hI3 hrd]; exact hl) |> fun z => ?_)
        have e0 : trS (up1 rd w.1.1 q) (.ref w.1.1 :: r) = .ref q :: trS rd r := by
          show .ref (up1 rd w.1.1 q w.1.1) :: trS (up1 rd w.1.1 q) r = _
          rw [trS_ok (ok_tl hI4) hrd]
          unfold up1
          rw [if_pos rfl]
        rw [e0] at z
        exact z
      · cases hty
        refine va_newa (D := D) (cl := vwCl) (tys := tysA kA) (ws := pcs kA rd w) (ty := .boolean) (a0 := (n.toNatClampNeg, .inl (fun _ => 0))) hx hb0 harr rfl hK hP hDs hS hnew (fun _ => rfl) hn1 rfl (by simp only [componentBytes]; omega) (by omega) (by omega) hD (fun q cA H1 hK1 hP1 hD1 hS1 => ?_)
        obtain rfl : kA 22 = cA := by
          have e1 : s.vm.findClass _ = some (kA 22) := (hK.2 2 (kA 22, .boolean) rfl).2
          have e2 : s.vm.findClass _ = some cA := (hK1.2 4 (cA, .boolean) rfl).2
          exact Option.some.inj (e1.symm.trans e2)
        obtain ⟨hw, hrd⟩ := new_facts T kA rd (kd := 22) (n := n.toNatClampNeg) (q := q) (e := .inl (kA 22, (n.toNatClampNeg, .inl (fun _ => 0)))) hI2 hn.2 (by
          rw [ent_int kA _ (w := vmNew w 22 n.toNatClampNeg) (o := w.1.1) (kd := 22) (by show up1 _ _ _ _ = _; unfold up1; rw [if_pos rfl]) (by decide) (by decide)]
          unfold vmNew up1 upz
          simp only [if_true])
        rw [hw] at hP1 hD1
        refine W.cnt rfl rfl (kk H1 locs (up1 rd w.1.1 q) ls (cells + 1) (slots + n.toNatClampNeg) (by show _ = cells + (w.1.1 + 1); omega) (by show _ = slots + (w.1.2.2.2.2 + n.toNatClampNeg); omega) hrd ⟨hP1, hD1, hS1, fun z hz => by rw [← hrx z hz]; exact hrd z (Or.inr hz)⟩ (by rw [trL_ok hI3 hrd]; exact hl) |> fun z => ?_)
        have e0 : trS (up1 rd w.1.1 q) (.ref w.1.1 :: r) = .ref q :: trS rd r := by
          show .ref (up1 rd w.1.1 q w.1.1) :: trS (up1 rd w.1.1 q) r = _
          rw [trS_ok (ok_tl hI4) hrd]
          unfold up1
          rw [if_pos rfl]
        rw [e0] at z
        exact z
      · cases hty
        refine va_newa (D := D) (cl := vwCl) (tys := tysA kA) (ws := pcs kA rd w) (ty := .long) (a0 := (n.toNatClampNeg, .inr (.inl (fun _ => 0)))) hx hb0 harr rfl hK hP hDs hS hnew (fun _ => rfl) hn1 rfl (by simp only [componentBytes]; omega) (by omega) (by omega) hD (fun q cA H1 hK1 hP1 hD1 hS1 => ?_)
        obtain rfl : kA 23 = cA := by
          have e1 : s.vm.findClass _ = some (kA 23) := (hK.2 3 (kA 23, .long) rfl).2
          have e2 : s.vm.findClass _ = some cA := (hK1.2 4 (cA, .long) rfl).2
          exact Option.some.inj (e1.symm.trans e2)
        obtain ⟨hw, hrd⟩ := new_facts T kA rd (kd := 23) (n := n.toNatClampNeg) (q := q) (e := .inl (kA 23, (n.toNatClampNeg, .inr (.inl (fun _ => 0))))) hI2 hn.2 (by
          rw [ent_long kA _ (w := vmNew w 23 n.toNatClampNeg) (o := w.1.1) (by show up1 _ _ _ _ = _; unfold up1; rw [if_pos rfl])]
          unfold vmNew up1 upz
          simp only [if_true])
        rw [hw] at hP1 hD1
        refine W.cnt rfl rfl (kk H1 locs (up1 rd w.1.1 q) ls (cells + 1) (slots + n.toNatClampNeg) (by show _ = cells + (w.1.1 + 1); omega) (by show _ = slots + (w.1.2.2.2.2 + n.toNatClampNeg); omega) hrd ⟨hP1, hD1, hS1, fun z hz => by rw [← hrx z hz]; exact hrd z (Or.inr hz)⟩ (by rw [trL_ok hI3 hrd]; exact hl) |> fun z => ?_)
        have e0 : trS (up1 rd w.1.1 q) (.ref w.1.1 :: r) = .ref q :: trS rd r := by
          show .ref (up1 rd w.1.1 q w.1.1) :: trS (up1 rd w.1.1 q) r = _
          rw [trS_ok (ok_tl hI4) hrd]
          unfold up1
          rw [if_pos rfl]
        rw [e0] at z
        exact z
      · cases hty
    · exact (vmNo_go hA).elim
  case new j =>
    delta vmAct at hA
    dsimp only at hA
    split at hA
    · rename_i ci x2 hty
      obtain ⟨hn, rfl, rfl, rfl, rfl⟩ := pif_go hA
      obtain ⟨hc, hl1, hl2, hl3⟩ := ckN_of T hty
      have hc1 : cells + (w.1.1 + 1) ≤ R.cells + w.1.1 := hcells
      have hc2 : slots + (w.1.2.2.2.2 + cF ci) ≤ R.slots + w.1.2.2.2.2 := hslots
      obtain ⟨hI1, hI2, hI3, hI4⟩ := hI
      obtain rfl : len = 3 := Nat.eq_of_beq_eq_true hok
      refine va_new (D := D) (cl := vwCl) (tys := tysA kA) (ws := pcs kA rd w) (ci := ci) (fs := (List.range (cF ci)).map (fun f => defaultValue (cTy ci f))) (C := cN ci) (T := cT ci) (N := cF ci) hx hb0 hts (uws_in T hc) (cTy ci) (fun z hz => (ckW_of T hc hz).2) hown (hts _ hl1) (hts _ hl2) (hts _ hl3) hK hP hDs hS hnew (T.2.2.1 ci hc) (fun j hj => by unfold vp_V; rw [List.getD_eq_getElem?_getD, List.getElem?_map, List.getElem?_range hj]; rfl) (by omega) (by omega) hD (fun q H1 hP1 hD1 hS1 => ?_)
      obtain ⟨hw, hrd⟩ := new_facts T kA rd (kd := ci) (n := cF ci) (q := q) (e := .inr (ci, (List.range (cF ci)).map (fun f => defaultValue (cTy ci f)))) hI2 hn (by
        rw [ent_obj kA _ (w := vmNew w ci (cF ci)) (o := w.1.1) (ci := ci) (by show up1 _ _ _ _ = _; unfold up1; rw [if_pos rfl]) hc]
        congr 2
        exact List.map_congr_left fun f hf => def_fv _ (T.2.2.2.2.1 ci hc f (List.mem_range.mp hf)))
      rw [hw] at hP1 hD1
      have z := kk H1 locs (up1 rd w.1.1 q) ls (cells + 1) (slots + cF ci) (by show _ = cells + (w.1.1 + 1); omega) (by show _ = slots + (w.1.2.2.2.2 + cF ci); omega) hrd ⟨hP1, hD1, hS1, fun z hz => by rw [← hrx z hz]; exact hrd z (Or.inr hz)⟩ (by rw [trL_ok hI3 hrd]; exact hl)
      have e0 : trS (up1 rd w.1.1 q) (.ref w.1.1 :: st) = .ref q :: trS rd st := by
        show .ref (up1 rd w.1.1 q w.1.1) :: trS (up1 rd w.1.1 q) st = _
        rw [trS_ok hI4 hrd]
        unfold up1
        rw [if_pos rfl]
      rw [e0] at z
      exact z
    · exact (vmNo_go hA).elim
  case invokevirtual j =>
    delta vmAct at hA
    dsimp only at hA
    have hok : (Nat.beq len 3 && vmOk.vmFits k j 1) = true := hok
    rw [Bool.and_eq_true] at hok
    obtain rfl : len = 3 := Nat.eq_of_beq_eq_true hok.1
    have hf := hok.2
    unfold vmOk.vmFits at hf
    unfold vmInvoke at hA
    cases hr : rM (mC k) j with
    | none => rw [hr] at hA; exact (vmNo_go hA).elim
    | some q =>
      obtain ⟨kd, k2, hs⟩ := q
      have hM := T.1.2.1 (mC k) j
      unfold ckM at hM
      rw [hr] at hA hf hM
      dsimp only at hA hf hM
      rw [Bool.and_eq_true] at hf
      obtain ⟨hf0, hf⟩ := hf
      split at hA
      · exact (vmCall_go hA).elim
      · exact (vmCall_go hA).elim
      · exact (vmCall_go hA).elim
      · exact (vmCall_go hA).elim
      · exact (vmCall_go hA).elim
      · exact (vmCall_go hA).elim
      · exact absurd hf0 (by decide)
      · try dsimp only at hM
        have hf : (Nat.ble 6 (mF k) && Nat.ble 140 (mX k)) = true := hf
        rw [Bool.and_eq_true] at hf
        have hf1 := Nat.le_trans (Nat.le_of_ble_eq_true hf.1) hR.1
        have hf2 := Nat.le_trans (Nat.le_of_ble_eq_true hf.2) hR.2
        split at hA
        · rename_i q r
          obtain ⟨hb, rfl, rfl, rfl, rfl⟩ := bif_go hA
          rw [Bool.and_eq_true, Bool.and_eq_true] at hb
          have hq1 := Nat.le_of_ble_eq_true hb.1.1
          have hq2 : q < vmBase + 7 := Nat.le_of_ble_eq_true hb.1.2
          have hq3 := Nat.le_of_ble_eq_true hb.2
          obtain ⟨v, rfl⟩ : ∃ v : Nat, q = vmBase + v := Nat.exists_eq_add_of_le hq1
          have hv7 : v < 7 := Nat.lt_of_add_lt_add_left hq2
          have hz : rd (vmBase + v) = rx (vmBase + v) := hrx _ (by unfold vmBase; omega)
          have hv : vmBase + v - vmBase = v := Nat.add_sub_cancel_left _ _
          have hk := kk H locs rd ls cells slots rfl rfl (fun _ _ => rfl) hH hl
          have hg := hStr A H locs cells slots Q pc j v ls (trS rd r) hX hS S hv7 hl.1 hf1 hf2 (by rw [cat_tr]; exact hq3) (by omega) (by omega) hD
          rw [hv] at hk
          show W p l e R s m args below meth c H locs cells slots Q (F0 m pc ls (.ref (rd (vmBase + v)) :: trS rd r))
          rw [hz]
          exact hg.1 (ckAt_TB hM) hk
        · exact (vmNo_go hA).elim
      · try dsimp only at hM
        have hf : (Nat.ble 6 (mF k) && Nat.ble 140 (mX k)) = true := hf
        rw [Bool.and_eq_true] at hf
        have hf1 := Nat.le_trans (Nat.le_of_ble_eq_true hf.1) hR.1
        have hf2 := Nat.le_trans (Nat.le_of_ble_eq_true hf.2) hR.2
        split at hA
        · rename_i x q r
          cases hb : (Nat.ble vmBase q && Nat.blt q (vmBase + 7) && Nat.ble (vmCat r) 8) with
          | false => rw [hb] at hA; exact (vmNo_go hA).elim
          | true =>
            rw [hb] at hA
            obtain ⟨hin2, rfl, rfl, rfl, rfl⟩ := pif_go hA
            rw [Bool.and_eq_true, Bool.and_eq_true] at hb
            have hq1 := Nat.le_of_ble_eq_true hb.1.1
            have hq2 : q < vmBase + 7 := Nat.le_of_ble_eq_true hb.1.2
            have hq3 := Nat.le_of_ble_eq_true hb.2
            obtain ⟨v, rfl⟩ : ∃ v : Nat, q = vmBase + v := Nat.exists_eq_add_of_le hq1
            have hv7 : v < 7 := Nat.lt_of_add_lt_add_left hq2
            have hz : rd (vmBase + v) = rx (vmBase + v) := hrx _ (by unfold vmBase; omega)
            have hv : vmBase + v - vmBase = v := Nat.add_sub_cancel_left _ _
            have hk := kk H locs rd ls cells slots rfl rfl (fun _ _ => rfl) hH hl
            have hg := hStr A H locs cells slots Q pc j v ls (trS rd r) hX hS S hv7 hl.1 hf1 hf2 (by rw [cat_tr]; exact hq3) (by omega) (by omega) hD
            rw [hv] at hk hin2
            show W p l e R s m args below meth c H locs cells slots Q (F0 m pc ls (.int x :: .ref (rd (vmBase + v)) :: trS rd r))
            rw [hz]
            exact hg.2.1 (ckAt_TB hM) x hin2 hk
        · exact (vmNo_go hA).elim
      · try dsimp only at hM
        have hf : (Nat.ble 6 (mF k) && Nat.ble 140 (mX k)) = true := hf
        rw [Bool.and_eq_true] at hf
        have hf1 := Nat.le_trans (Nat.le_of_ble_eq_true hf.1) hR.1
        have hf2 := Nat.le_trans (Nat.le_of_ble_eq_true hf.2) hR.2
        split at hA
        · rename_i x q r
          obtain ⟨hb, rfl, rfl, rfl, rfl⟩ := bif_go hA
          rw [Bool.and_eq_true, Bool.and_eq_true] at hb
          have hq1 := Nat.le_of_ble_eq_true hb.1.1
          have hq2 : q < vmBase + 7 := Nat.le_of_ble_eq_true hb.1.2
          have hq3 := Nat.le_of_ble_eq_true hb.2
          obtain ⟨v, rfl⟩ : ∃ v : Nat, q = vmBase + v := Nat.exists_eq_add_of_le hq1
          have hv7 : v < 7 := Nat.lt_of_add_lt_add_left hq2
          have hz : rd (vmBase + v) = rx (vmBase + v) := hrx _ (by unfold vmBase; omega)
          have hv : vmBase + v - vmBase = v := Nat.add_sub_cancel_left _ _
          have hk := kk H locs rd ls cells slots rfl rfl (fun _ _ => rfl) hH hl
          have hg := hStr A H locs cells slots Q pc j v ls (trS rd r) hX hS S hv7 hl.1 hf1 hf2 (by rw [cat_tr]; exact hq3) (by omega) (by omega) hD
          rw [hv] at hk
          show W p l e R s m args below meth c H locs cells slots Q (F0 m pc ls (.int x :: .ref (rd (vmBase + v)) :: trS rd r))
          rw [hz]
          exact hg.2.2 (ckAt_TB hM) x hk
        · exact (vmNo_go hA).elim
      · exact absurd hf0 (by decide)
      · exact absurd hf0 (by decide)
      · exact absurd hf0 (by decide)
      · exact (vmNo_go hA).elim
  case invokespecial j =>
    delta vmAct at hA
    dsimp only at hA
    have hok : (Nat.beq len 3 && vmOk.vmFits k j 2) = true := hok
    rw [Bool.and_eq_true] at hok
    obtain rfl : len = 3 := Nat.eq_of_beq_eq_true hok.1
    have hf := hok.2
    unfold vmOk.vmFits at hf
    unfold vmInvoke at hA
    cases hr : rM (mC k) j with
    | none => rw [hr] at hA; exact (vmNo_go hA).elim
    | some q =>
      obtain ⟨kd, k2, hs⟩ := q
      have hM := T.1.2.1 (mC k) j
      unfold ckM at hM
      rw [hr] at hA hf hM
      dsimp only at hA hf hM
      rw [Bool.and_eq_true] at hf
      obtain ⟨hf0, hf⟩ := hf
      split at hA
      · exact (vmCall_go hA).elim
      · exact (vmCall_go hA).elim
      · exact (vmCall_go hA).elim
      · exact (vmCall_go hA).elim
      · exact (vmCall_go hA).elim
      · exact (vmCall_go hA).elim
      · try dsimp only at hM
        have hf : (Nat.ble 1 (mF k) && Nat.ble 20 (mX k)) = true := hf
        rw [Bool.and_eq_true] at hf
        have hf1 := Nat.le_trans (Nat.le_of_ble_eq_true hf.1) hR.1
        have hf2 := Nat.le_trans (Nat.le_of_ble_eq_true hf.2) hR.2
        split at hA
        · rename_i a r
          obtain ⟨hq, rfl, rfl, rfl, rfl⟩ := bif_go hA
          have hq := Nat.le_of_ble_eq_true hq
          obtain ⟨hM1, hM⟩ := Bool.and_eq_true_iff.mp hM
          obtain ⟨hM2, hM3⟩ := Bool.and_eq_true_iff.mp hM
          refine W.objInit (a := rd a) (rest := trS rd r) hx hb0 hown (hts _ (ckAt_TB hM1)) (hts _ (ckAt_TB hM2)) (hts _ (ckAt_TB hM3)) rfl (by rw [hml]; exact hl.1) rfl hD hf1 (by have := lv_room (m := m) (pc := pc) (ls := ls) (rest := trS rd (.ref a :: r)) (st := trS rd r) (by rw [cat_tr]; exact hq); have := cat_tr rd r; omega) ?_
          exact kk H locs rd ls cells slots rfl rfl (fun _ _ => rfl) hH hl
        · exact (vmNo_go hA).elim
      · exact absurd hf0 (by decide)
      · exact absurd hf0 (by decide)
      · exact absurd hf0 (by decide)
      · exact absurd hf0 (by decide)
      · exact absurd hf0 (by decide)
      · exact absurd hf0 (by decide)
      · exact (vmNo_go hA).elim
  case invokestatic j =>
    delta vmAct at hA
    dsimp only at hA
    have hok : (Nat.beq len 3 && vmOk.vmFits k j 0) = true := hok
    rw [Bool.and_eq_true] at hok
    obtain rfl : len = 3 := Nat.eq_of_beq_eq_true hok.1
    have hf := hok.2
    unfold vmOk.vmFits at hf
    unfold vmInvoke at hA
    cases hr : rM (mC k) j with
    | none => rw [hr] at hA; exact (vmNo_go hA).elim
    | some q =>
      obtain ⟨kd, k2, hs⟩ := q
      have hM := T.1.2.1 (mC k) j
      unfold ckM at hM
      rw [hr] at hA hf hM
      dsimp only at hA hf hM
      rw [Bool.and_eq_true] at hf
      obtain ⟨hf0, hf⟩ := hf
      split at hA
      · exact (vmCall_go hA).elim
      · exact (vmCall_go hA).elim
      · exact (vmCall_go hA).elim
      · exact (vmCall_go hA).elim
      · exact (vmCall_go hA).elim
      · exact (vmCall_go hA).elim
      · exact absurd hf0 (by decide)
      · exact absurd hf0 (by decide)
      · exact absurd hf0 (by decide)
      · exact absurd hf0 (by decide)
      · try dsimp only at hM
        have hf : (Nat.ble 1 (mF k) && Nat.ble 21 (mX k)) = true := hf
        rw [Bool.and_eq_true] at hf
        have hf1 := Nat.le_trans (Nat.le_of_ble_eq_true hf.1) hR.1
        have hf2 := Nat.le_trans (Nat.le_of_ble_eq_true hf.2) hR.2
        split at hA
        · rename_i y x r
          obtain ⟨hq, rfl, rfl, rfl, rfl⟩ := bif_go hA
          have hq := Nat.le_of_ble_eq_true hq
          obtain ⟨hM1, hM⟩ := Bool.and_eq_true_iff.mp hM
          obtain ⟨hM2, hM⟩ := Bool.and_eq_true_iff.mp hM
          obtain ⟨hM3, hM4⟩ := Bool.and_eq_true_iff.mp hM
          exact va_mmax hx hb0 (by rw [hml]; exact hl.1.symm) hown (hts _ (ckAt_TB hM1)) (hts _ (ckAt_TB hM2)) (hts _ (ckAt_TB hM3)) (hts _ (ckAt_TB hM4)) hf1 (by have := cat_tr rd r; show ((trS rd r).map fun v => v.category).sum + 13 ≤ R.locals; omega) (by omega) (by omega) hD (kk H locs rd ls cells slots rfl rfl (fun _ _ => rfl) hH hl)
        · exact (vmNo_go hA).elim
      · try dsimp only at hM
        have hf : (Nat.ble 1 (mF k) && Nat.ble 21 (mX k)) = true := hf
        rw [Bool.and_eq_true] at hf
        have hf1 := Nat.le_trans (Nat.le_of_ble_eq_true hf.1) hR.1
        have hf2 := Nat.le_trans (Nat.le_of_ble_eq_true hf.2) hR.2
        split at hA
        · rename_i y x r
          obtain ⟨hq, rfl, rfl, rfl, rfl⟩ := bif_go hA
          have hq := Nat.le_of_ble_eq_true hq
          obtain ⟨hM1, hM⟩ := Bool.and_eq_true_iff.mp hM
          obtain ⟨hM2, hM⟩ := Bool.and_eq_true_iff.mp hM
          obtain ⟨hM3, hM4⟩ := Bool.and_eq_true_iff.mp hM
          exact va_mmin hx hb0 (by rw [hml]; exact hl.1.symm) hown (hts _ (ckAt_TB hM1)) (hts _ (ckAt_TB hM2)) (hts _ (ckAt_TB hM3)) (hts _ (ckAt_TB hM4)) hf1 (by have := cat_tr rd r; show ((trS rd r).map fun v => v.category).sum + 13 ≤ R.locals; omega) (by omega) (by omega) hD (kk H locs rd ls cells slots rfl rfl (fun _ _ => rfl) hH hl)
        · exact (vmNo_go hA).elim
      · try dsimp only at hM
        have hf : (Nat.ble 1 (mF k) && Nat.ble 21 (mX k)) = true := hf
        rw [Bool.and_eq_true] at hf
        have hf1 := Nat.le_trans (Nat.le_of_ble_eq_true hf.1) hR.1
        have hf2 := Nat.le_trans (Nat.le_of_ble_eq_true hf.2) hR.2
        split at hA
        · rename_i x r
          obtain ⟨hq, rfl, rfl, rfl, rfl⟩ := bif_go hA
          have hq := Nat.le_of_ble_eq_true hq
          obtain ⟨hM1, hM⟩ := Bool.and_eq_true_iff.mp hM
          obtain ⟨hM2, hM⟩ := Bool.and_eq_true_iff.mp hM
          obtain ⟨hM3, hM4⟩ := Bool.and_eq_true_iff.mp hM
          exact va_mabs hx hb0 (by rw [hml]; exact hl.1.symm) hown (hts _ (ckAt_TB hM1)) (hts _ (ckAt_TB hM2)) (hts _ (ckAt_TB hM3)) (hts _ (ckAt_TB hM4)) hf1 (by have := cat_tr rd r; show ((trS rd r).map fun v => v.category).sum + 13 ≤ R.locals; omega) (by omega) (by omega) hD (kk H locs rd ls cells slots rfl rfl (fun _ _ => rfl) hH hl)
        · exact (vmNo_go hA).elim
      · exact (vmNo_go hA).elim
  case ireturn =>
    delta vmAct at hA
    dsimp only at hA
    split at hA
    · exact (vmGo_ret hA.symm).elim
    · split at hA
      · exact (vmGo_ret hA.symm).elim
      · exact (vmNo_go hA).elim
    · exact (vmNo_go hA).elim
  case lreturn =>
    delta vmAct at hA
    dsimp only at hA
    split at hA
    · exact (vmGo_ret hA.symm).elim
    · exact (vmNo_go hA).elim
  case return_ =>
    delta vmAct at hA
    dsimp only at hA
    split at hA
    · exact (vmGo_ret hA.symm).elim
    · exact (vmNo_go hA).elim
  all_goals exact (vmNo_go hA).elim
end SND5
