/-! SOUNDNESS, 3: what every instruction keeps; what a run keeps -/
def vmExt (w w' : vmW) : Prop := w.1.1 ≤ w'.1.1 ∧ w.1.2.2.2.2 ≤ w'.1.2.2.2.2 ∧ w'.1.2.2.2.1 1000 = w.1.2.2.2.1 1000 ∧ w'.2.2.2.1 1000 = w.2.2.2.1 1000
theorem vmExt.rf {w : vmW} : vmExt w w := ⟨Nat.le_refl _, Nat.le_refl _, rfl, rfl⟩
theorem vmExt.tr {a b c : vmW} (h : vmExt a b) (h2 : vmExt b c) : vmExt a c := ⟨Nat.le_trans h.1 h2.1, Nat.le_trans h.2.1 h2.2.1, h2.2.2.1.trans h.2.2.1, h2.2.2.2.trans h.2.2.2⟩
theorem okr_ext {w w' : vmW} {i : Nat} (h : w.1.1 ≤ w'.1.1) (hi : okr w i) : okr w' i := hi.elim (fun h2 => Or.inl (Nat.lt_of_lt_of_le h2 h)) Or.inr
theorem okv_ext {w w' : vmW} {v : Value} (h : w.1.1 ≤ w'.1.1) (hv : okv w v) : okv w' v := fun i hi => okr_ext h (hv i hi)
theorem ok_tl {w : vmW} {v : Value} {st : List Value} (h : ∀ x ∈ v :: st, okv w x) : ∀ x ∈ st, okv w x := fun x hx => h x (List.mem_cons_of_mem _ hx)
theorem ok_hd {w : vmW} {v : Value} {st : List Value} (h : ∀ x ∈ v :: st, okv w x) : okv w v := h v List.mem_cons_self
theorem ok_cons {w : vmW} {v : Value} {st : List Value} (hv : okv w v) (h : ∀ x ∈ st, okv w x) : ∀ x ∈ v :: st, okv w x := fun x hx => (List.mem_cons.mp hx).elim (fun e => e ▸ hv) (h x)
theorem inv_st {w : vmW} {lo lo' : vmL} {st st' : List Value} (hI : vmInv w lo st) (hlo : ∀ q ∈ lo', okv w q.2) (hst : ∀ v ∈ st', okv w v) : vmInv w lo' st' ∧ vmExt w w := ⟨⟨hI.1, hI.2.1, hlo, hst⟩, vmExt.rf⟩
theorem inv_get {w : vmW} {lo : vmL} {st : List Value} {n : Nat} {v : Value} (hI : vmInv w lo st) (h : vmGet lo n = some v) : okv w v := hI.2.2.1 (n, v) (vmGet_mem h)
theorem inv_new {w : vmW} {lo : vmL} {st : List Value} (hI : vmInv w lo st) (kd n : Nat) (h : w.1.1 < 900) : vmInv (vmNew w kd n) lo (.ref w.1.1 :: st) ∧ vmExt w (vmNew w kd n) := by
  have hle : w.1.1 ≤ (vmNew w kd n).1.1 := Nat.le_succ _
  refine ⟨⟨h, ?_, fun q hq => okv_ext hle (hI.2.2.1 q hq), ok_cons (fun i hi => ?_) (fun v hv => okv_ext hle (hI.2.2.2 v hv))⟩, hle, Nat.le_add_right _ _, ?_, ?_⟩
  · intro o f i hi
    have hi : (if o = w.1.1 then 0 else w.1.2.2.1 o f) = i + 1 := hi
    split at hi
    · cases hi
    · exact okr_ext hle (hI.2.1 o f i hi)
  · cases hi
    exact Or.inl (Nat.lt_succ_self _)
  · show (if 1000 = w.1.1 then n else _) = _
    rw [if_neg (by omega)]
  · funext j
    show (if 1000 = w.1.1 then 0 else _) = _
    rw [if_neg (by omega)]
theorem inv_put {w w' : vmW} {lo : vmL} {st : List Value} {ci o f : Nat} {v : Value} (hI : vmInv w lo st) (hv : okv w v) (h : vmPut w ci o f v = some w') : vmInv w' lo st ∧ vmExt w w' := by
  unfold vmPut at h
  split at h
  · cases h
    exact ⟨hI, vmExt.rf⟩
  · split at h
    · cases h
      exact ⟨hI, vmExt.rf⟩
    · cases h
  · cases h
    exact ⟨hI, vmExt.rf⟩
  · rename_i j _
    cases h
    refine ⟨⟨hI.1, ?_, hI.2.2.1, hI.2.2.2⟩, vmExt.rf⟩
    intro o' f' i hi
    have hi : (if o' = o ∧ f' = f then j + 1 else w.1.2.2.1 o' f') = i + 1 := hi
    split at hi
    · cases hi
      exact hv j rfl
    · exact hI.2.1 o' f' i hi
  · rename_i j _
    cases h
    refine ⟨⟨hI.1, ?_, hI.2.2.1, hI.2.2.2⟩, vmExt.rf⟩
    intro o' f' i hi
    have hi : (if o' = o ∧ f' = f then j + 1 else w.1.2.2.1 o' f') = i + 1 := hi
    split at hi
    · cases hi
      exact hv j rfl
    · exact hI.2.1 o' f' i hi
  · cases h
theorem vmCall_go {w : vmW} {k' : Nat} {inst : Bool} {st : List Value} {pc' : Nat} {lo' : vmL} {w' : vmW} {st' : List Value} (h : vmCall w k' inst st = vmGo pc' lo' w' st') : False := by
  unfold vmCall at h
  cases h1 : Nat.ble (mArgs k' + (bif inst then 1 else 0)) st.length with
  | false => rw [h1] at h; exact vmNo_go h
  | true =>
    rw [h1] at h
    dsimp only [cond_true] at h
    revert h
    generalize (Nat.ble (vmCat _) 8 && Nat.ble _ (mL k') && _) = b
    intro h
    cases b with
    | false => exact vmNo_go h
    | true => exact vmGo_call h.symm
set_option maxRecDepth 100000 in
set_option maxHeartbeats 4000000 in
theorem inv_invoke {pc : Nat} {lo : vmL} {w : vmW} {r : Option (Nat × Nat × List Nat)} {st : List Value} {pc' : Nat} {lo' : vmL} {w' : vmW} {st' : List Value} (hI : vmInv w lo st) (h : vmInvoke pc lo w r st = vmGo pc' lo' w' st') : vmInv w' lo' st' ∧ vmExt w w' := by
  unfold vmInvoke at h
  split at h
  · exact (vmNo_go h).elim
  · split at h
    · exact (vmCall_go h).elim
    · exact (vmCall_go h).elim
    · exact (vmCall_go h).elim
    · exact (vmCall_go h).elim
    · exact (vmCall_go h).elim
    · exact (vmCall_go h).elim
    · split at h
      · obtain ⟨-, rfl, rfl, rfl, rfl⟩ := bif_go h
        exact inv_st hI hI.2.2.1 (ok_tl hI.2.2.2)
      · exact (vmNo_go h).elim
    · split at h
      · obtain ⟨-, rfl, rfl, rfl, rfl⟩ := bif_go h
        exact inv_st hI hI.2.2.1 (ok_cons (okv_int _ _) (ok_tl hI.2.2.2))
      · exact (vmNo_go h).elim
    · split at h
      · rename_i j q r
        cases hb : (Nat.ble vmBase q && Nat.blt q (vmBase + 7) && Nat.ble (vmCat r) 8) with
        | false => rw [hb] at h; exact (vmNo_go h).elim
        | true =>
          rw [hb] at h
          obtain ⟨-, rfl, rfl, rfl, rfl⟩ := pif_go h
          exact inv_st hI hI.2.2.1 (ok_cons (okv_int _ _) (ok_tl (ok_tl hI.2.2.2)))
      · exact (vmNo_go h).elim
    · split at h
      · obtain ⟨-, rfl, rfl, rfl, rfl⟩ := bif_go h
        exact inv_st hI hI.2.2.1 (ok_cons (okv_int _ _) (ok_tl (ok_tl hI.2.2.2)))
      · exact (vmNo_go h).elim
    · split at h
      · obtain ⟨-, rfl, rfl, rfl, rfl⟩ := bif_go h
        exact inv_st hI hI.2.2.1 (ok_cons (okv_int _ _) (ok_tl (ok_tl hI.2.2.2)))
      · exact (vmNo_go h).elim
    · split at h
      · obtain ⟨-, rfl, rfl, rfl, rfl⟩ := bif_go h
        exact inv_st hI hI.2.2.1 (ok_cons (okv_int _ _) (ok_tl (ok_tl hI.2.2.2)))
      · exact (vmNo_go h).elim
    · split at h
      · obtain ⟨-, rfl, rfl, rfl, rfl⟩ := bif_go h
        exact inv_st hI hI.2.2.1 (ok_cons (okv_int _ _) (ok_tl hI.2.2.2))
      · exact (vmNo_go h).elim
    · exact (vmNo_go h).elim
set_option maxRecDepth 100000 in
set_option maxHeartbeats 4000000 in
theorem act_inv {k pc len tg : Nat} {cv : Int32} {i : Instr} {lo : vmL} {st : List Value} {w : vmW} {pc' : Nat} {lo' : vmL} {w' : vmW} {st' : List Value} (hI : vmInv w lo st) (hA : vmAct k i len cv tg pc lo st w = vmGo pc' lo' w' st') : vmInv w' lo' st' ∧ vmExt w w' := by
  cases i
  case iconst n =>
    delta vmAct at hA
    dsimp only at hA
    obtain ⟨rfl, rfl, rfl, rfl⟩ := vmGo_inj hA
    exact inv_st hI (hI.2.2.1) (ok_cons (okv_int _ _) (hI.2.2.2))
  case bipush n =>
    delta vmAct at hA
    dsimp only at hA
    obtain ⟨rfl, rfl, rfl, rfl⟩ := vmGo_inj hA
    exact inv_st hI (hI.2.2.1) (ok_cons (okv_int _ _) (hI.2.2.2))
  case sipush n =>
    delta vmAct at hA
    dsimp only at hA
    obtain ⟨rfl, rfl, rfl, rfl⟩ := vmGo_inj hA
    exact inv_st hI (hI.2.2.1) (ok_cons (okv_int _ _) (hI.2.2.2))
  case lconst n =>
    delta vmAct at hA
    dsimp only at hA
    obtain ⟨rfl, rfl, rfl, rfl⟩ := vmGo_inj hA
    exact inv_st hI (hI.2.2.1) (ok_cons (okv_long _ _) (hI.2.2.2))
  case ldc j =>
    delta vmAct at hA
    dsimp only at hA
    split at hA
    · obtain ⟨rfl, rfl, rfl, rfl⟩ := vmGo_inj hA
      exact inv_st hI (hI.2.2.1) (ok_cons (okv_int _ _) (hI.2.2.2))
    · split at hA
      · obtain ⟨rfl, rfl, rfl, rfl⟩ := vmGo_inj hA
        exact inv_st hI (hI.2.2.1) (ok_cons (fun i hi => by cases hi; exact Or.inr (by unfold vmBase; omega)) (hI.2.2.2))
      · exact (vmNo_go hA).elim
  case ldc_w j =>
    delta vmAct at hA
    dsimp only at hA
    split at hA
    · obtain ⟨rfl, rfl, rfl, rfl⟩ := vmGo_inj hA
      exact inv_st hI (hI.2.2.1) (ok_cons (okv_int _ _) (hI.2.2.2))
    · exact (vmNo_go hA).elim
  case ldc2_w j =>
    delta vmAct at hA
    dsimp only at hA
    split at hA
    · obtain ⟨rfl, rfl, rfl, rfl⟩ := vmGo_inj hA
      exact inv_st hI (hI.2.2.1) (ok_cons (okv_long _ _) (hI.2.2.2))
    · exact (vmNo_go hA).elim
  case iload n =>
    delta vmAct at hA
    dsimp only at hA
    split at hA
    · rename_i x hg
      obtain ⟨rfl, rfl, rfl, rfl⟩ := vmGo_inj hA
      exact inv_st hI (hI.2.2.1) (ok_cons (inv_get hI hg) (hI.2.2.2))
    · exact (vmNo_go hA).elim
  case iload_n n =>
    delta vmAct at hA
    dsimp only at hA
    split at hA
    · rename_i x hg
      obtain ⟨rfl, rfl, rfl, rfl⟩ := vmGo_inj hA
      exact inv_st hI (hI.2.2.1) (ok_cons (inv_get hI hg) (hI.2.2.2))
    · exact (vmNo_go hA).elim
  case lload n =>
    delta vmAct at hA
    dsimp only at hA
    split at hA
    · rename_i x hg
      obtain ⟨rfl, rfl, rfl, rfl⟩ := vmGo_inj hA
      exact inv_st hI (hI.2.2.1) (ok_cons (inv_get hI hg) (hI.2.2.2))
    · exact (vmNo_go hA).elim
  case lload_n n =>
    delta vmAct at hA
    dsimp only at hA
    split at hA
    · rename_i x hg
      obtain ⟨rfl, rfl, rfl, rfl⟩ := vmGo_inj hA
      exact inv_st hI (hI.2.2.1) (ok_cons (inv_get hI hg) (hI.2.2.2))
    · exact (vmNo_go hA).elim
  case aload n =>
    delta vmAct at hA
    dsimp only at hA
    split at hA
    · rename_i x hg
      obtain ⟨rfl, rfl, rfl, rfl⟩ := vmGo_inj hA
      exact inv_st hI (hI.2.2.1) (ok_cons (inv_get hI hg) (hI.2.2.2))
    · exact (vmNo_go hA).elim
  case aload_n n =>
    delta vmAct at hA
    dsimp only at hA
    split at hA
    · rename_i x hg
      obtain ⟨rfl, rfl, rfl, rfl⟩ := vmGo_inj hA
      exact inv_st hI (hI.2.2.1) (ok_cons (inv_get hI hg) (hI.2.2.2))
    · exact (vmNo_go hA).elim
  case istore n =>
    delta vmAct at hA
    dsimp only at hA
    split at hA
    · obtain ⟨-, rfl, rfl, rfl, rfl⟩ := bif_go hA
      exact inv_st hI (set1_ok hI.2.2.1 (ok_hd hI.2.2.2)) (ok_tl (hI.2.2.2))
    · exact (vmNo_go hA).elim
  case istore_n n =>
    delta vmAct at hA
    dsimp only at hA
    split at hA
    · obtain ⟨-, rfl, rfl, rfl, rfl⟩ := bif_go hA
      exact inv_st hI (set1_ok hI.2.2.1 (ok_hd hI.2.2.2)) (ok_tl (hI.2.2.2))
    · exact (vmNo_go hA).elim
  case lstore n =>
    delta vmAct at hA
    dsimp only at hA
    split at hA
    · obtain ⟨-, rfl, rfl, rfl, rfl⟩ := bif_go hA
      exact inv_st hI (set2_ok hI.2.2.1 (ok_hd hI.2.2.2)) (ok_tl (hI.2.2.2))
    · exact (vmNo_go hA).elim
  case lstore_n n =>
    delta vmAct at hA
    dsimp only at hA
    split at hA
    · obtain ⟨-, rfl, rfl, rfl, rfl⟩ := bif_go hA
      exact inv_st hI (set2_ok hI.2.2.1 (ok_hd hI.2.2.2)) (ok_tl (hI.2.2.2))
    · exact (vmNo_go hA).elim
  case astore n =>
    delta vmAct at hA
    dsimp only at hA
    split at hA
    · obtain ⟨-, rfl, rfl, rfl, rfl⟩ := bif_go hA
      exact inv_st hI (set1_ok hI.2.2.1 (ok_hd hI.2.2.2)) (ok_tl (hI.2.2.2))
    · exact (vmNo_go hA).elim
  case astore_n n =>
    delta vmAct at hA
    dsimp only at hA
    split at hA
    · obtain ⟨-, rfl, rfl, rfl, rfl⟩ := bif_go hA
      exact inv_st hI (set1_ok hI.2.2.1 (ok_hd hI.2.2.2)) (ok_tl (hI.2.2.2))
    · exact (vmNo_go hA).elim
  case iinc n v =>
    delta vmAct at hA
    dsimp only at hA
    split at hA
    · obtain ⟨-, rfl, rfl, rfl, rfl⟩ := bif_go hA
      exact inv_st hI (set1_ok hI.2.2.1 (okv_int _ _)) (hI.2.2.2)
    · exact (vmNo_go hA).elim
  case iadd =>
    delta vmAct at hA
    dsimp only at hA
    split at hA
    · obtain ⟨rfl, rfl, rfl, rfl⟩ := vmGo_inj hA
      exact inv_st hI (hI.2.2.1) (ok_cons (okv_int _ _) (ok_tl (ok_tl (hI.2.2.2))))
    · exact (vmNo_go hA).elim
  case isub =>
    delta vmAct at hA
    dsimp only at hA
    split at hA
    · obtain ⟨rfl, rfl, rfl, rfl⟩ := vmGo_inj hA
      exact inv_st hI (hI.2.2.1) (ok_cons (okv_int _ _) (ok_tl (ok_tl (hI.2.2.2))))
    · exact (vmNo_go hA).elim
  case imul =>
    delta vmAct at hA
    dsimp only at hA
    split at hA
    · obtain ⟨rfl, rfl, rfl, rfl⟩ := vmGo_inj hA
      exact inv_st hI (hI.2.2.1) (ok_cons (okv_int _ _) (ok_tl (ok_tl (hI.2.2.2))))
    · exact (vmNo_go hA).elim
  case iand =>
    delta vmAct at hA
    dsimp only at hA
    split at hA
    · obtain ⟨rfl, rfl, rfl, rfl⟩ := vmGo_inj hA
      exact inv_st hI (hI.2.2.1) (ok_cons (okv_int _ _) (ok_tl (ok_tl (hI.2.2.2))))
    · exact (vmNo_go hA).elim
  case ior =>
    delta vmAct at hA
    dsimp only at hA
    split at hA
    · obtain ⟨rfl, rfl, rfl, rfl⟩ := vmGo_inj hA
      exact inv_st hI (hI.2.2.1) (ok_cons (okv_int _ _) (ok_tl (ok_tl (hI.2.2.2))))
    · exact (vmNo_go hA).elim
  case ixor =>
    delta vmAct at hA
    dsimp only at hA
    split at hA
    · obtain ⟨rfl, rfl, rfl, rfl⟩ := vmGo_inj hA
      exact inv_st hI (hI.2.2.1) (ok_cons (okv_int _ _) (ok_tl (ok_tl (hI.2.2.2))))
    · exact (vmNo_go hA).elim
  case ishl =>
    delta vmAct at hA
    dsimp only at hA
    split at hA
    · obtain ⟨rfl, rfl, rfl, rfl⟩ := vmGo_inj hA
      exact inv_st hI (hI.2.2.1) (ok_cons (okv_int _ _) (ok_tl (ok_tl (hI.2.2.2))))
    · exact (vmNo_go hA).elim
  case ishr =>
    delta vmAct at hA
    dsimp only at hA
    split at hA
    · obtain ⟨rfl, rfl, rfl, rfl⟩ := vmGo_inj hA
      exact inv_st hI (hI.2.2.1) (ok_cons (okv_int _ _) (ok_tl (ok_tl (hI.2.2.2))))
    · exact (vmNo_go hA).elim
  case iushr =>
    delta vmAct at hA
    dsimp only at hA
    split at hA
    · obtain ⟨rfl, rfl, rfl, rfl⟩ := vmGo_inj hA
      exact inv_st hI (hI.2.2.1) (ok_cons (okv_int _ _) (ok_tl (ok_tl (hI.2.2.2))))
    · exact (vmNo_go hA).elim
  case ladd =>
    delta vmAct at hA
    dsimp only at hA
    split at hA
    · obtain ⟨rfl, rfl, rfl, rfl⟩ := vmGo_inj hA
      exact inv_st hI (hI.2.2.1) (ok_cons (okv_long _ _) (ok_tl (ok_tl (hI.2.2.2))))
    · exact (vmNo_go hA).elim
  case lmul =>
    delta vmAct at hA
    dsimp only at hA
    split at hA
    · obtain ⟨rfl, rfl, rfl, rfl⟩ := vmGo_inj hA
      exact inv_st hI (hI.2.2.1) (ok_cons (okv_long _ _) (ok_tl (ok_tl (hI.2.2.2))))
    · exact (vmNo_go hA).elim
  case land =>
    delta vmAct at hA
    dsimp only at hA
    split at hA
    · obtain ⟨rfl, rfl, rfl, rfl⟩ := vmGo_inj hA
      exact inv_st hI (hI.2.2.1) (ok_cons (okv_long _ _) (ok_tl (ok_tl (hI.2.2.2))))
    · exact (vmNo_go hA).elim
  case lor =>
    delta vmAct at hA
    dsimp only at hA
    split at hA
    · obtain ⟨rfl, rfl, rfl, rfl⟩ := vmGo_inj hA
      exact inv_st hI (hI.2.2.1) (ok_cons (okv_long _ _) (ok_tl (ok_tl (hI.2.2.2))))
    · exact (vmNo_go hA).elim
  case lshl =>
    delta vmAct at hA
    dsimp only at hA
    split at hA
    · obtain ⟨rfl, rfl, rfl, rfl⟩ := vmGo_inj hA
      exact inv_st hI (hI.2.2.1) (ok_cons (okv_long _ _) (ok_tl (ok_tl (hI.2.2.2))))
    · exact (vmNo_go hA).elim
  case lshr =>
    delta vmAct at hA
    dsimp only at hA
    split at hA
    · obtain ⟨rfl, rfl, rfl, rfl⟩ := vmGo_inj hA
      exact inv_st hI (hI.2.2.1) (ok_cons (okv_long _ _) (ok_tl (ok_tl (hI.2.2.2))))
    · exact (vmNo_go hA).elim
  case lcmp =>
    delta vmAct at hA
    dsimp only at hA
    split at hA
    · obtain ⟨rfl, rfl, rfl, rfl⟩ := vmGo_inj hA
      exact inv_st hI (hI.2.2.1) (ok_cons (okv_int _ _) (ok_tl (ok_tl (hI.2.2.2))))
    · exact (vmNo_go hA).elim
  case idiv =>
    delta vmAct at hA
    dsimp only at hA
    split at hA
    · obtain ⟨-, rfl, rfl, rfl, rfl⟩ := nif_go hA
      exact inv_st hI (hI.2.2.1) (ok_cons (okv_int _ _) (ok_tl (ok_tl (hI.2.2.2))))
    · exact (vmNo_go hA).elim
  case irem =>
    delta vmAct at hA
    dsimp only at hA
    split at hA
    · obtain ⟨-, rfl, rfl, rfl, rfl⟩ := nif_go hA
      exact inv_st hI (hI.2.2.1) (ok_cons (okv_int _ _) (ok_tl (ok_tl (hI.2.2.2))))
    · exact (vmNo_go hA).elim
  case ldiv =>
    delta vmAct at hA
    dsimp only at hA
    split at hA
    · obtain ⟨-, rfl, rfl, rfl, rfl⟩ := nif_go hA
      exact inv_st hI (hI.2.2.1) (ok_cons (okv_long _ _) (ok_tl (ok_tl (hI.2.2.2))))
    · exact (vmNo_go hA).elim
  case lrem =>
    delta vmAct at hA
    dsimp only at hA
    split at hA
    · obtain ⟨-, rfl, rfl, rfl, rfl⟩ := nif_go hA
      exact inv_st hI (hI.2.2.1) (ok_cons (okv_long _ _) (ok_tl (ok_tl (hI.2.2.2))))
    · exact (vmNo_go hA).elim
  case ineg =>
    delta vmAct at hA
    dsimp only at hA
    split at hA
    · obtain ⟨rfl, rfl, rfl, rfl⟩ := vmGo_inj hA
      exact inv_st hI (hI.2.2.1) (ok_cons (okv_int _ _) (ok_tl (hI.2.2.2)))
    · exact (vmNo_go hA).elim
  case l2i =>
    delta vmAct at hA
    dsimp only at hA
    split at hA
    · obtain ⟨rfl, rfl, rfl, rfl⟩ := vmGo_inj hA
      exact inv_st hI (hI.2.2.1) (ok_cons (okv_int _ _) (ok_tl (hI.2.2.2)))
    · exact (vmNo_go hA).elim
  case i2b =>
    delta vmAct at hA
    dsimp only at hA
    split at hA
    · obtain ⟨rfl, rfl, rfl, rfl⟩ := vmGo_inj hA
      exact inv_st hI (hI.2.2.1) (ok_cons (okv_int _ _) (ok_tl (hI.2.2.2)))
    · exact (vmNo_go hA).elim
  case i2c =>
    delta vmAct at hA
    dsimp only at hA
    split at hA
    · obtain ⟨rfl, rfl, rfl, rfl⟩ := vmGo_inj hA
      exact inv_st hI (hI.2.2.1) (ok_cons (okv_int _ _) (ok_tl (hI.2.2.2)))
    · exact (vmNo_go hA).elim
  case i2s =>
    delta vmAct at hA
    dsimp only at hA
    split at hA
    · obtain ⟨rfl, rfl, rfl, rfl⟩ := vmGo_inj hA
      exact inv_st hI (hI.2.2.1) (ok_cons (okv_int _ _) (ok_tl (hI.2.2.2)))
    · exact (vmNo_go hA).elim
  case i2l =>
    delta vmAct at hA
    dsimp only at hA
    split at hA
    · obtain ⟨rfl, rfl, rfl, rfl⟩ := vmGo_inj hA
      exact inv_st hI (hI.2.2.1) (ok_cons (okv_long _ _) (ok_tl (hI.2.2.2)))
    · exact (vmNo_go hA).elim
  case dup =>
    delta vmAct at hA
    dsimp only at hA
    split at hA
    · obtain ⟨-, rfl, rfl, rfl, rfl⟩ := bif_go hA
      exact inv_st hI (hI.2.2.1) (ok_cons (ok_hd hI.2.2.2) (hI.2.2.2))
    · exact (vmNo_go hA).elim
  case pop =>
    delta vmAct at hA
    dsimp only at hA
    split at hA
    · obtain ⟨-, rfl, rfl, rfl, rfl⟩ := bif_go hA
      exact inv_st hI (hI.2.2.1) (ok_tl (hI.2.2.2))
    · exact (vmNo_go hA).elim
  case ifCond cc off =>
    delta vmAct at hA
    dsimp only at hA
    split at hA
    · obtain ⟨rfl, rfl, rfl, rfl⟩ := vmGo_inj hA
      exact inv_st hI (hI.2.2.1) (ok_tl (hI.2.2.2))
    · exact (vmNo_go hA).elim
  case if_icmp cc off =>
    delta vmAct at hA
    dsimp only at hA
    split at hA
    · obtain ⟨rfl, rfl, rfl, rfl⟩ := vmGo_inj hA
      exact inv_st hI (hI.2.2.1) (ok_tl (ok_tl (hI.2.2.2)))
    · exact (vmNo_go hA).elim
  case goto off =>
    delta vmAct at hA
    dsimp only at hA
    obtain ⟨rfl, rfl, rfl, rfl⟩ := vmGo_inj hA
    exact inv_st hI (hI.2.2.1) (hI.2.2.2)
  case tableswitch d a b offs =>
    delta vmAct at hA
    dsimp only at hA
    split at hA
    · obtain ⟨rfl, rfl, rfl, rfl⟩ := vmGo_inj hA
      exact inv_st hI (hI.2.2.1) (ok_tl (hI.2.2.2))
    · exact (vmNo_go hA).elim
  case lookupswitch d ps =>
    delta vmAct at hA
    dsimp only at hA
    split at hA
    · obtain ⟨rfl, rfl, rfl, rfl⟩ := vmGo_inj hA
      exact inv_st hI (hI.2.2.1) (ok_tl (hI.2.2.2))
    · exact (vmNo_go hA).elim
  case getfield j =>
    delta vmAct at hA
    dsimp only at hA
    split at hA
    · obtain ⟨-, rfl, rfl, rfl, rfl⟩ := bif_go hA
      exact inv_st hI (hI.2.2.1) (ok_cons (fv_ok hI.2.1) (ok_tl (hI.2.2.2)))
    · exact (vmNo_go hA).elim
  case putfield j =>
    delta vmAct at hA
    dsimp only at hA
    split at hA
    · rename_i v o2 r ci f hh hrf
      cases hb : (vmIs w o2 ci && (!(cT ci f).2.2.2 || (mInit k && Nat.beq ci (mC k)))) with
      | false => rw [hb] at hA; exact (vmNo_go hA).elim
      | true =>
        rw [hb] at hA
        dsimp only [cond_true] at hA
        split at hA
        · rename_i w2 hw2
          obtain ⟨rfl, rfl, rfl, rfl⟩ := vmGo_inj hA
          obtain ⟨h1, h2⟩ := inv_put hI (ok_hd hI.2.2.2) hw2
          exact ⟨⟨h1.1, h1.2.1, h1.2.2.1, ok_tl (ok_tl h1.2.2.2)⟩, h2⟩
        · exact (vmNo_go hA).elim
    · exact (vmNo_go hA).elim
  case iaload =>
    delta vmAct at hA
    dsimp only at hA
    split at hA
    · rename_i j o2 r
      cases hb : (vmIs w o2 20 || (Nat.beq o2 1000 && Nat.beq k 406)) with
      | false => rw [hb] at hA; exact (vmNo_go hA).elim
      | true =>
        rw [hb] at hA
        obtain ⟨-, rfl, rfl, rfl, rfl⟩ := pif_go hA
        exact inv_st hI (hI.2.2.1) (ok_cons (okv_int _ _) (ok_tl (ok_tl (hI.2.2.2))))
    · exact (vmNo_go hA).elim
  case baload =>
    delta vmAct at hA
    dsimp only at hA
    split at hA
    · rename_i j o2 r
      cases hb : (vmIs w o2 21 || vmIs w o2 22) with
      | false => rw [hb] at hA; exact (vmNo_go hA).elim
      | true =>
        rw [hb] at hA
        obtain ⟨-, rfl, rfl, rfl, rfl⟩ := pif_go hA
        exact inv_st hI (hI.2.2.1) (ok_cons (okv_int _ _) (ok_tl (ok_tl (hI.2.2.2))))
    · exact (vmNo_go hA).elim
  case laload =>
    delta vmAct at hA
    dsimp only at hA
    split at hA
    · rename_i j o2 r
      cases hb : (vmIs w o2 23) with
      | false => rw [hb] at hA; exact (vmNo_go hA).elim
      | true =>
        rw [hb] at hA
        obtain ⟨-, rfl, rfl, rfl, rfl⟩ := pif_go hA
        exact inv_st hI (hI.2.2.1) (ok_cons (okv_long _ _) (ok_tl (ok_tl (hI.2.2.2))))
    · exact (vmNo_go hA).elim
  case iastore =>
    delta vmAct at hA
    dsimp only at hA
    split at hA
    · rename_i x j o2 r
      cases hb : vmIs w o2 20 with
      | false => rw [hb] at hA; exact (vmNo_go hA).elim
      | true =>
        rw [hb] at hA
        obtain ⟨-, rfl, rfl, rfl, rfl⟩ := pif_go hA
        have h2 := hI.2.2.2
        refine ⟨⟨hI.1, hI.2.1, hI.2.2.1, ok_tl (ok_tl (ok_tl h2))⟩, Nat.le_refl _, Nat.le_refl _, rfl, ?_⟩
        funext z
        show (if 1000 = o2 ∧ z = _ then _ else _) = _
        rw [if_neg]
        intro h
        have h : (1000 : Nat) = o2 := h.1
        have := (vmIs_iff hb).1
        have := hI.1
        omega
    · exact (vmNo_go hA).elim
  case lastore =>
    delta vmAct at hA
    dsimp only at hA
    split at hA
    · rename_i x j o2 r
      cases hb : vmIs w o2 23 with
      | false => rw [hb] at hA; exact (vmNo_go hA).elim
      | true =>
        rw [hb] at hA
        obtain ⟨-, rfl, rfl, rfl, rfl⟩ := pif_go hA
        exact ⟨⟨hI.1, hI.2.1, hI.2.2.1, ok_tl (ok_tl (ok_tl hI.2.2.2))⟩, vmExt.rf⟩
    · exact (vmNo_go hA).elim
  case bastore =>
    delta vmAct at hA
    dsimp only at hA
    split at hA
    · rename_i x j o2 r
      cases hb : vmIs w o2 21 with
      | true =>
        rw [hb] at hA
        obtain ⟨-, rfl, rfl, rfl, rfl⟩ := pif_go hA
        have h2 := hI.2.2.2
        refine ⟨⟨hI.1, hI.2.1, hI.2.2.1, ok_tl (ok_tl (ok_tl h2))⟩, Nat.le_refl _, Nat.le_refl _, rfl, ?_⟩
        funext z
        show (if 1000 = o2 ∧ z = _ then _ else _) = _
        rw [if_neg]
        intro h
        have h : (1000 : Nat) = o2 := h.1
        have := (vmIs_iff hb).1
        have := hI.1
        omega
      | false =>
        rw [hb] at hA
        dsimp only [cond_false] at hA
        clear hb
        cases hb : vmIs w o2 22 with
        | true =>
          rw [hb] at hA
          obtain ⟨-, rfl, rfl, rfl, rfl⟩ := pif_go hA
          have h2 := hI.2.2.2
          refine ⟨⟨hI.1, hI.2.1, hI.2.2.1, ok_tl (ok_tl (ok_tl h2))⟩, Nat.le_refl _, Nat.le_refl _, rfl, ?_⟩
          funext z
          show (if 1000 = o2 ∧ z = _ then _ else _) = _
          rw [if_neg]
          intro h
          have h : (1000 : Nat) = o2 := h.1
          have := (vmIs_iff hb).1
          have := hI.1
          omega
        | false => rw [hb] at hA; exact (vmNo_go hA).elim
    · exact (vmNo_go hA).elim
  case arraylength =>
    delta vmAct at hA
    dsimp only at hA
    split at hA
    · obtain ⟨-, rfl, rfl, rfl, rfl⟩ := bif_go hA
      exact inv_st hI (hI.2.2.1) (ok_cons (okv_int _ _) (ok_tl (hI.2.2.2)))
    · exact (vmNo_go hA).elim
  case newarray ty =>
    delta vmAct at hA
    dsimp only at hA
    split at hA
    · rename_i n r kind x2 hty
      obtain ⟨hn, rfl, rfl, rfl, rfl⟩ := pif_go hA
      obtain ⟨h1, h2⟩ := inv_new hI kind n.toNatClampNeg hn.2
      exact ⟨⟨h1.1, h1.2.1, h1.2.2.1, ok_cons (ok_hd h1.2.2.2) (ok_tl (ok_tl h1.2.2.2))⟩, h2⟩
    · exact (vmNo_go hA).elim
  case new j =>
    delta vmAct at hA
    dsimp only at hA
    split at hA
    · rename_i ci x2 hty
      obtain ⟨hn, rfl, rfl, rfl, rfl⟩ := pif_go hA
      exact inv_new hI ci (cF ci) hn
    · exact (vmNo_go hA).elim
  case invokevirtual j =>
    delta vmAct at hA
    dsimp only at hA
    exact inv_invoke hI hA
  case invokespecial j =>
    delta vmAct at hA
    dsimp only at hA
    exact inv_invoke hI hA
  case invokestatic j =>
    delta vmAct at hA
    dsimp only at hA
    exact inv_invoke hI hA
  case ireturn =>
    delta vmAct at hA
    dsimp only at hA
    split at hA
    · exact (vmGo_ret hA.symm).elim
    · split at hA
      · exact (vmGo_ret hA.symm).elim
      · exact (vmNo_go hA).elim
    · exact (vmNo_go hA).elim
  case lreturn =>
    delta vmAct at hA
    dsimp only at hA
    split at hA
    · exact (vmGo_ret hA.symm).elim
    · exact (vmNo_go hA).elim
  case return_ =>
    delta vmAct at hA
    dsimp only at hA
    split at hA
    · exact (vmGo_ret hA.symm).elim
    · exact (vmNo_go hA).elim
  all_goals exact (vmNo_go hA).elim
theorem bif_call {b : Bool} {X : vmR} {x : Nat × List Value × List Value} (h : (bif b then X else vmNo) = .inr (.inl x)) : b = true ∧ X = .inr (.inl x) := by
  cases b with
  | false => exact (vmNo_call h).elim
  | true => exact ⟨rfl, h⟩
theorem call_args {w : vmW} {k' : Nat} {inst : Bool} {st : List Value} {k2 : Nat} {as rest : List Value} (h : vmCall w k' inst st = .inr (.inl (k2, as, rest))) : k2 = k' ∧ st = as.reverse ++ rest ∧ as.length = mArgs k' + (bif inst then 1 else 0) ∧ vmCat rest ≤ 8 ∧ (lg_sl as).length ≤ mL k' ∧ (inst = true → ∃ o r, as = .ref o :: r ∧ vmIs w o (mC k') = true) := by
  unfold vmCall at h
  cases h1 : Nat.ble (mArgs k' + (bif inst then 1 else 0)) st.length with
  | false => rw [h1] at h; exact (vmNo_call h).elim
  | true =>
    rw [h1] at h
    have hlen := Nat.le_of_ble_eq_true h1
    dsimp only [cond_true] at h
    generalize hn : mArgs k' + (bif inst then 1 else 0) = n at h hlen ⊢
    · obtain ⟨hb, h⟩ := bif_call h
      injection h with h
      injection h with h
      injection h with e1 h
      injection h with e2 e3
      rw [Bool.and_eq_true, Bool.and_eq_true] at hb
      subst e1; subst e2; subst e3
      refine ⟨rfl, by rw [List.reverse_reverse, List.take_append_drop], by rw [List.length_reverse, List.length_take]; omega, Nat.le_of_ble_eq_true hb.1.1, Nat.le_of_ble_eq_true hb.1.2, fun hi => ?_⟩
      have h3 := hb.2
      rw [hi] at h3
      dsimp only [cond_true] at h3
      split at h3
      · rename_i o r hq
        exact ⟨o, r, hq, h3⟩
      · cases h3
/-- which call an invoke instruction makes -/
theorem invoke_call {pc : Nat} {lo : vmL} {w : vmW} {r : Option (Nat × Nat × List Nat)} {st : List Value} {x : Nat × List Value × List Value} (h : vmInvoke pc lo w r st = .inr (.inl x)) : ∃ kd k' hs, r = some (kd, k', hs) ∧ ((kd = 0 ∧ vmCall w k' false st = .inr (.inl x)) ∨ (kd = 1 ∧ vmCall w k' false st = .inr (.inl x)) ∨ (kd = 2 ∧ vmCall w k' true st = .inr (.inl x)) ∨ (kd = 3 ∧ vmCall w k' true st = .inr (.inl x)) ∨ (kd = 4 ∧ vmCall w k' true st = .inr (.inl x)) ∨ (kd = 5 ∧ vmCall w k' true st = .inr (.inl x))) := by
  unfold vmInvoke at h
  split at h
  · exact (vmNo_call h).elim
  · rename_i kd k' hs
    refine ⟨kd, k', hs, rfl, ?_⟩
    split at h
    · exact Or.inl ⟨rfl, h⟩
    · exact Or.inr (Or.inl ⟨rfl, h⟩)
    · exact Or.inr (Or.inr (Or.inl ⟨rfl, h⟩))
    · exact Or.inr (Or.inr (Or.inr (Or.inl ⟨rfl, h⟩)))
    · exact Or.inr (Or.inr (Or.inr (Or.inr (Or.inl ⟨rfl, h⟩))))
    · exact Or.inr (Or.inr (Or.inr (Or.inr (Or.inr ⟨rfl, h⟩))))
    all_goals (exfalso; revert h; (repeat' split) <;> (intro h; first | exact vmNo_call h | exact vmGo_call h | exact vmGo_call (bif_call h).2 | exact vmNo_call (bif_call h).2))
