/-! SOUNDNESS, 2: instructions that touch no object -/
def vmSim (i : Instr) : Bool := match i with
  | .iconst _ => true | .bipush _ => true | .sipush _ => true | .lconst _ => true
  | .iload _ => true | .iload_n _ => true | .lload _ => true | .lload_n _ => true | .aload _ => true | .aload_n _ => true
  | .istore _ => true | .istore_n _ => true | .lstore _ => true | .lstore_n _ => true | .astore _ => true | .astore_n _ => true | .iinc _ _ => true
  | .iadd => true | .isub => true | .imul => true | .iand => true | .ior => true | .ixor => true | .ishl => true | .ishr => true | .iushr => true | .idiv => true | .irem => true | .ineg => true
  | .ladd => true | .lmul => true | .land => true | .lor => true | .ldiv => true | .lrem => true | .lshl => true | .lshr => true
  | .i2l => true | .l2i => true | .i2b => true | .i2c => true | .i2s => true | .lcmp => true | .dup => true | .pop => true
  | .ifCond _ _ => true | .if_icmp _ _ => true | .goto _ => true | .tableswitch _ _ _ _ => true | .lookupswitch _ _ => true
  | _ => false
theorem bif_go {b : Bool} {pc pc' : Nat} {lo lo' : vmL} {w w' : vmW} {st st' : List Value} (h : (bif b then vmGo pc lo w st else vmNo) = vmGo pc' lo' w' st') : b = true ∧ pc = pc' ∧ lo = lo' ∧ w = w' ∧ st = st' := by
  cases b with
  | false => exact (vmNo_go h).elim
  | true => exact ⟨rfl, vmGo_inj h⟩
theorem nif_go {P : Prop} [Decidable P] {pc pc' : Nat} {lo lo' : vmL} {w w' : vmW} {st st' : List Value} (h : (if P then vmNo else vmGo pc lo w st) = vmGo pc' lo' w' st') : ¬ P ∧ pc = pc' ∧ lo = lo' ∧ w = w' ∧ st = st' := by
  by_cases hp : P
  · rw [if_pos hp] at h
    exact (vmNo_go h).elim
  · rw [if_neg hp] at h
    exact ⟨hp, vmGo_inj h⟩
theorem pif_go {P : Prop} [Decidable P] {pc pc' : Nat} {lo lo' : vmL} {w w' : vmW} {st st' : List Value} (h : (if P then vmGo pc lo w st else vmNo) = vmGo pc' lo' w' st') : P ∧ pc = pc' ∧ lo = lo' ∧ w = w' ∧ st = st' := by
  by_cases hp : P
  · rw [if_pos hp] at h
    exact ⟨hp, vmGo_inj h⟩
  · rw [if_neg hp] at h
    exact (vmNo_go h).elim
theorem look_in {d x : Int} : ∀ {l : List (Int × Int)} {P : Int → Prop}, P d → (∀ o ∈ l, P o.2) → P (Op.lookupswitch.offset l d x) := by
  intro l
  induction l with
  | nil => intro P hd hl; exact hd
  | cons q l ih =>
    intro P hd hl
    show P (if q.1 = x then q.2 else Op.lookupswitch.offset l d x)
    split
    · exact hl q List.mem_cons_self
    · exact ih hd (fun o ho => hl o (List.mem_cons_of_mem _ ho))
section SND2
variable {p : Program} {l : Launch} {e : Env} {R : Room} {s : State} {m : MethodId} {args : Array Value} {below : List Frame} {meth : Method} {c : Code} {H : Heap} {locs : List Loc} {cells slots : Nat} {Q : State → Prop}
set_option maxRecDepth 100000 in
set_option maxHeartbeats 4000000 in
theorem sim_step {k pc len tg : Nat} {cv : Int32} {i : Instr} {lo : vmL} {st : List Value} {w : vmW} {ls : Array Slot} {rd : Nat → Nat} {pc' : Nat} {lo' : vmL} {w' : vmW} {st' : List Value} (hx : p.tables.exec = Jvm.exec) (hb : c.code = mB k) (hD : decode (mB k) pc = .ok (i, len)) (hok : vmOk k pc i len cv tg = true) (hl : lv_has ls (mL k) (trL rd lo)) (hA : vmAct k i len cv tg pc lo st w = vmGo pc' lo' w' st') (hsim : vmSim i = true) : w' = w ∧ ((∀ ls' : Array Slot, lv_has ls' (mL k) (trL rd lo') → W p l e R s m args below meth c H locs cells slots Q (F0 m pc' ls' (trS rd st'))) → W p l e R s m args below meth c H locs cells slots Q (F0 m pc ls (trS rd st))) := by
  cases i
  all_goals first | (cases hsim; done) | skip
  case iconst n =>
    delta vmAct at hA
    dsimp only at hA
    obtain ⟨rfl, rfl, rfl, rfl⟩ := vmGo_inj hA
    obtain ⟨h1, h2⟩ := Bool.and_eq_true_iff.mp hok
    obtain rfl : len = 1 := Nat.eq_of_beq_eq_true h1
    have h2 := of_decide_eq_true h2
    refine ⟨rfl, fun kk => ?_⟩
    exact lv_iconst hx hb hD h2 (kk ls hl)
  case bipush n =>
    delta vmAct at hA
    dsimp only at hA
    obtain ⟨rfl, rfl, rfl, rfl⟩ := vmGo_inj hA
    obtain ⟨h1, h2⟩ := Bool.and_eq_true_iff.mp hok
    obtain rfl : len = 2 := Nat.eq_of_beq_eq_true h1
    have h2 := of_decide_eq_true h2
    refine ⟨rfl, fun kk => ?_⟩
    exact lv_bipush hx hb hD h2 (kk ls hl)
  case sipush n =>
    delta vmAct at hA
    dsimp only at hA
    obtain ⟨rfl, rfl, rfl, rfl⟩ := vmGo_inj hA
    obtain ⟨h1, h2⟩ := Bool.and_eq_true_iff.mp hok
    obtain rfl : len = 3 := Nat.eq_of_beq_eq_true h1
    have h2 := of_decide_eq_true h2
    refine ⟨rfl, fun kk => ?_⟩
    exact lv_sipush hx hb hD h2 (kk ls hl)
  case lconst n =>
    delta vmAct at hA
    dsimp only at hA
    obtain ⟨rfl, rfl, rfl, rfl⟩ := vmGo_inj hA
    obtain rfl : len = 1 := Nat.eq_of_beq_eq_true hok
    refine ⟨rfl, fun kk => ?_⟩
    exact lv_lconst hx hb hD rfl (kk ls hl)
  case iload n =>
    delta vmAct at hA
    dsimp only at hA
    split at hA
    · rename_i x hg
      obtain ⟨rfl, rfl, rfl, rfl⟩ := vmGo_inj hA
      obtain rfl : len = 2 := Nat.eq_of_beq_eq_true hok
      refine ⟨rfl, fun kk => ?_⟩
      exact lv_iload hx hb hD (lv_get hl hg) (kk ls hl)
    · exact (vmNo_go hA).elim
  case iload_n n =>
    delta vmAct at hA
    dsimp only at hA
    split at hA
    · rename_i x hg
      obtain ⟨rfl, rfl, rfl, rfl⟩ := vmGo_inj hA
      obtain rfl : len = 1 := Nat.eq_of_beq_eq_true hok
      refine ⟨rfl, fun kk => ?_⟩
      exact lv_iload_n hx hb hD rfl (lv_get hl hg) (kk ls hl)
    · exact (vmNo_go hA).elim
  case lload n =>
    delta vmAct at hA
    dsimp only at hA
    split at hA
    · rename_i x hg
      obtain ⟨rfl, rfl, rfl, rfl⟩ := vmGo_inj hA
      obtain rfl : len = 2 := Nat.eq_of_beq_eq_true hok
      refine ⟨rfl, fun kk => ?_⟩
      exact lv_lload hx hb hD (lv_get hl hg) (kk ls hl)
    · exact (vmNo_go hA).elim
  case lload_n n =>
    delta vmAct at hA
    dsimp only at hA
    split at hA
    · rename_i x hg
      obtain ⟨rfl, rfl, rfl, rfl⟩ := vmGo_inj hA
      obtain rfl : len = 1 := Nat.eq_of_beq_eq_true hok
      refine ⟨rfl, fun kk => ?_⟩
      exact lv_lload_n hx hb hD rfl (lv_get hl hg) (kk ls hl)
    · exact (vmNo_go hA).elim
  case aload n =>
    delta vmAct at hA
    dsimp only at hA
    split at hA
    · rename_i x hg
      obtain ⟨rfl, rfl, rfl, rfl⟩ := vmGo_inj hA
      obtain rfl : len = 2 := Nat.eq_of_beq_eq_true hok
      refine ⟨rfl, fun kk => ?_⟩
      exact lv_aload hx hb hD (lv_get hl hg) (kk ls hl)
    · exact (vmNo_go hA).elim
  case aload_n n =>
    delta vmAct at hA
    dsimp only at hA
    split at hA
    · rename_i x hg
      obtain ⟨rfl, rfl, rfl, rfl⟩ := vmGo_inj hA
      obtain rfl : len = 1 := Nat.eq_of_beq_eq_true hok
      refine ⟨rfl, fun kk => ?_⟩
      exact lv_aload_n hx hb hD rfl (lv_get hl hg) (kk ls hl)
    · exact (vmNo_go hA).elim
  case istore n =>
    delta vmAct at hA
    dsimp only at hA
    split at hA
    · obtain ⟨hn, rfl, rfl, rfl, rfl⟩ := bif_go hA
      obtain rfl : len = 2 := Nat.eq_of_beq_eq_true hok
      refine ⟨rfl, fun kk => ?_⟩
      exact lv_istore hx hb hD hl (Nat.le_of_ble_eq_true hn) (tr_set1 (rd := rd) (v := .int _)) (fun ls' h => kk ls' h)
    · exact (vmNo_go hA).elim
  case istore_n n =>
    delta vmAct at hA
    dsimp only at hA
    split at hA
    · obtain ⟨hn, rfl, rfl, rfl, rfl⟩ := bif_go hA
      obtain rfl : len = 1 := Nat.eq_of_beq_eq_true hok
      refine ⟨rfl, fun kk => ?_⟩
      exact lv_istore_n hx hb hD rfl hl (Nat.le_of_ble_eq_true hn) (tr_set1 (rd := rd) (v := .int _)) (fun ls' h => kk ls' h)
    · exact (vmNo_go hA).elim
  case lstore n =>
    delta vmAct at hA
    dsimp only at hA
    split at hA
    · obtain ⟨hn, rfl, rfl, rfl, rfl⟩ := bif_go hA
      obtain rfl : len = 2 := Nat.eq_of_beq_eq_true hok
      refine ⟨rfl, fun kk => ?_⟩
      exact lv_lstore hx hb hD hl (Nat.le_of_ble_eq_true hn) (tr_set2 (rd := rd) (v := .long _)) (fun ls' h => kk ls' h)
    · exact (vmNo_go hA).elim
  case lstore_n n =>
    delta vmAct at hA
    dsimp only at hA
    split at hA
    · obtain ⟨hn, rfl, rfl, rfl, rfl⟩ := bif_go hA
      obtain rfl : len = 1 := Nat.eq_of_beq_eq_true hok
      refine ⟨rfl, fun kk => ?_⟩
      exact lv_lstore_n hx hb hD rfl hl (Nat.le_of_ble_eq_true hn) (tr_set2 (rd := rd) (v := .long _)) (fun ls' h => kk ls' h)
    · exact (vmNo_go hA).elim
  case astore n =>
    delta vmAct at hA
    dsimp only at hA
    split at hA
    · obtain ⟨hn, rfl, rfl, rfl, rfl⟩ := bif_go hA
      obtain rfl : len = 2 := Nat.eq_of_beq_eq_true hok
      refine ⟨rfl, fun kk => ?_⟩
      exact lv_astore hx hb hD hl (Nat.le_of_ble_eq_true hn) (tr_set1 (rd := rd) (v := .ref _)) (fun ls' h => kk ls' h)
    · exact (vmNo_go hA).elim
  case astore_n n =>
    delta vmAct at hA
    dsimp only at hA
    split at hA
    · obtain ⟨hn, rfl, rfl, rfl, rfl⟩ := bif_go hA
      obtain rfl : len = 1 := Nat.eq_of_beq_eq_true hok
      refine ⟨rfl, fun kk => ?_⟩
      exact lv_astore_n hx hb hD rfl hl (Nat.le_of_ble_eq_true hn) (tr_set1 (rd := rd) (v := .ref _)) (fun ls' h => kk ls' h)
    · exact (vmNo_go hA).elim
  case iinc n v =>
    delta vmAct at hA
    dsimp only at hA
    split at hA
    · rename_i x hg
      obtain ⟨hn, rfl, rfl, rfl, rfl⟩ := bif_go hA
      obtain ⟨h1, h2⟩ := Bool.and_eq_true_iff.mp hok
      obtain rfl : len = 3 := Nat.eq_of_beq_eq_true h1
      have h2 := of_decide_eq_true h2
      refine ⟨rfl, fun kk => ?_⟩
      obtain ⟨j, hj⟩ := List.getElem?_of_mem (List.mem_map.mpr ⟨(n, Value.int x), vmGet_mem hg, rfl⟩ : (n, Value.int x) ∈ trL rd lo)
      exact lv_iinc hx hb hD hl hj (by rw [h2]) (Nat.le_of_ble_eq_true hn) (tr_set1 (rd := rd) (v := .int _)) (fun ls' h => kk ls' h)
    · exact (vmNo_go hA).elim
  case iadd =>
    delta vmAct at hA
    dsimp only at hA
    split at hA
    · obtain ⟨rfl, rfl, rfl, rfl⟩ := vmGo_inj hA
      obtain rfl : len = 1 := Nat.eq_of_beq_eq_true hok
      refine ⟨rfl, fun kk => ?_⟩
      exact lv_iadd hx hb hD (kk ls hl)
    · exact (vmNo_go hA).elim
  case isub =>
    delta vmAct at hA
    dsimp only at hA
    split at hA
    · obtain ⟨rfl, rfl, rfl, rfl⟩ := vmGo_inj hA
      obtain rfl : len = 1 := Nat.eq_of_beq_eq_true hok
      refine ⟨rfl, fun kk => ?_⟩
      exact lv_isub hx hb hD (kk ls hl)
    · exact (vmNo_go hA).elim
  case imul =>
    delta vmAct at hA
    dsimp only at hA
    split at hA
    · obtain ⟨rfl, rfl, rfl, rfl⟩ := vmGo_inj hA
      obtain rfl : len = 1 := Nat.eq_of_beq_eq_true hok
      refine ⟨rfl, fun kk => ?_⟩
      exact lv_imul hx hb hD (kk ls hl)
    · exact (vmNo_go hA).elim
  case iand =>
    delta vmAct at hA
    dsimp only at hA
    split at hA
    · obtain ⟨rfl, rfl, rfl, rfl⟩ := vmGo_inj hA
      obtain rfl : len = 1 := Nat.eq_of_beq_eq_true hok
      refine ⟨rfl, fun kk => ?_⟩
      exact lv_iand hx hb hD (kk ls hl)
    · exact (vmNo_go hA).elim
  case ior =>
    delta vmAct at hA
    dsimp only at hA
    split at hA
    · obtain ⟨rfl, rfl, rfl, rfl⟩ := vmGo_inj hA
      obtain rfl : len = 1 := Nat.eq_of_beq_eq_true hok
      refine ⟨rfl, fun kk => ?_⟩
      exact lv_ior hx hb hD (kk ls hl)
    · exact (vmNo_go hA).elim
  case ixor =>
    delta vmAct at hA
    dsimp only at hA
    split at hA
    · obtain ⟨rfl, rfl, rfl, rfl⟩ := vmGo_inj hA
      obtain rfl : len = 1 := Nat.eq_of_beq_eq_true hok
      refine ⟨rfl, fun kk => ?_⟩
      exact lv_ixor hx hb hD (kk ls hl)
    · exact (vmNo_go hA).elim
  case ishl =>
    delta vmAct at hA
    dsimp only at hA
    split at hA
    · obtain ⟨rfl, rfl, rfl, rfl⟩ := vmGo_inj hA
      obtain rfl : len = 1 := Nat.eq_of_beq_eq_true hok
      refine ⟨rfl, fun kk => ?_⟩
      exact lv_ishl hx hb hD (kk ls hl)
    · exact (vmNo_go hA).elim
  case ishr =>
    delta vmAct at hA
    dsimp only at hA
    split at hA
    · obtain ⟨rfl, rfl, rfl, rfl⟩ := vmGo_inj hA
      obtain rfl : len = 1 := Nat.eq_of_beq_eq_true hok
      refine ⟨rfl, fun kk => ?_⟩
      exact lv_ishr hx hb hD (kk ls hl)
    · exact (vmNo_go hA).elim
  case ineg =>
    delta vmAct at hA
    dsimp only at hA
    split at hA
    · obtain ⟨rfl, rfl, rfl, rfl⟩ := vmGo_inj hA
      obtain rfl : len = 1 := Nat.eq_of_beq_eq_true hok
      refine ⟨rfl, fun kk => ?_⟩
      exact lv_ineg hx hb hD (kk ls hl)
    · exact (vmNo_go hA).elim
  case ladd =>
    delta vmAct at hA
    dsimp only at hA
    split at hA
    · obtain ⟨rfl, rfl, rfl, rfl⟩ := vmGo_inj hA
      obtain rfl : len = 1 := Nat.eq_of_beq_eq_true hok
      refine ⟨rfl, fun kk => ?_⟩
      exact lv_ladd hx hb hD (kk ls hl)
    · exact (vmNo_go hA).elim
  case lmul =>
    delta vmAct at hA
    dsimp only at hA
    split at hA
    · obtain ⟨rfl, rfl, rfl, rfl⟩ := vmGo_inj hA
      obtain rfl : len = 1 := Nat.eq_of_beq_eq_true hok
      refine ⟨rfl, fun kk => ?_⟩
      exact lv_lmul hx hb hD (kk ls hl)
    · exact (vmNo_go hA).elim
  case land =>
    delta vmAct at hA
    dsimp only at hA
    split at hA
    · obtain ⟨rfl, rfl, rfl, rfl⟩ := vmGo_inj hA
      obtain rfl : len = 1 := Nat.eq_of_beq_eq_true hok
      refine ⟨rfl, fun kk => ?_⟩
      exact lv_land hx hb hD (kk ls hl)
    · exact (vmNo_go hA).elim
  case lor =>
    delta vmAct at hA
    dsimp only at hA
    split at hA
    · obtain ⟨rfl, rfl, rfl, rfl⟩ := vmGo_inj hA
      obtain rfl : len = 1 := Nat.eq_of_beq_eq_true hok
      refine ⟨rfl, fun kk => ?_⟩
      exact lv_lor hx hb hD (kk ls hl)
    · exact (vmNo_go hA).elim
  case iushr =>
    delta vmAct at hA
    dsimp only at hA
    split at hA
    · obtain ⟨rfl, rfl, rfl, rfl⟩ := vmGo_inj hA
      obtain rfl : len = 1 := Nat.eq_of_beq_eq_true hok
      refine ⟨rfl, fun kk => ?_⟩
      exact lv_iushr hx hb hD rfl (kk ls hl)
    · exact (vmNo_go hA).elim
  case lshl =>
    delta vmAct at hA
    dsimp only at hA
    split at hA
    · obtain ⟨rfl, rfl, rfl, rfl⟩ := vmGo_inj hA
      obtain rfl : len = 1 := Nat.eq_of_beq_eq_true hok
      refine ⟨rfl, fun kk => ?_⟩
      exact lv_lshl hx hb hD rfl (kk ls hl)
    · exact (vmNo_go hA).elim
  case lshr =>
    delta vmAct at hA
    dsimp only at hA
    split at hA
    · obtain ⟨rfl, rfl, rfl, rfl⟩ := vmGo_inj hA
      obtain rfl : len = 1 := Nat.eq_of_beq_eq_true hok
      refine ⟨rfl, fun kk => ?_⟩
      exact lv_lshr hx hb hD rfl (kk ls hl)
    · exact (vmNo_go hA).elim
  case i2l =>
    delta vmAct at hA
    dsimp only at hA
    split at hA
    · obtain ⟨rfl, rfl, rfl, rfl⟩ := vmGo_inj hA
      obtain rfl : len = 1 := Nat.eq_of_beq_eq_true hok
      refine ⟨rfl, fun kk => ?_⟩
      exact lv_i2l hx hb hD rfl (kk ls hl)
    · exact (vmNo_go hA).elim
  case l2i =>
    delta vmAct at hA
    dsimp only at hA
    split at hA
    · obtain ⟨rfl, rfl, rfl, rfl⟩ := vmGo_inj hA
      obtain rfl : len = 1 := Nat.eq_of_beq_eq_true hok
      refine ⟨rfl, fun kk => ?_⟩
      exact lv_l2i hx hb hD rfl (kk ls hl)
    · exact (vmNo_go hA).elim
  case i2b =>
    delta vmAct at hA
    dsimp only at hA
    split at hA
    · obtain ⟨rfl, rfl, rfl, rfl⟩ := vmGo_inj hA
      obtain rfl : len = 1 := Nat.eq_of_beq_eq_true hok
      refine ⟨rfl, fun kk => ?_⟩
      exact lv_i2b hx hb hD rfl (kk ls hl)
    · exact (vmNo_go hA).elim
  case i2c =>
    delta vmAct at hA
    dsimp only at hA
    split at hA
    · obtain ⟨rfl, rfl, rfl, rfl⟩ := vmGo_inj hA
      obtain rfl : len = 1 := Nat.eq_of_beq_eq_true hok
      refine ⟨rfl, fun kk => ?_⟩
      exact lv_i2c hx hb hD rfl (kk ls hl)
    · exact (vmNo_go hA).elim
  case i2s =>
    delta vmAct at hA
    dsimp only at hA
    split at hA
    · obtain ⟨rfl, rfl, rfl, rfl⟩ := vmGo_inj hA
      obtain rfl : len = 1 := Nat.eq_of_beq_eq_true hok
      refine ⟨rfl, fun kk => ?_⟩
      exact lv_i2s hx hb hD rfl (kk ls hl)
    · exact (vmNo_go hA).elim
  case lcmp =>
    delta vmAct at hA
    dsimp only at hA
    split at hA
    · obtain ⟨rfl, rfl, rfl, rfl⟩ := vmGo_inj hA
      obtain rfl : len = 1 := Nat.eq_of_beq_eq_true hok
      refine ⟨rfl, fun kk => ?_⟩
      exact W.lcmp hx hb hD (kk ls hl)
    · exact (vmNo_go hA).elim
  case idiv =>
    delta vmAct at hA
    dsimp only at hA
    split at hA
    · obtain ⟨hne, rfl, rfl, rfl, rfl⟩ := nif_go hA
      obtain rfl : len = 1 := Nat.eq_of_beq_eq_true hok
      refine ⟨rfl, fun kk => ?_⟩
      exact lv_idiv hx hb hD hne (kk ls hl)
    · exact (vmNo_go hA).elim
  case irem =>
    delta vmAct at hA
    dsimp only at hA
    split at hA
    · obtain ⟨hne, rfl, rfl, rfl, rfl⟩ := nif_go hA
      obtain rfl : len = 1 := Nat.eq_of_beq_eq_true hok
      refine ⟨rfl, fun kk => ?_⟩
      exact lv_irem hx hb hD hne (kk ls hl)
    · exact (vmNo_go hA).elim
  case ldiv =>
    delta vmAct at hA
    dsimp only at hA
    split at hA
    · obtain ⟨hne, rfl, rfl, rfl, rfl⟩ := nif_go hA
      obtain rfl : len = 1 := Nat.eq_of_beq_eq_true hok
      refine ⟨rfl, fun kk => ?_⟩
      exact lv_ldiv hx hb hD hne (kk ls hl)
    · exact (vmNo_go hA).elim
  case lrem =>
    delta vmAct at hA
    dsimp only at hA
    split at hA
    · obtain ⟨hne, rfl, rfl, rfl, rfl⟩ := nif_go hA
      obtain rfl : len = 1 := Nat.eq_of_beq_eq_true hok
      refine ⟨rfl, fun kk => ?_⟩
      exact lv_lrem hx hb hD hne (kk ls hl)
    · exact (vmNo_go hA).elim
  case dup =>
    delta vmAct at hA
    dsimp only at hA
    split at hA
    · obtain ⟨hc, rfl, rfl, rfl, rfl⟩ := bif_go hA
      obtain rfl : len = 1 := Nat.eq_of_beq_eq_true hok
      refine ⟨rfl, fun kk => ?_⟩
      exact lv_dup hx hb hD (by rw [trv_cat]; exact Nat.eq_of_beq_eq_true hc) (kk ls hl)
    · exact (vmNo_go hA).elim
  case pop =>
    delta vmAct at hA
    dsimp only at hA
    split at hA
    · obtain ⟨hc, rfl, rfl, rfl, rfl⟩ := bif_go hA
      obtain rfl : len = 1 := Nat.eq_of_beq_eq_true hok
      refine ⟨rfl, fun kk => ?_⟩
      exact lv_pop hx hb hD (by rw [trv_cat]; exact Nat.eq_of_beq_eq_true hc) (kk ls hl)
    · exact (vmNo_go hA).elim
  case ifCond cc off =>
    delta vmAct at hA
    dsimp only at hA
    split at hA
    · rename_i x r
      obtain ⟨rfl, rfl, rfl, rfl⟩ := vmGo_inj hA
      obtain ⟨h1, h2⟩ := Bool.and_eq_true_iff.mp hok
      obtain rfl : len = 3 := Nat.eq_of_beq_eq_true h1
      have h2 := of_decide_eq_true h2
      refine ⟨rfl, fun kk => ?_⟩
      have KT : ∀ b : Bool, vmCmp0 cc x = b → W p l e R s m args below meth c H locs cells slots Q (F0 m (bif b then tg else pc + 3) ls (trS rd r)) := fun b hb2 => hb2 ▸ kk ls hl
      cases cc
      case eq => exact lv_if_eq hx hb hD h2 (fun h => KT true (decide_eq_true h)) (fun h => KT false (decide_eq_false h))
      case ne => exact lv_if_ne hx hb hD h2 (fun h => KT true (decide_eq_true h)) (fun h => KT false (decide_eq_false (fun h' => h' h)))
      case lt => exact lv_if_lt hx hb hD h2 (fun h => KT true (decide_eq_true h)) (fun h => KT false (decide_eq_false h))
      case ge => exact lv_if_ge hx hb hD h2 (fun h => KT true (decide_eq_true h)) (fun h => KT false (decide_eq_false h))
      case gt => exact lv_if_gt hx hb hD h2 (fun h => KT true (decide_eq_true h)) (fun h => KT false (decide_eq_false h))
      case le => exact lv_if_le hx hb hD h2 (fun h => KT true (decide_eq_true h)) (fun h => KT false (decide_eq_false h))
    · exact (vmNo_go hA).elim
  case if_icmp cc off =>
    delta vmAct at hA
    dsimp only at hA
    split at hA
    · rename_i y x r
      obtain ⟨rfl, rfl, rfl, rfl⟩ := vmGo_inj hA
      obtain ⟨h1, h2⟩ := Bool.and_eq_true_iff.mp hok
      obtain rfl : len = 3 := Nat.eq_of_beq_eq_true h1
      have h2 := of_decide_eq_true h2
      refine ⟨rfl, fun kk => ?_⟩
      have KT : ∀ b : Bool, vmCmp cc x y = b → W p l e R s m args below meth c H locs cells slots Q (F0 m (bif b then tg else pc + 3) ls (trS rd r)) := fun b hb2 => hb2 ▸ kk ls hl
      cases cc
      case eq => exact lv_icmp_eq hx hb hD h2 (fun h => KT true (decide_eq_true h)) (fun h => KT false (decide_eq_false h))
      case ne => exact lv_icmp_ne hx hb hD h2 (fun h => KT true (decide_eq_true h)) (fun h => KT false (decide_eq_false (fun h' => h' h)))
      case lt => exact lv_icmp_lt hx hb hD h2 (fun h => KT true (decide_eq_true h)) (fun h => KT false (decide_eq_false h))
      case ge => exact lv_icmp_ge hx hb hD h2 (fun h => KT true (decide_eq_true h)) (fun h => KT false (decide_eq_false h))
      case gt => exact lv_icmp_gt hx hb hD h2 (fun h => KT true (decide_eq_true h)) (fun h => KT false (decide_eq_false h))
      case le => exact lv_icmp_le hx hb hD h2 (fun h => KT true (decide_eq_true h)) (fun h => KT false (decide_eq_false h))
    · exact (vmNo_go hA).elim
  case goto off =>
    delta vmAct at hA
    dsimp only at hA
    obtain ⟨rfl, rfl, rfl, rfl⟩ := vmGo_inj hA
    obtain ⟨h1, h2⟩ := Bool.and_eq_true_iff.mp hok
    obtain rfl : len = 3 := Nat.eq_of_beq_eq_true h1
    have h2 := of_decide_eq_true h2
    refine ⟨rfl, fun kk => ?_⟩
    exact lv_goto hx hb hD h2 (kk ls hl)
  case tableswitch d a b offs =>
    delta vmAct at hA
    dsimp only at hA
    split at hA
    · rename_i x r
      obtain ⟨rfl, rfl, rfl, rfl⟩ := vmGo_inj hA
      obtain ⟨h1, h2⟩ := Bool.and_eq_true_iff.mp hok
      obtain ⟨h3, h4⟩ := Bool.and_eq_true_iff.mp h2
      obtain ⟨h5, h6⟩ := Bool.and_eq_true_iff.mp h4
      have h1 := of_decide_eq_true h1
      have h3 := of_decide_eq_true h3
      have h5 := of_decide_eq_true h5
      refine ⟨rfl, fun kk => ?_⟩
      by_cases hr : x.toInt < a ∨ b < x.toInt
      · have hk := kk ls hl
        unfold vmTab at hk
        rw [if_pos hr] at hk
        exact lv_tableOut hx hb hD hr (Int.toNat_of_nonneg h1).symm hk
      · have hk := kk ls hl
        unfold vmTab at hk
        rw [if_neg hr] at hk
        have hq : (x.toInt - a).toNat < offs.size := by omega
        have ho : offs[(x.toInt - a).toNat]? = some (offs.getD (x.toInt - a).toNat 0) := by rw [Array.getD_eq_getD_getElem?, Array.getElem?_eq_getElem hq]; rfl
        have hm : offs.getD (x.toInt - a).toNat 0 ∈ offs.toList := by rw [← Array.getElem?_toList] at ho; exact List.mem_of_getElem? ho
        have hz := of_decide_eq_true (List.all_eq_true.mp h6 _ hm)
        exact lv_tableIn hx hb hD (fun h => hr (Or.inl h)) (fun h => hr (Or.inr h)) ho (Int.toNat_of_nonneg hz).symm hk
    · exact (vmNo_go hA).elim
  case lookupswitch d ps =>
    delta vmAct at hA
    dsimp only at hA
    split at hA
    · rename_i x r
      obtain ⟨rfl, rfl, rfl, rfl⟩ := vmGo_inj hA
      obtain ⟨h1, h2⟩ := Bool.and_eq_true_iff.mp hok
      obtain ⟨h3, h4⟩ := Bool.and_eq_true_iff.mp h2
      have h1 := of_decide_eq_true h1
      refine ⟨rfl, fun kk => ?_⟩
      have hz : 0 ≤ (pc : Int) + Op.lookupswitch.offset ps.toList d x.toInt := look_in (P := fun o => 0 ≤ (pc : Int) + o) h1 (fun o ho => of_decide_eq_true (List.all_eq_true.mp h4 o ho))
      exact lv_lookup hx hb hD h3 rfl (Int.toNat_of_nonneg hz).symm (kk ls hl)
    · exact (vmNo_go hA).elim
end SND2
