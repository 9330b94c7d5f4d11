/-! SOUNDNESS, 8: the induction over runs -/
def StrAll (l : Launch) : Prop := ∀ (p : Program) (e : Env) (R : Room) (s : State) (m : MethodId) (args : Array Value) (below : List Frame) (meth : Method) (c : Code) (rx : Nat → Nat) (k : Nat), StrStep p l e R s m args below meth c rx k
theorem PreU.same {D : va_G} {kA : Nat → ClassId} {rx rd : Nat → Nat} {w : vmW} {sz : Nat} {U V : State} (hh : V.heap = U.heap) (hv : V.vm = U.vm) (h : PreU D kA rx rd w sz U) : PreU D kA rx rd w sz V := by
  obtain ⟨h1, h2, h3, h4, h5, h6⟩ := h
  exact ⟨by rw [hh]; exact h1, by rw [hh]; exact h2, va_K.moved (by rw [hv]; exact Vm.Alike.refl U.vm) h3, h4, fun a j y h hm => (h5 a j y h hm).same rfl hv.symm, h6.same hh hv⟩
theorem free_all {A : Nat → Prop} {ws : va_W} {H0 H : Heap} {locs : List Loc} (hD : va_D A ws) (hS : va_S A H0 H locs) (hA : ∀ q, H0.size ≤ q → A q) : ∀ q, va_A ws H.size q → A q := by
  intro q hq
  rcases hq with ⟨k, e, h⟩ | h
  · exact hD.2 k (q, e) h
  · exact hA q (Nat.le_trans hS.1 h)
set_option maxRecDepth 100000 in
set_option maxHeartbeats 8000000 in
theorem body_call (T : DataOk) (l : Launch) (n : Nat) (ih : Body1 l n) {p : Program} {e : Env} {R : Room} {s : State} {m : MethodId} {args : Array Value} {below : List Frame} {meth : Method} {c : Code} {A : Nat → Prop} {D : va_G} {kA : Nat → ClassId} {rx : Nat → Nat} {Q : State → Prop} {mc ms k : Nat} {w0 : vmW} {rd0 : Nat → Nat} {rv : Option Value} {wf : vmW}
    (X : Cx p s m args meth c R D kA rx A k) (hmc : mc ≤ R.cells) (hms : ms ≤ R.slots)
    (hret : ∀ (pc len tg : Nat) (cv : Int32) (i : Instr) (lo : vmL) (st : List Value) (ls : Array Slot) (H : Heap) (locs : List Loc) (rd : Nat → Nat), mI k pc = some (i, len, cv, tg) → vmAct k i len cv tg pc lo st wf = .inl rv → Hp A s.heap H locs D kA rx rd wf → (∀ i, okr w0 i → rd i = rd0 i) → W p l e R s m args below meth c H locs mc ms Q (F0 m pc ls (trS rd st)))
    {pc len tg : Nat} {cv : Int32} {i : Instr} {lo : vmL} {st : List Value} {w : vmW} {ls : Array Slot} {rd : Nat → Nat} {H : Heap} {locs : List Loc} {cells slots : Nat} {k2 : Nat} {as rest : List Value} {rv2 : Option Value} {w2 : vmW}
    (hi : mI k pc = some (i, len, cv, tg)) (hA : vmAct k i len cv tg pc lo st w = .inr (.inl (k2, as, rest))) (hC : vmRun n k2 0 (lv_args 0 as) [] w = some (rv2, w2)) (h : vmRun n k (pc + 3) lo (rv2.toList ++ rest) w2 = some (rv, wf))
    (hH : Hp A s.heap H locs D kA rx rd w) (hSc : Scr rx A s w k) (hI : vmInv w lo st) (hl : lv_has ls (mL k) (trL rd lo)) (hc1 : cells + wf.1.1 = mc + w.1.1) (hc2 : slots + wf.1.2.2.2.2 = ms + w.1.2.2.2.2) (hrd : ∀ i, okr w0 i → rd i = rd0 i) (hw0 : w0.1.1 ≤ w.1.1) :
    W p l e R s m args below meth c H locs cells slots Q (F0 m pc ls (trS rd st)) := by
  obtain ⟨hd, hok⟩ := ckD_of T hi
  obtain ⟨S, hN, hin, hK, hR, hX, hnew⟩ := id X
  obtain ⟨hx, hb0, hml, hown, hts⟩ := id S
  obtain ⟨hP, hDs, hS, hrx⟩ := id hH
  obtain ⟨j, hj, hv⟩ := act_call hA
  obtain ⟨kd, k', hs, hr, hk⟩ := invoke_call hv
  have hM := T.1.2.1 (mC k) j
  unfold ckM at hM
  rw [hr] at hM
  obtain ⟨inst, hca⟩ : ∃ inst, vmCall w k' inst st = .inr (.inl (k2, as, rest)) := by
    rcases hk with ⟨-, hk⟩ | ⟨-, hk⟩ | ⟨-, hk⟩ | ⟨-, hk⟩ | ⟨-, hk⟩ | ⟨-, hk⟩ <;> exact ⟨_, hk⟩
  obtain ⟨rfl, hst, -, hcat, hlen, -⟩ := call_args hca
  have hk' : k2 < 406 := by
    rcases hk with ⟨rfl, -⟩ | ⟨rfl, -⟩ | ⟨rfl, -⟩ | ⟨rfl, -⟩ | ⟨rfl, -⟩ | ⟨rfl, -⟩
    · exact Nat.le_of_ble_eq_true (Bool.and_eq_true_iff.mp hM).1
    · exact Nat.le_of_ble_eq_true (Bool.and_eq_true_iff.mp hM).1
    · exact Nat.le_of_ble_eq_true (Bool.and_eq_true_iff.mp (Bool.and_eq_true_iff.mp hM).1).1
    · exact Nat.le_of_ble_eq_true (Bool.and_eq_true_iff.mp (Bool.and_eq_true_iff.mp hM).1).1
    · exact Nat.le_of_ble_eq_true (Bool.and_eq_true_iff.mp (Bool.and_eq_true_iff.mp hM).1).1
    · exact Nat.le_of_ble_eq_true (Bool.and_eq_true_iff.mp (Bool.and_eq_true_iff.mp hM).1).1
  have hkd : kd ≤ 5 := by
    rcases hk with ⟨rfl, -⟩ | ⟨rfl, -⟩ | ⟨rfl, -⟩ | ⟨rfl, -⟩ | ⟨rfl, -⟩ | ⟨rfl, -⟩ <;> decide
  have hfit : len = 3 ∧ (∃ cl, vmKd kd = cl ∧ ((i = .invokestatic j ∧ cl = 0) ∨ (i = .invokevirtual j ∧ cl = 1) ∨ (i = .invokespecial j ∧ cl = 2))) ∧ mF k2 + 1 ≤ mF k ∧ 8 + (mL k2 + 11) + mX k2 ≤ mX k := by
    have key : ∀ cl, (Nat.beq len 3 && vmOk.vmFits k j cl) = true → len = 3 ∧ vmKd kd = cl ∧ mF k2 + 1 ≤ mF k ∧ 8 + (mL k2 + 11) + mX k2 ≤ mX k := by
      intro cl hz
      obtain ⟨z1, z2⟩ := Bool.and_eq_true_iff.mp hz
      unfold vmOk.vmFits at z2
      rw [hr] at z2
      obtain ⟨z3, z4⟩ := Bool.and_eq_true_iff.mp z2
      have z5 : Nat.ble kd 5 = true := Nat.ble_eq_true_of_le hkd
      rw [z5] at z4
      obtain ⟨z6, z7⟩ := Bool.and_eq_true_iff.mp z4
      exact ⟨Nat.eq_of_beq_eq_true z1, Nat.eq_of_beq_eq_true z3, Nat.le_of_ble_eq_true z6, Nat.le_of_ble_eq_true z7⟩
    rcases hj with rfl | rfl | rfl
    · obtain ⟨a1, a2, a3, a4⟩ := key 1 hok
      exact ⟨a1, ⟨1, a2, Or.inr (Or.inl ⟨rfl, rfl⟩)⟩, a3, a4⟩
    · obtain ⟨a1, a2, a3, a4⟩ := key 2 hok
      exact ⟨a1, ⟨2, a2, Or.inr (Or.inr ⟨rfl, rfl⟩)⟩, a3, a4⟩
    · obtain ⟨a1, a2, a3, a4⟩ := key 0 hok
      exact ⟨a1, ⟨0, a2, Or.inl ⟨rfl, rfl⟩⟩, a3, a4⟩
  obtain ⟨rfl, ⟨cl, hcl, hjj⟩, hf1, hf2⟩ := hfit
  have has : ∀ v ∈ as, okv w v := fun v hv => hI.2.2.2 v (by rw [hst]; exact List.mem_append_left _ (List.mem_reverse.mpr hv))
  have hre : ∀ v ∈ rest, okv w v := fun v hv => hI.2.2.2 v (by rw [hst]; exact List.mem_append_right _ hv)
  have hIa : vmInv w (lv_args 0 as) [] := ⟨hI.1, hI.2.1, args_ok as 0 has, (fun _ h => absurd h List.not_mem_nil)⟩
  obtain ⟨hI1, hE1, hrv2⟩ := run_inv n hC hIa
  have hI2 : vmInv w2 lo (rv2.toList ++ rest) := ⟨hI1.1, hI1.2.1, fun q hq => okv_ext hE1.1 (hI.2.2.1 q hq), fun v hv => by
    rcases List.mem_append.mp hv with hv | hv
    · rcases hrv2 with rfl | ⟨x, rfl⟩ | ⟨x, rfl⟩
      · cases hv
      · rw [List.mem_singleton.mp hv]; exact okv_int _ _
      · rw [List.mem_singleton.mp hv]; exact okv_long _ _
    · exact okv_ext hE1.1 (hre v hv)⟩
  obtain ⟨-, hE2, -⟩ := run_inv n h hI2
  have C := ctr_of_body T l n ih D kA rx rd k2 as w rv2 w2 H.size hk' hC hIa hlen hrx
  have hfree := free_all hDs hS hnew
  have e1 := hE1.1
  have e2 := hE1.2.1
  have e3 := hE2.1
  have e4 := hE2.2.1
  have after : ∀ (u : Nat → Nat) (t : State) (H1 : Heap) (locs1 : List Loc), t.heap = H1 → PostU D kA rd w w2 H.size u t → va_S A s.heap H1 locs1 → W p l e R s m args below meth c H1 locs1 (cells + (w2.1.1 - w.1.1)) (slots + (w2.1.2.2.2.2 - w.1.2.2.2.2)) Q (F0 m (pc + 3) ls (trS rd (rv2.toList ++ rest))) := by
    intro u t H1 locs1 ht hpost hS1
    obtain ⟨p1, p2, p3⟩ := hpost
    have hok2 : ∀ v ∈ rv2.toList ++ rest, okv w v := fun v hv => by
      rcases List.mem_append.mp hv with hv | hv
      · rcases hrv2 with rfl | ⟨x, rfl⟩ | ⟨x, rfl⟩
        · cases hv
        · rw [List.mem_singleton.mp hv]; exact okv_int _ _
        · rw [List.mem_singleton.mp hv]; exact okv_long _ _
      · exact hre v hv
    have z := ih p e R s m args below meth c A D kA rx Q mc ms k w0 rd0 rv wf X hmc hms hret (pc + 3) lo (rv2.toList ++ rest) w2 ls u H1 locs1 (cells + (w2.1.1 - w.1.1)) (slots + (w2.1.2.2.2.2 - w.1.2.2.2.2)) h
      ⟨by rw [← ht]; exact p2, p3.weaken (fun _ _ _ hq => hfree _ hq), hS1, fun i hi => (p1 i (Or.inr hi)).trans (hrx i hi)⟩ (fun hk6 => by rw [hE1.2.2.1, hE1.2.2.2]; exact hSc hk6) hI2 (by rw [trL_ok hI.2.2.1 p1]; exact hl) (by omega) (by omega) (fun i hi => (p1 i (okr_ext hw0 hi)).trans (hrd i hi)) (Nat.le_trans hw0 e1)
    rw [trS_ok hok2 p1] at z
    exact z
  have hgo : ∀ a : Array Value, va_Run p l e R s m args below meth c H locs cells slots (w2.1.1 - w.1.1) (w2.1.2.2.2.2 - w.1.2.2.2.2) (F0 m pc ls (trS rd st)) (trS rd rest) (CtrQ D kA rd w w2 H.size rv2 a) (va_A (pcs kA rd w) H.size) → W p l e R s m args below meth c H locs cells slots Q (F0 m pc ls (trS rd st)) := by
    intro a hrun
    rcases hrv2 with rfl | ⟨x, rfl⟩ | ⟨x, rfl⟩
    · exact va_callv (a := a) hrun hS (fun q _ hq => hfree q hq) hfree (fun u t H1 locs1 ht _ _ hB _ _ hS1 => after u t H1 locs1 ht hB hS1)
    · exact va_calli (a := a) hrun hS (fun q _ hq => hfree q hq) hfree (fun r u t H1 locs1 ht _ hr2 hB _ _ hS1 => by
        subst hr2
        exact after u t H1 locs1 ht hB hS1)
    · exact va_calll (a := a) hrun hS (fun q _ hq => hfree q hq) hfree (fun r u t H1 locs1 ht _ hr2 hB _ _ hS1 => by
        subst hr2
        exact after u t H1 locs1 ht hB hS1)
  obtain ⟨y1, y2, y3, y4⟩ := ckK2_of T (Nat.lt_trans hk' (by decide) : k2 < 407)
  have hroom : (rmM k2 w w2).frames + 1 ≤ R.frames ∧ 8 + (mL k2 + 11) + (rmM k2 w w2).locals ≤ R.locals := ⟨Nat.le_trans hf1 hR.1, Nat.le_trans hf2 hR.2⟩
  have hfc : cells + (w2.1.1 - w.1.1) ≤ R.cells ∧ slots + (w2.1.2.2.2.2 - w.1.2.2.2.2) ≤ R.slots := ⟨by omega, by omega⟩
  have hbl : FrameBlind (va_Pc (as.map (trv rd)) (PreU D kA rx rd w H.size)) := fun a U g mk q => ⟨q.1, q.2.same rfl rfl⟩
  have hpre : ∀ U : State, U.heap = H → s.WarmedH U.vm → va_Pc (as.map (trv rd)) (PreU D kA rx rd w H.size) (as.map (trv rd)).toArray U := fun U hU hW =>
    ⟨rfl, by rw [hU], by rw [hU]; exact hP, va_K.moved hW.alike hK, hDs.weaken (fun _ _ _ _ => trivial), fun a j y h hm => (hN a j y h hm).warmM hW, hX.pass hS hU hW hfree⟩
  have hcat2 : 2 * (F0 m pc ls (trS rd st)).monitorRoom + ((trS rd rest).map fun v => v.category).sum ≤ 8 := lv_room (by rw [cat_tr]; exact hcat)
  have hstk : trS rd st = (as.map (trv rd)).reverse ++ trS rd rest := by
    rw [hst]
    unfold trS
    rw [List.map_append, List.map_reverse]
  have hgood := wsM_good T hk'
  rcases hk with ⟨rfl, hk⟩ | ⟨rfl, hk⟩ | ⟨rfl, hk⟩ | ⟨rfl, hk⟩ | ⟨rfl, hk⟩ | ⟨rfl, hk⟩
  · -- static
    obtain ⟨-, -, hn, -, -, -⟩ := call_args hk
    have hji : i = .invokestatic j := by
      rcases hjj with ⟨h, -⟩ | ⟨-, h⟩ | ⟨-, h⟩
      · exact h
      · subst h; cases hcl
      · subst h; cases hcl
    subst hji
    obtain ⟨-, q1⟩ := Bool.and_eq_true_iff.mp hM
    obtain ⟨q1, q2⟩ := Bool.and_eq_true_iff.mp q1
    obtain ⟨q2, q3⟩ := Bool.and_eq_true_iff.mp q2
    exact hgo _ (va_runS (n := mArgs k2) (As := as.map (trv rd)) (rest := trS rd rest) S C ⟨callB_of (mArgs k2) hts hgood rfl rfl rfl (hts _ (ckAt_TB q3)) (hts _ (ckAt_TB q1)) y3 hroom, hts _ (ckAt_TB q2)⟩ ⟨hbl, hpre⟩ rfl (by rw [List.length_map]; exact hn) hl.1 hstk hcat2 hd hfc)
  · -- static, a nest mate
    obtain ⟨-, -, hn, -, -, -⟩ := call_args hk
    have hji : i = .invokestatic j := by
      rcases hjj with ⟨h, -⟩ | ⟨-, h⟩ | ⟨-, h⟩
      · exact h
      · subst h; cases hcl
      · subst h; cases hcl
    subst hji
    obtain ⟨-, q1⟩ := Bool.and_eq_true_iff.mp hM
    obtain ⟨q1, q2⟩ := Bool.and_eq_true_iff.mp q1
    obtain ⟨q2, q3⟩ := Bool.and_eq_true_iff.mp q2
    exact hgo _ (va_runSN (n := mArgs k2) (As := as.map (trv rd)) (rest := trS rd rest) S C ⟨va_cnB (mArgs k2) hts hgood rfl rfl rfl (hN _ _ _ _ (List.mem_of_getElem? (of_decide_eq_true q1))) (hts _ (ckAt_TB q3)) y3 hroom, hts _ (ckAt_TB q2), trivial⟩ ⟨hbl, hpre⟩ rfl (by rw [List.length_map]; exact hn) hl.1 hstk hcat2 hd hfc)
  · -- virtual
    obtain ⟨-, -, hn, -, -, hob⟩ := call_args hk
    obtain ⟨o, r, rfl, ho⟩ := hob rfl
    obtain ⟨ho1, ho2⟩ := vmIs_iff ho
    have hji : i = .invokevirtual j := by
      rcases hjj with ⟨-, h⟩ | ⟨h, -⟩ | ⟨-, h⟩
      · subst h; cases hcl
      · exact h
      · subst h; cases hcl
    subst hji
    obtain ⟨q0, q1⟩ := Bool.and_eq_true_iff.mp hM
    obtain ⟨q1, q2⟩ := Bool.and_eq_true_iff.mp q1
    obtain ⟨q2, q3⟩ := Bool.and_eq_true_iff.mp q2
    obtain ⟨q3, q4⟩ := Bool.and_eq_true_iff.mp q3
    have hci : mC k2 < 14 := Nat.le_of_ble_eq_true (Bool.and_eq_true_iff.mp q0).2
    have hrecv : ∃ cellB : Cell, H[rd o]? = some cellB ∧ cellB.vm.isStatics = false ∧ s.vm.findClass (mN k2).cls = some cellB.cls := by
      rw [y1]
      exact va_recv (ci := mC k2) (q0 := o) hK hP (T.2.2.1 _ hci) (by rw [pcs_at kA rd ho1, ent_obj kA rd ho2 hci])
    exact hgo _ (va_runV (C := (mN k2).cls) (b := rd o) (n := mArgs k2) (As := r.map (trv rd)) (rest := trS rd rest) S C ⟨callB_of (mArgs k2) hts hgood rfl rfl rfl (hts _ (ckAt_TB q4)) (hts _ (ckAt_TB q1)) y3 hroom, hts _ (ckAt_TB q2), hts _ (ckAt_TB q3)⟩ ⟨hbl, hrecv, hpre⟩ rfl (by rw [List.length_map]; exact Nat.succ.inj hn) hl.1 (by rw [show (F0 m pc ls (trS rd st)).stack = trS rd st from rfl, hstk, List.map_cons, List.reverse_cons, List.append_assoc]; rfl) hcat2 hd hfc)
  · -- virtual, a nest mate
    obtain ⟨-, -, hn, -, -, hob⟩ := call_args hk
    obtain ⟨o, r, rfl, ho⟩ := hob rfl
    obtain ⟨ho1, ho2⟩ := vmIs_iff ho
    have hji : i = .invokevirtual j := by
      rcases hjj with ⟨-, h⟩ | ⟨h, -⟩ | ⟨-, h⟩
      · subst h; cases hcl
      · exact h
      · subst h; cases hcl
    subst hji
    obtain ⟨q0, q1⟩ := Bool.and_eq_true_iff.mp hM
    obtain ⟨q1, q2⟩ := Bool.and_eq_true_iff.mp q1
    obtain ⟨q2, q3⟩ := Bool.and_eq_true_iff.mp q2
    obtain ⟨q3, q4⟩ := Bool.and_eq_true_iff.mp q3
    have hci : mC k2 < 14 := Nat.le_of_ble_eq_true (Bool.and_eq_true_iff.mp q0).2
    have hrecv : ∃ cellB : Cell, H[rd o]? = some cellB ∧ cellB.vm.isStatics = false ∧ s.vm.findClass (mN k2).cls = some cellB.cls := by
      rw [y1]
      exact va_recv (ci := mC k2) (q0 := o) hK hP (T.2.2.1 _ hci) (by rw [pcs_at kA rd ho1, ent_obj kA rd ho2 hci])
    exact hgo _ (va_runVN (C := (mN k2).cls) (b := rd o) (n := mArgs k2) (As := r.map (trv rd)) (rest := trS rd rest) S C ⟨va_cnB (mArgs k2) hts hgood rfl rfl rfl (hN _ _ _ _ (List.mem_of_getElem? (of_decide_eq_true q1))) (hts _ (ckAt_TB q4)) y3 hroom, hts _ (ckAt_TB q2), hts _ (ckAt_TB q3)⟩ ⟨hbl, hrecv, hpre⟩ rfl (by rw [List.length_map]; exact Nat.succ.inj hn) hl.1 (by rw [show (F0 m pc ls (trS rd st)).stack = trS rd st from rfl, hstk, List.map_cons, List.reverse_cons, List.append_assoc]; rfl) hcat2 hd hfc)
  · -- a constructor
    obtain ⟨-, -, hn, -, -, hob⟩ := call_args hk
    obtain ⟨o, r, rfl, ho⟩ := hob rfl
    have hji : i = .invokespecial j := by
      rcases hjj with ⟨-, h⟩ | ⟨-, h⟩ | ⟨h, -⟩
      · subst h; cases hcl
      · subst h; cases hcl
      · exact h
    subst hji
    obtain ⟨q0, q1⟩ := Bool.and_eq_true_iff.mp hM
    obtain ⟨-, q0⟩ := Bool.and_eq_true_iff.mp q0
    obtain ⟨q1, q2⟩ := Bool.and_eq_true_iff.mp q1
    obtain ⟨q2, q3⟩ := Bool.and_eq_true_iff.mp q2
    have hnone := (ckK_of T hk').2 q0
    exact hgo _ (va_runI (b := rd o) (n := mArgs k2) (As := r.map (trv rd)) (rest := trS rd rest) S C ⟨callB_of (mArgs k2) hts hgood (by rw [← hnone]; rfl) rfl rfl (hts _ (ckAt_TB q3)) (hts _ (ckAt_TB q1)) y3 hroom, y4.mp q0, hts _ (ckAt_TB q2)⟩ ⟨hbl, hpre⟩ rfl (by rw [List.length_map]; exact Nat.succ.inj hn) hl.1 (by rw [show (F0 m pc ls (trS rd st)).stack = trS rd st from rfl, hstk, List.map_cons, List.reverse_cons, List.append_assoc]; rfl) hcat2 hd hfc)
  · -- a constructor, a nest mate
    obtain ⟨-, -, hn, -, -, hob⟩ := call_args hk
    obtain ⟨o, r, rfl, ho⟩ := hob rfl
    have hji : i = .invokespecial j := by
      rcases hjj with ⟨-, h⟩ | ⟨-, h⟩ | ⟨h, -⟩
      · subst h; cases hcl
      · subst h; cases hcl
      · exact h
    subst hji
    obtain ⟨q0, q1⟩ := Bool.and_eq_true_iff.mp hM
    obtain ⟨-, q0⟩ := Bool.and_eq_true_iff.mp q0
    obtain ⟨q1, q2⟩ := Bool.and_eq_true_iff.mp q1
    obtain ⟨q2, q3⟩ := Bool.and_eq_true_iff.mp q2
    have hnone := (ckK_of T hk').2 q0
    exact hgo _ (va_runIN (b := rd o) (n := mArgs k2) (As := r.map (trv rd)) (rest := trS rd rest) S C ⟨va_cnB (mArgs k2) hts hgood (by rw [← hnone]; rfl) rfl rfl (hN _ _ _ _ (List.mem_of_getElem? (of_decide_eq_true q1))) (hts _ (ckAt_TB q3)) y3 hroom, y4.mp q0, hts _ (ckAt_TB q2)⟩ ⟨hbl, hpre⟩ rfl (by rw [List.length_map]; exact Nat.succ.inj hn) hl.1 (by rw [show (F0 m pc ls (trS rd st)).stack = trS rd st from rfl, hstk, List.map_cons, List.reverse_cons, List.append_assoc]; rfl) hcat2 hd hfc)
theorem body_all (T : DataOk) (l : Launch) (hStr : StrAll l) : ∀ n, Body1 l n := by
  intro n
  induction n with
  | zero =>
    intro p e R s m args below meth c A D kA rx Q mc ms k w0 rd0 rv wf X hmc hms hret pc lo st w ls rd H locs cells slots h
    simp [vmRun] at h
  | succ n ih =>
    intro p e R s m args below meth c A D kA rx Q mc ms k w0 rd0 rv wf X hmc hms hret pc lo st w ls rd H locs cells slots h hH hSc hI hl hc1 hc2 hrd hw0
    unfold vmRun at h
    cases hi : mI k pc with
    | none => rw [hi] at h; cases h
    | some q =>
      obtain ⟨i, len, cv, tg⟩ := q
      rw [hi] at h
      dsimp only at h
      cases hA : vmAct k i len cv tg pc lo st w with
      | inl v =>
        rw [hA] at h
        cases h
        obtain rfl : cells = mc := by omega
        obtain rfl : slots = ms := by omega
        exact hret pc len tg cv i lo st ls H locs rd hi hA hH hrd
      | inr z =>
        rw [hA] at h
        cases z with
        | inl cc =>
          obtain ⟨k2, as, rest⟩ := cc
          dsimp only at h
          cases hC : vmRun n k2 0 (lv_args 0 as) [] w with
          | none => rw [hC] at h; cases h
          | some y =>
            obtain ⟨rv2, w2⟩ := y
            rw [hC] at h
            exact body_call T l n ih X hmc hms hret hi hA hC h hH hSc hI hl hc1 hc2 hrd hw0
        | inr cc =>
          cases cc with
          | none => cases h
          | some y =>
            obtain ⟨pc', lo', st', w'⟩ := y
            dsimp only at h
            obtain ⟨hI', hE'⟩ := act_inv hI (pc' := pc') (lo' := lo') (w' := w') (st' := st') hA
            obtain ⟨-, hE2, -⟩ := run_inv n h hI'
            obtain ⟨hd, hok⟩ := ckD_of T hi
            have e1 := hE'.1
            have e2 := hE'.2.1
            have e3 := hE2.1
            have e4 := hE2.2.1
            cases hsim : vmSim i with
            | true =>
              obtain ⟨rfl, hk⟩ := sim_step (l := l) (e := e) (R := R) (s := s) (m := m) (args := args) (below := below) (meth := meth) (H := H) (locs := locs) (cells := cells) (slots := slots) (Q := Q) (rd := rd) (w' := w') X.1.1 X.1.2.1 hd hok hl hA hsim
              exact hk (fun ls' hl' => ih p e R s m args below meth c A D kA rx Q mc ms k w0 rd0 rv wf X hmc hms hret pc' lo' st' w' ls' rd H locs cells slots h hH hSc hI' hl' hc1 hc2 hrd hw0)
            | false =>
              refine heap_step T X (hStr p e R s m args below meth c rx k) hH hSc hI hi hl (w' := w') hA hsim (by omega) (by omega) ?_
              intro H' locs' rd' ls' cells' slots' g1 g2 g3 g4 g5
              exact ih p e R s m args below meth c A D kA rx Q mc ms k w0 rd0 rv wf X hmc hms hret pc' lo' st' w' ls' rd' H' locs' cells' slots' h g4 (fun hk6 => by rw [hE'.2.2.1, hE'.2.2.2]; exact hSc hk6) hI' g5 (by omega) (by omega) (fun i hi => (g3 i (okr_ext hw0 hi)).trans (hrd i hi)) (Nat.le_trans hw0 e1)
