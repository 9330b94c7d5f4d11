/-! SOUNDNESS, 7: contracts out of runs -/
theorem run_inv : ∀ (n : Nat) {k pc : Nat} {lo : vmL} {st : List Value} {w : vmW} {rv : Option Value} {wf : vmW}, vmRun n k pc lo st w = some (rv, wf) → vmInv w lo st → vmInv wf [] [] ∧ vmExt w wf ∧ rvOk rv := by
  intro n
  induction n with
  | zero => intro k pc lo st w rv wf h; simp [vmRun] at h
  | succ n ih =>
    intro k pc lo st w rv wf h hI
    unfold vmRun at h
    cases hi : mI k pc with
    | none => rw [hi] at h; cases h
    | some q =>
      obtain ⟨i, len, cv, tg⟩ := q
      rw [hi] at h
      dsimp only at h
      cases hA : vmAct k i len cv tg pc lo st w with
      | inl v =>
        rw [hA] at h
        cases h
        refine ⟨⟨hI.1, hI.2.1, (fun _ h => absurd h List.not_mem_nil), (fun _ h => absurd h List.not_mem_nil)⟩, vmExt.rf, ?_⟩
        rcases act_ret hA with ⟨-, -, h, -⟩ | ⟨-, -, x, -, h⟩ | ⟨-, x, -, h, -⟩
        · exact Or.inl h
        · exact Or.inr (Or.inr ⟨x, h⟩)
        · exact Or.inr (Or.inl ⟨x, h⟩)
      | inr z =>
        rw [hA] at h
        cases z with
        | inl c =>
          obtain ⟨k2, as, rest⟩ := c
          dsimp only at h
          cases hC : vmRun n k2 0 (lv_args 0 as) [] w with
          | none => rw [hC] at h; cases h
          | some y =>
            obtain ⟨rv2, w2⟩ := y
            rw [hC] at h
            dsimp only at h
            obtain ⟨j, -, hv⟩ := act_call hA
            obtain ⟨kd, k', hs, -, hk⟩ := invoke_call hv
            have hst : st = as.reverse ++ rest := by
              rcases hk with ⟨-, hk⟩ | ⟨-, hk⟩ | ⟨-, hk⟩ | ⟨-, hk⟩ | ⟨-, hk⟩ | ⟨-, hk⟩ <;> exact (call_args hk).2.1
            have has : ∀ v ∈ as, okv w v := fun v hv => hI.2.2.2 v (by rw [hst]; exact List.mem_append_left _ (List.mem_reverse.mpr hv))
            have hre : ∀ v ∈ rest, okv w v := fun v hv => hI.2.2.2 v (by rw [hst]; exact List.mem_append_right _ hv)
            obtain ⟨h1, h2, h3⟩ := ih hC ⟨hI.1, hI.2.1, args_ok as 0 has, (fun _ h => absurd h List.not_mem_nil)⟩
            have hI2 : vmInv w2 lo (rv2.toList ++ rest) := ⟨h1.1, h1.2.1, fun q hq => okv_ext h2.1 (hI.2.2.1 q hq), fun v hv => by
              rcases List.mem_append.mp hv with hv | hv
              · rcases h3 with rfl | ⟨x, rfl⟩ | ⟨x, rfl⟩
                · cases hv
                · rw [List.mem_singleton.mp hv]; exact okv_int _ _
                · rw [List.mem_singleton.mp hv]; exact okv_long _ _
              · exact okv_ext h2.1 (hre v hv)⟩
            obtain ⟨h4, h5, h6⟩ := ih h hI2
            exact ⟨h4, h2.tr h5, h6⟩
        | inr c =>
          cases c with
          | none => cases h
          | some y =>
            obtain ⟨pc', lo', st', w'⟩ := y
            dsimp only at h
            obtain ⟨h1, h2⟩ := act_inv hI (pc' := pc') (lo' := lo') (w' := w') (st' := st') hA
            obtain ⟨h4, h5, h6⟩ := ih h h1
            exact ⟨h4, h2.tr h5, h6⟩
theorem StrX.pass {rx : Nat → Nat} {A B : Nat → Prop} {s U : State} {H : Heap} {locs : List Loc} (h : StrX rx A s) (hS : va_S A s.heap H locs) (hU : U.heap = H) (hW : s.WarmedH U.vm) (hAB : ∀ q, B q → A q) : StrX rx B U := by
  obtain ⟨⟨adV, h1⟩, h2, h3, h4⟩ := h
  have hq : ∀ a : Nat, a < s.heap.size → ¬ A a → H[a]? = s.heap[a]? := hS.2.1
  refine ⟨⟨adV, ?_⟩, fun c j v z hz => (h2 c j v z hz).warm hW, ?_, ?_⟩
  · rw [hU]; exact ((h1.kept hq).narrow hAB).moved hW.alike
  · rw [hU]; exact ((h3.kept hq).narrow hAB).moved hW.alike
  · rw [hU]; exact ((h4.kept hq).narrow hAB).moved hW.alike
theorem StrX.same {rx : Nat → Nat} {A : Nat → Prop} {U V : State} (hh : V.heap = U.heap) (hv : V.vm = U.vm) (h : StrX rx A U) : StrX rx A V := by
  obtain ⟨⟨adV, h1⟩, h2, h3, h4⟩ := h
  have ha : U.vm.Alike V.vm := by rw [hv]; exact Vm.Alike.refl U.vm
  refine ⟨⟨adV, ?_⟩, fun c j v z hz => (h2 c j v z hz).same hv, ?_, ?_⟩
  · rw [hh]; exact h1.moved ha
  · rw [hh]; exact h3.moved ha
  · rw [hh]; exact h4.moved ha
def PreU (D : va_G) (kA : Nat → ClassId) (rx rd : Nat → Nat) (w : vmW) (sz : Nat) (U : State) : Prop :=
  U.heap.size = sz ∧ va_P D vwCl (pcs kA rd w) U.heap ∧ va_K D vwCl (tysA kA) U ∧ va_D (fun _ => True) (pcs kA rd w) ∧ (∀ a j y h, Cond.methodLinkNest a j y h ∈ lw_tbl → va_Nw (.methodLinkNest a j y h) U) ∧ StrX rx (va_A (pcs kA rd w) sz) U
def PostU (D : va_G) (kA : Nat → ClassId) (rd : Nat → Nat) (w wf : vmW) (sz : Nat) (u : Nat → Nat) (t : State) : Prop :=
  (∀ i, okr w i → u i = rd i) ∧ va_P D vwCl (pcs kA u wf) t.heap ∧ va_D (va_A (pcs kA rd w) sz) (pcs kA u wf)
def CtrQ (D : va_G) (kA : Nat → ClassId) (rd : Nat → Nat) (w wf : vmW) (sz : Nat) (rv : Option Value) : Array Value → State → Outcome → State → Prop := match rv with
  | none => va_Qv (fun _ : Nat → Nat => True) (PostU D kA rd w wf sz) (va_A (pcs kA rd w) sz)
  | some (.int x) => va_Qi (fun r (_ : Nat → Nat) => r = x) (PostU D kA rd w wf sz) (va_A (pcs kA rd w) sz)
  | some (.long x) => va_Ql (fun r (_ : Nat → Nat) => r = x) (PostU D kA rd w wf sz) (va_A (pcs kA rd w) sz)
  | _ => fun _ _ _ _ => False
noncomputable def wsM (k : Nat) : List Cond := .code (mN k) (mB k) (mL k) (mR k) :: TB
noncomputable def rmM (k : Nat) (w wf : vmW) : Room := { frames := mF k, cells := wf.1.1 - w.1.1, slots := wf.1.2.2.2.2 - w.1.2.2.2.2, locals := mX k }
def Ctr (l : Launch) (n : Nat) : Prop := ∀ (D : va_G) (kA : Nat → ClassId) (rx rd : Nat → Nat) (k : Nat) (as : List Value) (w : vmW) (rv : Option Value) (wf : vmW) (sz : Nat), k < 406 → vmRun n k 0 (lv_args 0 as) [] w = some (rv, wf) → vmInv w (lv_args 0 as) [] → (lg_sl as).length ≤ mL k → (∀ i, 900 ≤ i → rd i = rx i) →
  Met l (mN k) (wsM k) (rmM k w wf) (va_Pc (as.map (trv rd)) (PreU D kA rx rd w sz)) (CtrQ D kA rd w wf sz rv) (wf.1.1 - w.1.1) (wf.1.2.2.2.2 - w.1.2.2.2.2) (va_A (pcs kA rd w) sz)
def Body1 (l : Launch) (n : Nat) : Prop := ∀ (p : Program) (e : Env) (R : Room) (s : State) (m : MethodId) (args : Array Value) (below : List Frame) (meth : Method) (c : Code) (A : Nat → Prop) (D : va_G) (kA : Nat → ClassId) (rx : Nat → Nat) (Q : State → Prop) (mc ms k : Nat) (w0 : vmW) (rd0 : Nat → Nat) (rv : Option Value) (wf : vmW),
  Cx p s m args meth c R D kA rx A k → mc ≤ R.cells → ms ≤ R.slots →
  (∀ (pc len tg : Nat) (cv : Int32) (i : Instr) (lo : vmL) (st : List Value) (ls : Array Slot) (H : Heap) (locs : List Loc) (rd : Nat → Nat), mI k pc = some (i, len, cv, tg) → vmAct k i len cv tg pc lo st wf = .inl rv → Hp A s.heap H locs D kA rx rd wf → (∀ i, okr w0 i → rd i = rd0 i) → W p l e R s m args below meth c H locs mc ms Q (F0 m pc ls (trS rd st))) →
  ∀ (pc : Nat) (lo : vmL) (st : List Value) (w : vmW) (ls : Array Slot) (rd : Nat → Nat) (H : Heap) (locs : List Loc) (cells slots : Nat), vmRun n k pc lo st w = some (rv, wf) → Hp A s.heap H locs D kA rx rd w → Scr rx A s w k → vmInv w lo st → lv_has ls (mL k) (trL rd lo) → cells + wf.1.1 = mc + w.1.1 → slots + wf.1.2.2.2.2 = ms + w.1.2.2.2.2 → (∀ i, okr w0 i → rd i = rd0 i) → w0.1.1 ≤ w.1.1 →
  W p l e R s m args below meth c H locs cells slots Q (F0 m pc ls (trS rd st))
theorem ckK_of (T : DataOk) {k : Nat} (hk : k < 406) : Cond.code (mN k) (mB k) (mL k) (mR k) ∈ TB ∧ (mInit k = true → mR k = none) := by
  have h1 := T.2.1.2.1 k hk
  unfold ckK at h1
  rw [Bool.and_eq_true] at h1
  exact ⟨ckAt_TB h1.1, of_decide_eq_true h1.2⟩
theorem ckK2_of (T : DataOk) {k : Nat} (hk : k < 407) : (mN k).cls = cN (mC k) ∧ Jvm.plainName (mN k).cls = true ∧ ((mN k).cls ≠ "java/lang/invoke/MethodHandle" ∧ (mN k).cls ≠ "java/lang/invoke/VarHandle" ∧ (parseMethodDescriptor (mN k).desc).map (fun d => d.parameters.length) = some (mArgs k)) ∧ (mInit k = true ↔ (mN k).name = "<init>") := by
  have h1 := T.2.1.2.2.1 k hk
  unfold ckK2 at h1
  rw [Bool.and_eq_true, Bool.and_eq_true, Bool.and_eq_true] at h1
  exact ⟨of_decide_eq_true h1.1, h1.2.1, of_decide_eq_true h1.2.2.1, of_decide_eq_true h1.2.2.2⟩
theorem wsM_good (T : DataOk) {k : Nat} (hk : k < 406) : GoodIn TB (wsM k) := by
  intro w hw
  rcases List.mem_cons.mp hw with rfl | hw
  · exact ⟨(ckK_of T hk).1, good_of_word (TB_good (ckK_of T hk).1)⟩
  · exact ⟨hw, good_of_word (TB_good hw)⟩
set_option maxRecDepth 100000 in
set_option maxHeartbeats 4000000 in
theorem ctr_of_body (T : DataOk) (l : Launch) (n : Nat) (hB : Body1 l n) : Ctr l n := by
  intro D kA rx rd k as w rv wf sz hk hrun hI hlen hrx
  obtain ⟨k1, k2, k3, k4⟩ := ckK2_of T (Nat.lt_trans hk (by decide))
  obtain ⟨hI2, hE, hrv⟩ := run_inv n hrun hI
  refine Met.ofW (cc := mB k) (maxL := mL k) (ret := mR k) k2 rfl ?_
  intro p e s m args below meth c s₁ B hml hv
  obtain ⟨rfl, hsz, hP, hK, hD0, hN, hX⟩ := hv
  have hx := B.exec
  have hb := B.bytes
  have hr := B.returns
  have hts : ∀ w ∈ wsM k, w.before (as.map (trv rd)).toArray s = true := atoms_spec (ws := wsM k) B.pre
  have hown : s.vm.findClass (cN (mC k)) = some m.cls := by rw [← k1]; exact findClass_of_methodNamed B.named
  have hlocks := B.notSynchronized
  have hin : mInit k = true → meth.name = "<init>" := fun h => ((name_of_methodNamed B.named B.method).1).trans (k4.mp h)
  subst hsz
  have hD := hD0.self (sz := s.heap.size)
  have hA : ∀ q : Nat, s.heap.size ≤ q → va_A (pcs kA rd w) s.heap.size q := fun q h => Or.inr h
  have hl := lv_entry (as.map (trv rd)) (n := mL k) (by rw [lg_sl_tr]; exact hlen)
  rw [lg_entry_eq]
  generalize (lg_sl (as.map (trv rd)) ++ List.replicate (mL k - (lg_sl (as.map (trv rd))).length) Slot.unset).toArray = ls at hl ⊢
  rw [lv_args_tr] at hl
  refine hB p e _ s m _ below meth c (va_A (pcs kA rd w) s.heap.size) D kA rx _ (wf.1.1 - w.1.1) (wf.1.2.2.2.2 - w.1.2.2.2.2) k w rd rv wf ⟨⟨hx, hb, hml, hown, fun w h => hts w (List.mem_cons_of_mem _ h)⟩, hN, hin, hK, ⟨Nat.le_refl _, Nat.le_refl _⟩, hX, hA⟩ (Nat.le_refl _) (Nat.le_refl _) ?_ 0 (lv_args 0 as) [] w ls rd s.heap [] 0 0 hrun ⟨hP, hD, va_S.rf, hrx⟩ (fun h => absurd h (Nat.ne_of_lt hk)) hI hl (by have := hE.1; omega) (by have := hE.2.1; omega) (fun _ _ => rfl) (Nat.le_refl _)
  intro pc len tg cv i lo st ls H locs rd2 hi hA2 hH hrd
  obtain ⟨hd, hok⟩ := ckD_of T hi
  obtain ⟨hP2, hD2, hS2, hrx2⟩ := hH
  rcases act_ret hA2 with ⟨rfl, rfl, rfl, hm⟩ | ⟨rfl, hm, x, rfl, rfl⟩ | ⟨rfl, x, rfl, rfl, hm⟩
  · obtain rfl : len = 1 := Nat.eq_of_beq_eq_true hok
    exact W.vret hx hb (hr.trans hm) (fun t ht hW => ⟨⟨rd2, rfl, trivial, hrd, by rw [ht]; exact hP2, hD2⟩, hS2.F ht⟩) hS2.2.2 hd hlocks
  · obtain rfl : len = 1 := Nat.eq_of_beq_eq_true hok
    exact W.lret hx hb (hr.trans hm) (fun t ht hW => ⟨⟨x, rd2, rfl, rfl, hrd, by rw [ht]; exact hP2, hD2⟩, hS2.F ht⟩) hS2.2.2 hd hlocks
  · obtain rfl : len = 1 := Nat.eq_of_beq_eq_true hok
    rcases hm with hm | ⟨hm, hx01⟩
    · exact W.iret hx hb (hr.trans hm) (fun t ht hW => ⟨⟨x, rd2, rfl, rfl, hrd, by rw [ht]; exact hP2, hD2⟩, hS2.F ht⟩) hS2.2.2 hd hlocks
    · exact W.zret (ty := .boolean) hx hb (hr.trans hm) (by rcases hx01 with rfl | rfl <;> rfl) (fun t ht hW => ⟨⟨x, rd2, rfl, rfl, hrd, by rw [ht]; exact hP2, hD2⟩, hS2.F ht⟩) hS2.2.2 hd hlocks
