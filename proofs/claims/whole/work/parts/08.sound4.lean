/-! SOUNDNESS, 4: the context of a method, and instructions that touch objects -/
def tysA (kA : Nat → ClassId) : List (ClassId × FieldType) := [(kA 20, .int), (kA 21, .byte), (kA 22, .boolean), (kA 23, .long)]
def vmTyOk (t : FieldType) : Bool := match t with
  | .int => true
  | .boolean => true
  | .long => true
  | .object _ => true
  | .array _ => true
  | _ => false
/-- all that is taken from the data is so: proved by computation, in parts of its own -/
def DataOk : Prop :=
  ((∀ c j, ckF c j = true) ∧ (∀ c j, ckM c j = true) ∧ (∀ c j, ckI c j = true) ∧ (∀ c j, ckJ c j = true) ∧ (∀ c j, ckN c j = true)) ∧
  ((∀ c, c < 14 → ckW c = true) ∧ (∀ k, k < 406 → ckK k = true) ∧ (∀ k, k < 407 → ckK2 k = true) ∧ (∀ k pc, ckD k pc = true)) ∧
  ((∀ c, c < 14 → vwCl[c]? = some (cN c, cT c, cF c)) ∧ (∀ c, c < 14 → ∀ a, a < cF c → ∀ b, b < cF c → a ≠ b → (cT c a).2.1 ≠ (cT c b).2.1) ∧ (∀ c, c < 14 → ∀ f, f < cF c → vmTyOk (cTy c f) = true) ∧ (∀ ty kd ft, vmAt ty = some (kd, ft) → Cond.arrayClass (newarray.typeOf ty) ∈ TB))
theorem ckF_of (T : DataOk) {c j ci f h : Nat} (hr : rF c j = some (ci, f, h)) : Cond.fieldLink (cN c) j (cN ci) (cT ci f).2.1 (cT ci f).2.2.1 ∈ TB ∧ (cT ci f).1 = cN ci ∧ f < cF ci ∧ ci < 14 := by
  have h1 := T.1.1 c j
  unfold ckF at h1
  rw [hr] at h1
  dsimp only at h1
  rw [Bool.and_eq_true, Bool.and_eq_true, Bool.and_eq_true] at h1
  exact ⟨ckAt_TB h1.1, of_decide_eq_true h1.2.1, Nat.le_of_ble_eq_true h1.2.2.1, Nat.le_of_ble_eq_true h1.2.2.2⟩
theorem ckW_of (T : DataOk) {c f : Nat} (hc : c < 14) (hf : f < cF c) : u_lay (cN c) (cT c) f ∈ TB ∧ parseFieldDescriptor (cT c f).2.2.1 = some (cTy c f) := by
  have h1 := T.2.1.1 c hc
  unfold ckW at h1
  have h2 := List.all_eq_true.mp h1 f (List.mem_range.mpr hf)
  rw [Bool.and_eq_true] at h2
  exact ⟨ckAt_TB h2.1, of_decide_eq_true h2.2⟩
theorem uws_in (T : DataOk) {c : Nat} (hc : c < 14) : ∀ w ∈ u_ws (cN c) (cT c) (cF c), w ∈ TB := by
  intro w hw
  unfold u_ws at hw
  obtain ⟨f, hf, rfl⟩ := List.mem_map.mp hw
  exact (ckW_of T hc (List.mem_range.mp hf)).1
theorem ckD_of (T : DataOk) {k pc len tg : Nat} {i : Instr} {cv : Int32} (h : mI k pc = some (i, len, cv, tg)) : decode (mB k) pc = .ok (i, len) ∧ vmOk k pc i len cv tg = true := by
  have h1 := T.2.1.2.2.2 k pc
  unfold ckD at h1
  rw [h] at h1
  dsimp only at h1
  rw [Bool.and_eq_true] at h1
  exact ⟨of_decide_eq_true h1.1, h1.2⟩
noncomputable def strLen : List Nat := (List.range 7).map (fun i => (sB i).length)
noncomputable def strByt : List (List Int32) := (List.range 7).map sB
def StrX (rx : Nat → Nat) (A : Nat → Prop) (s : State) : Prop := (∃ adV : Nat → Nat, vk_S 7 strLen strByt (fun i => rx (vmBase + i)) adV A s s.heap) ∧ (∀ c j v h, rS c j = some (v, h) → vk_R (cN c) j (sN v) (rx (vmBase + v)) s) ∧ va_Z "java/lang/String" "COMPACT_STRINGS" "Z" (.int 1) A s s.heap ∧ va_Zq "jdk/internal/util/Preconditions" "SIOOBE_FORMATTER" "Ljava/util/function/BiFunction;" A s s.heap
def Cx (p : Program) (s : State) (m : MethodId) (args : Array Value) (meth : Method) (c : Code) (R : Room) (D : va_G) (kA : Nat → ClassId) (rx : Nat → Nat) (A : Nat → Prop) (k : Nat) : Prop :=
  CallFix p m c (mB k) (mL k) s args TB (cN (mC k)) ∧ (∀ a j y h, Cond.methodLinkNest a j y h ∈ lw_tbl → va_Nw (.methodLinkNest a j y h) s) ∧ (mInit k = true → meth.name = "<init>") ∧ va_K D vwCl (tysA kA) s ∧ (mF k ≤ R.frames ∧ mX k ≤ R.locals) ∧ StrX rx A s ∧ (∀ q, s.heap.size ≤ q → A q)
def Hp (A : Nat → Prop) (H0 H : Heap) (locs : List Loc) (D : va_G) (kA : Nat → ClassId) (rx rd : Nat → Nat) (w : vmW) : Prop :=
  va_P D vwCl (pcs kA rd w) H ∧ va_D A (pcs kA rd w) ∧ va_S A H0 H locs ∧ ∀ i, 900 ≤ i → rd i = rx i
def Scr (rx : Nat → Nat) (A : Nat → Prop) (s : State) (w : vmW) (k : Nat) : Prop := k = 406 → va_X (rx 1000) (w.1.2.2.2.1 1000) (w.2.2.2.1 1000) s s.heap ∧ rx 1000 < s.heap.size ∧ ¬ A (rx 1000)
theorem ent_congr (kA : Nat → ClassId) (rd : Nat → Nat) {w w2 : vmW} {q : Nat} (h1 : w2.1.2.1 q = w.1.2.1 q) (h2 : w2.1.2.2.2.1 q = w.1.2.2.2.1 q) (h3 : ∀ ci g, vmFv w2 ci q g = vmFv w ci q g) (h4 : w2.2.2.2.1 q = w.2.2.2.1 q) (h5 : w2.2.2.2.2 q = w.2.2.2.2 q) : ent kA rd w2 q = ent kA rd w q := by
  unfold ent
  rw [h1, h2, h4, h5]
  simp only [h3]
theorem pcs_put (kA : Nat → ClassId) (rd : Nat → Nat) {w w2 : vmW} {o ci f : Nat} {v : Value} (ho : o < w.1.1) (hkd : w.1.2.1 o = ci) (hci : ci < 14) (hn : w2.1.1 = w.1.1) (hk2 : w2.1.2.1 = w.1.2.1) (hother : ∀ q, q ≠ o → ent kA rd w2 q = ent kA rd w q) (hsame : ∀ g, g ≠ f → vmFv w2 ci o g = vmFv w ci o g) (hnew : vmFv w2 ci o f = v) :
    (pcs kA rd w).set o (rd o, .inr (ci, ((List.range (cF ci)).map (fun g => trv rd (vmFv w ci o g))).set f (trv rd v))) = pcs kA rd w2 := by
  apply pcs_set kA rd hn ho ?_ hother
  rw [ent_obj kA rd (by rw [hk2]; exact hkd) hci]
  congr 2
  apply List.ext_getElem?
  intro g
  rw [List.getElem?_set, List.length_map, List.length_range]
  by_cases hg : g < cF ci
  · rw [List.getElem?_map, List.getElem?_range hg, List.getElem?_map, List.getElem?_range hg]
    by_cases hfg : f = g
    · subst hfg
      rw [if_pos rfl, if_pos hg]
      show some (trv rd (vmFv w2 ci o f)) = _
      rw [hnew]
    · rw [if_neg hfg]
      show some (trv rd (vmFv w2 ci o g)) = some (trv rd (vmFv w ci o g))
      rw [hsame g (fun h => hfg h.symm)]
  · rw [List.getElem?_eq_none (by rw [List.length_map, List.length_range]; omega)]
    by_cases hfg : f = g
    · rw [if_pos hfg, if_neg (by omega)]
    · rw [if_neg hfg, List.getElem?_eq_none (by rw [List.length_map, List.length_range]; omega)]
theorem put_facts (kA : Nat → ClassId) (rd : Nat → Nat) {w w2 : vmW} {o ci f : Nat} {v : Value} (h : vmPut w ci o f v = some w2) (ho : o < w.1.1) (hkd : w.1.2.1 o = ci) (hci : ci < 14) : narrow (cTy ci f) (trv rd v) = trv rd v ∧ fits (cTy ci f) (trv rd v) = true ∧ (pcs kA rd w).set o (rd o, .inr (ci, ((List.range (cF ci)).map (fun g => trv rd (vmFv w ci o g))).set f (trv rd v))) = pcs kA rd w2 ∧ w2.1.1 = w.1.1 ∧ w2.1.2.2.2.2 = w.1.2.2.2.2 := by
  unfold vmPut at h
  split at h
  · rename_i x hty
    cases h
    refine ⟨by rw [hty]; rfl, by rw [hty]; rfl, pcs_put kA rd ho hkd hci rfl rfl (fun q hq => ent_congr kA rd rfl rfl (fun c2 g => ?_) rfl rfl) (fun g hg => ?_) ?_, rfl, rfl⟩
    · unfold vmFv up2; simp only [hq, false_and, if_false]
    · unfold vmFv up2; simp only [hg, and_false, if_false]
    · unfold vmFv up2; rw [hty]; simp only [and_self, if_true]
  · rename_i x hty
    split at h
    · rename_i hx
      cases h
      refine ⟨by rw [hty]; rcases hx with rfl | rfl <;> rfl, by rw [hty]; rcases hx with rfl | rfl <;> rfl, pcs_put kA rd ho hkd hci rfl rfl (fun q hq => ent_congr kA rd rfl rfl (fun c2 g => ?_) rfl rfl) (fun g hg => ?_) ?_, rfl, rfl⟩
      · unfold vmFv up2; simp only [hq, false_and, if_false]
      · unfold vmFv up2; simp only [hg, and_false, if_false]
      · unfold vmFv up2; rw [hty]; simp only [and_self, if_true]
    · cases h
  · rename_i x hty
    cases h
    refine ⟨by rw [hty]; rfl, by rw [hty]; rfl, pcs_put kA rd ho hkd hci rfl rfl (fun q hq => ent_congr kA rd rfl rfl (fun c2 g => ?_) rfl rfl) (fun g hg => ?_) ?_, rfl, rfl⟩
    · unfold vmFv up2; simp only [hq, false_and, if_false]
    · unfold vmFv up2; simp only [hg, and_false, if_false]
    · unfold vmFv up2; rw [hty]; simp only [and_self, if_true]
  · rename_i C x hty
    cases h
    refine ⟨by rw [hty]; rfl, by rw [hty]; rfl, pcs_put kA rd ho hkd hci rfl rfl (fun q hq => ent_congr kA rd rfl rfl (fun c2 g => ?_) rfl rfl) (fun g hg => ?_) ?_, rfl, rfl⟩
    · unfold vmFv up2; simp only [hq, false_and, if_false]
    · unfold vmFv up2; simp only [hg, and_false, if_false]
    · unfold vmFv up2; rw [hty]; simp only [and_self, if_true]
  · rename_i C x hty
    cases h
    refine ⟨by rw [hty]; rfl, by rw [hty]; rfl, pcs_put kA rd ho hkd hci rfl rfl (fun q hq => ent_congr kA rd rfl rfl (fun c2 g => ?_) rfl rfl) (fun g hg => ?_) ?_, rfl, rfl⟩
    · unfold vmFv up2; simp only [hq, false_and, if_false]
    · unfold vmFv up2; simp only [hg, and_false, if_false]
    · unfold vmFv up2; rw [hty]; simp only [and_self, if_true]
  · cases h
theorem pcs_ints (kA : Nat → ClassId) (rd : Nat → Nat) {w : vmW} {o kd j : Nat} {x : Int32} (ho : o < w.1.1) (hkd : w.1.2.1 o = kd) (h1 : ¬ kd < 14) (h2 : kd ≠ 23) :
    (pcs kA rd w).set o (rd o, .inl (kA kd, w.1.2.2.2.1 o, .inl (upd (w.2.2.2.1 o) j x))) = pcs kA rd (w.1, (w.2.1, w.2.2.1, up2 w.2.2.2.1 o j x, w.2.2.2.2)) := by
  refine pcs_set kA rd (w' := (w.1, (w.2.1, w.2.2.1, up2 w.2.2.2.1 o j x, w.2.2.2.2))) rfl ho ?_ (fun q hq => ent_congr kA rd (w := w) rfl rfl (fun _ _ => rfl) ?_ rfl)
  · rw [ent_int kA rd (w := (w.1, (w.2.1, w.2.2.1, up2 w.2.2.2.1 o j x, w.2.2.2.2))) hkd h1 h2]
    congr 4
    funext z
    show (if o = o ∧ z = j then x else _) = if z = j then x else _
    simp only [true_and]
  · funext z
    show (if q = o ∧ z = j then x else _) = _
    simp only [hq, false_and, if_false]
theorem pcs_longs (kA : Nat → ClassId) (rd : Nat → Nat) {w : vmW} {o j : Nat} {x : Int64} (ho : o < w.1.1) (hkd : w.1.2.1 o = 23) :
    (pcs kA rd w).set o (rd o, .inl (kA 23, w.1.2.2.2.1 o, .inr (.inl (vp_updL (w.2.2.2.2 o) j x)))) = pcs kA rd (w.1, (w.2.1, w.2.2.1, w.2.2.2.1, up2 w.2.2.2.2 o j x)) := by
  refine pcs_set kA rd (w' := (w.1, (w.2.1, w.2.2.1, w.2.2.2.1, up2 w.2.2.2.2 o j x))) rfl ho ?_ (fun q hq => ent_congr kA rd (w := w) rfl rfl (fun _ _ => rfl) rfl ?_)
  · rw [ent_long kA rd (w := (w.1, (w.2.1, w.2.2.1, w.2.2.2.1, up2 w.2.2.2.2 o j x))) hkd]
    congr 5
    funext z
    show (if o = o ∧ z = j then x else _) = if z = j then x else _
    simp only [true_and]
  · funext z
    show (if q = o ∧ z = j then x else _) = _
    simp only [hq, false_and, if_false]
/-- a new object stands behind the others -/
theorem new_facts (T : DataOk) (kA : Nat → ClassId) (rd : Nat → Nat) {w : vmW} {kd n q : Nat} {e : va_E} (hr : ∀ o f i, w.1.2.2.1 o f = i + 1 → okr w i) (h9 : w.1.1 < 900) (he : ent kA (up1 rd w.1.1 q) (vmNew w kd n) w.1.1 = e) : pcs kA rd w ++ [(q, e)] = pcs kA (up1 rd w.1.1 q) (vmNew w kd n) ∧ ∀ i, okr w i → up1 rd w.1.1 q i = rd i := by
  have hrd : ∀ i, okr w i → up1 rd w.1.1 q i = rd i := fun i hi => by
    unfold up1
    rw [if_neg]
    intro h
    rcases hi with hi | hi <;> omega
  refine ⟨pcs_push kA rd (up1 rd w.1.1 q) rfl ?_ (fun o ho => hrd o (Or.inl ho)) he (fun o ho => ?_), hrd⟩
  · unfold up1
    rw [if_pos rfl]
  · have hne : o ≠ w.1.1 := Nat.ne_of_lt ho
    have hfv : ∀ ci g, vmFv (vmNew w kd n) ci o g = vmFv w ci o g := fun ci g => by
      unfold vmFv vmNew upz
      simp only [hne, if_false]
    unfold ent
    have e1 : (vmNew w kd n).1.2.1 o = w.1.2.1 o := by
      show up1 w.1.2.1 w.1.1 kd o = _
      unfold up1
      rw [if_neg hne]
    have e2 : (vmNew w kd n).1.2.2.2.1 o = w.1.2.2.2.1 o := by
      show up1 w.1.2.2.2.1 w.1.1 n o = _
      unfold up1
      rw [if_neg hne]
    have e3 : (vmNew w kd n).2.2.2.1 o = w.2.2.2.1 o := by
      funext z
      show upz w.2.2.2.1 w.1.1 0 o z = _
      unfold upz
      rw [if_neg hne]
    have e4 : (vmNew w kd n).2.2.2.2 o = w.2.2.2.2 o := by
      funext z
      show upz w.2.2.2.2 w.1.1 0 o z = _
      unfold upz
      rw [if_neg hne]
    rw [e1, e2, e3, e4]
    simp only [hfv]
    have hmap : ∀ ci, (List.range (cF ci)).map (fun f => trv (up1 rd w.1.1 q) (vmFv w ci o f)) = (List.range (cF ci)).map (fun f => trv rd (vmFv w ci o f)) := fun ci => List.map_congr_left fun f _ => trv_ok (fv_ok hr) hrd
    rw [hmap]
