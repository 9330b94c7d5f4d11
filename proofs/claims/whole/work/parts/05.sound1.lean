/-! SOUNDNESS of the machine of our own, 1: the picture of a world in a heap, what an instruction keeps -/
def trv (rd : Nat → Nat) (v : Value) : Value := match v with
  | .ref i => .ref (rd i)
  | v => v
theorem trv_cat (rd : Nat → Nat) (v : Value) : (trv rd v).category = v.category := by cases v <;> rfl
def trL (rd : Nat → Nat) (lo : vmL) : vmL := lo.map (fun q => (q.1, trv rd q.2))
def trS (rd : Nat → Nat) (st : List Value) : List Value := st.map (trv rd)
noncomputable def ent (kA : Nat → ClassId) (rd : Nat → Nat) (w : vmW) (o : Nat) : va_E :=
  if w.1.2.1 o < 14 then .inr (w.1.2.1 o, (List.range (cF (w.1.2.1 o))).map (fun f => trv rd (vmFv w (w.1.2.1 o) o f)))
  else .inl (kA (w.1.2.1 o), w.1.2.2.2.1 o, if w.1.2.1 o = 23 then .inr (.inl (w.2.2.2.2 o)) else .inl (w.2.2.2.1 o))
noncomputable def pcs (kA : Nat → ClassId) (rd : Nat → Nat) (w : vmW) : va_W := (List.range w.1.1).map (fun o => (rd o, ent kA rd w o))
theorem pcs_len (kA : Nat → ClassId) (rd : Nat → Nat) (w : vmW) : (pcs kA rd w).length = w.1.1 := by simp [pcs]
theorem pcs_at (kA : Nat → ClassId) (rd : Nat → Nat) {w : vmW} {o : Nat} (h : o < w.1.1) : (pcs kA rd w)[o]? = some (rd o, ent kA rd w o) := by
  unfold pcs
  rw [List.getElem?_map, List.getElem?_range h]
  rfl
theorem ent_obj (kA : Nat → ClassId) (rd : Nat → Nat) {w : vmW} {o ci : Nat} (h : w.1.2.1 o = ci) (hc : ci < 14) : ent kA rd w o = .inr (ci, (List.range (cF ci)).map (fun f => trv rd (vmFv w ci o f))) := by
  subst h
  unfold ent
  rw [if_pos hc]
theorem ent_int (kA : Nat → ClassId) (rd : Nat → Nat) {w : vmW} {o kd : Nat} (h : w.1.2.1 o = kd) (hc : ¬ kd < 14) (h2 : kd ≠ 23) : ent kA rd w o = .inl (kA kd, w.1.2.2.2.1 o, .inl (w.2.2.2.1 o)) := by
  subst h
  unfold ent
  rw [if_neg hc, if_neg h2]
theorem ent_long (kA : Nat → ClassId) (rd : Nat → Nat) {w : vmW} {o : Nat} (h : w.1.2.1 o = 23) : ent kA rd w o = .inl (kA 23, w.1.2.2.2.1 o, .inr (.inl (w.2.2.2.2 o))) := by
  unfold ent
  rw [h, if_neg (by decide), if_pos rfl]
theorem ent_arr (kA : Nat → ClassId) (rd : Nat → Nat) {w : vmW} {o kd : Nat} (h : w.1.2.1 o = kd) (hc : ¬ kd < 14) : ∃ x : vp_A, ent kA rd w o = .inl (kA kd, x) ∧ x.1 = w.1.2.2.2.1 o := by
  subst h
  unfold ent
  rw [if_neg hc]
  exact ⟨_, rfl, rfl⟩
theorem vmIs_iff {w : vmW} {o kd : Nat} (h : vmIs w o kd = true) : o < w.1.1 ∧ w.1.2.1 o = kd := by
  unfold vmIs at h
  rw [Bool.and_eq_true] at h
  exact ⟨Nat.le_of_ble_eq_true h.1, Nat.eq_of_beq_eq_true h.2⟩
theorem pcs_set (kA : Nat → ClassId) (rd : Nat → Nat) {w w' : vmW} {o : Nat} {e : va_E} (hn : w'.1.1 = w.1.1) (ho : o < w.1.1) (h1 : ent kA rd w' o = e) (h2 : ∀ q, q ≠ o → ent kA rd w' q = ent kA rd w q) : (pcs kA rd w).set o (rd o, e) = pcs kA rd w' := by
  apply List.ext_getElem?
  intro i
  by_cases hi : i < w.1.1
  · rw [pcs_at kA rd (w := w') (by rw [hn]; exact hi), List.getElem?_set]
    by_cases e1 : o = i
    · subst e1
      rw [if_pos rfl, if_pos (by rw [pcs_len]; exact hi), h1]
    · rw [if_neg e1, pcs_at kA rd hi, h2 i (fun h => e1 h.symm)]
  · rw [List.getElem?_eq_none (by rw [List.length_set, pcs_len]; omega), List.getElem?_eq_none (by rw [pcs_len, hn]; omega)]
theorem pcs_push (kA : Nat → ClassId) (rd rd' : Nat → Nat) {w w' : vmW} {q : Nat} {e : va_E} (hn : w'.1.1 = w.1.1 + 1) (hq : rd' w.1.1 = q) (hrd : ∀ o, o < w.1.1 → rd' o = rd o) (h1 : ent kA rd' w' w.1.1 = e) (h2 : ∀ o, o < w.1.1 → ent kA rd' w' o = ent kA rd w o) : pcs kA rd w ++ [(q, e)] = pcs kA rd' w' := by
  unfold pcs
  rw [hn, List.range_succ, List.map_append, List.map_singleton, hq, h1]
  congr 1
  apply List.map_congr_left
  intro o ho
  rw [hrd o (List.mem_range.mp ho), h2 o (List.mem_range.mp ho)]
/-- references that mean something in a world -/
def okr (w : vmW) (i : Nat) : Prop := i < w.1.1 ∨ 900 ≤ i
def okv (w : vmW) (v : Value) : Prop := ∀ i, v = .ref i → okr w i
def vmInv (w : vmW) (lo : vmL) (st : List Value) : Prop := w.1.1 ≤ 900 ∧ (∀ o f i, w.1.2.2.1 o f = i + 1 → okr w i) ∧ (∀ q ∈ lo, okv w q.2) ∧ ∀ v ∈ st, okv w v
theorem trv_ok {rd rd' : Nat → Nat} {w : vmW} {v : Value} (h : okv w v) (hr : ∀ i, okr w i → rd' i = rd i) : trv rd' v = trv rd v := by
  cases v with
  | ref i => show Value.ref (rd' i) = Value.ref (rd i); rw [hr i (h i rfl)]
  | _ => rfl
theorem trS_ok {rd rd' : Nat → Nat} {w : vmW} {st : List Value} (h : ∀ v ∈ st, okv w v) (hr : ∀ i, okr w i → rd' i = rd i) : trS rd' st = trS rd st := List.map_congr_left fun v hv => trv_ok (h v hv) hr
theorem trL_ok {rd rd' : Nat → Nat} {w : vmW} {lo : vmL} (h : ∀ q ∈ lo, okv w q.2) (hr : ∀ i, okr w i → rd' i = rd i) : trL rd' lo = trL rd lo := List.map_congr_left fun q hq => by rw [trv_ok (h q hq) hr]
theorem okv_int (w : vmW) (x : Int32) : okv w (.int x) := fun i h => by cases h
theorem okv_long (w : vmW) (x : Int64) : okv w (.long x) := fun i h => by cases h
theorem okv_null (w : vmW) : okv w .null := fun i h => by cases h
theorem fv_ok {w : vmW} {o f ci : Nat} (h : ∀ o f i, w.1.2.2.1 o f = i + 1 → okr w i) : okv w (vmFv w ci o f) := by
  unfold vmFv
  split
  · exact okv_int w _
  · exact okv_int w _
  · exact okv_long w _
  · split
    · exact okv_null w
    · rename_i i hi
      exact fun j hj => by cases hj; exact h o f i hi
theorem vmGo_inj {pc pc' : Nat} {lo lo' : vmL} {w w' : vmW} {st st' : List Value} (h : vmGo pc lo w st = vmGo pc' lo' w' st') : pc = pc' ∧ lo = lo' ∧ w = w' ∧ st = st' := by
  unfold vmGo at h
  injection h with h
  injection h with h
  injection h with h
  injection h with h1 h
  injection h with h2 h
  injection h with h3 h4
  exact ⟨h1, h2, h4, h3⟩
theorem vmNo_go {pc' : Nat} {lo' : vmL} {w' : vmW} {st' : List Value} (h : vmNo = vmGo pc' lo' w' st') : False := by
  unfold vmNo vmGo at h
  injection h with h
  injection h with h
  cases h
theorem vmNo_call {x : Nat × List Value × List Value} (h : vmNo = .inr (.inl x)) : False := by
  unfold vmNo at h
  injection h with h
  cases h
theorem vmNo_ret {x : Option Value} (h : vmNo = .inl x) : False := by
  unfold vmNo at h
  cases h
theorem vmGo_call {pc' : Nat} {lo' : vmL} {w' : vmW} {st' : List Value} {x : Nat × List Value × List Value} (h : vmGo pc' lo' w' st' = .inr (.inl x)) : False := by
  unfold vmGo at h
  injection h with h
  cases h
theorem vmGo_ret {pc' : Nat} {lo' : vmL} {w' : vmW} {st' : List Value} {x : Option Value} (h : vmGo pc' lo' w' st' = .inl x) : False := by
  unfold vmGo at h
  cases h
theorem vmGet_mem {lo : vmL} {n : Nat} {v : Value} (h : vmGet lo n = some v) : (n, v) ∈ lo := by
  induction lo with
  | nil => cases h
  | cons q lo ih =>
    unfold vmGet at h
    cases hq : Nat.beq q.1 n with
    | true =>
      rw [hq] at h
      have : q.2 = v := by simpa using h
      rw [← this, ← Nat.eq_of_beq_eq_true hq]
      exact List.mem_cons_self
    | false =>
      rw [hq] at h
      exact List.mem_cons_of_mem _ (ih h)
theorem lv_get {rd : Nat → Nat} {lo : vmL} {ls : Array Slot} {nL n : Nat} {v : Value} (hl : lv_has ls nL (trL rd lo)) (h : vmGet lo n = some v) : ls[n]? = some (.val (trv rd v)) :=
  hl.2.2 (n, trv rd v) (List.mem_map.mpr ⟨(n, v), vmGet_mem h, rfl⟩)
theorem tr_filter {rd : Nat → Nat} {lo : vmL} (f : Nat → Nat → Bool) : (trL rd lo).filter (fun q => f q.1 q.2.category) = trL rd (lo.filter (fun q => f q.1 q.2.category)) := by
  unfold trL
  rw [List.filter_map]
  congr 1
  apply List.filter_congr
  intro q _
  show f q.1 (trv rd q.2).category = _
  rw [trv_cat]
theorem tr_set1 {rd : Nat → Nat} {lo : vmL} {i : Nat} {v : Value} : (i, trv rd v) :: (trL rd lo).filter (fun q => !(q.1 == i) && !(q.1 + 1 == i && q.2.category == 2)) = trL rd (vmSet1 lo i v) := by
  unfold vmSet1
  show _ = (i, trv rd v) :: trL rd _
  rw [← tr_filter (fun a b => !(a == i) && !(a + 1 == i && b == 2))]
theorem tr_set2 {rd : Nat → Nat} {lo : vmL} {i : Nat} {v : Value} : (i, trv rd v) :: (trL rd lo).filter (fun q => !(q.1 == i) && (!(q.1 == i + 1) && !(q.1 + 1 == i && q.2.category == 2))) = trL rd (vmSet2 lo i v) := by
  unfold vmSet2
  show _ = (i, trv rd v) :: trL rd _
  rw [← tr_filter (fun a b => !(a == i) && (!(a == i + 1) && !(a + 1 == i && b == 2)))]
theorem set1_ok {w : vmW} {lo : vmL} {i : Nat} {v : Value} (h : ∀ q ∈ lo, okv w q.2) (hv : okv w v) : ∀ q ∈ vmSet1 lo i v, okv w q.2 := by
  intro q hq
  unfold vmSet1 at hq
  rcases List.mem_cons.mp hq with rfl | hq
  · exact hv
  · exact h q (List.mem_filter.mp hq).1
theorem set2_ok {w : vmW} {lo : vmL} {i : Nat} {v : Value} (h : ∀ q ∈ lo, okv w q.2) (hv : okv w v) : ∀ q ∈ vmSet2 lo i v, okv w q.2 := by
  intro q hq
  unfold vmSet2 at hq
  rcases List.mem_cons.mp hq with rfl | hq
  · exact hv
  · exact h q (List.mem_filter.mp hq).1
theorem lv_args_tr (rd : Nat → Nat) (vs : List Value) : ∀ i, lv_args i (vs.map (trv rd)) = trL rd (lv_args i vs) := by
  induction vs with
  | nil => intro i; rfl
  | cons v vs ih =>
    intro i
    show (i, trv rd v) :: lv_args _ (vs.map (trv rd)) = (i, trv rd v) :: trL rd (lv_args _ vs)
    rw [trv_cat, ih]
theorem lg_sl_tr (rd : Nat → Nat) (vs : List Value) : (lg_sl (vs.map (trv rd))).length = (lg_sl vs).length := by
  induction vs with
  | nil => rfl
  | cons v vs ih =>
    unfold lg_sl at ih ⊢
    rw [List.map_cons, List.flatMap_cons, List.flatMap_cons, List.length_append, List.length_append, ih, trv_cat]
    congr 1
    split <;> rfl
theorem cat_tr (rd : Nat → Nat) (st : List Value) : ((trS rd st).map fun v => v.category).sum = vmCat st := by
  induction st with
  | nil => rfl
  | cons v st ih =>
    show (trv rd v).category + ((trS rd st).map fun v => v.category).sum = v.category + vmCat st
    rw [ih, trv_cat]
