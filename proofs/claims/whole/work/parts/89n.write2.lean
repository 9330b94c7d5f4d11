/-! write, out of the tables -/
theorem all_g {g k : Nat} (hg : g < 7) (hk : k < 256) : allB g k = true := by
  rcases (show g = 0 ∨ g = 1 ∨ g = 2 ∨ g = 3 ∨ g = 4 ∨ g = 5 ∨ g = 6 by omega) with rfl | rfl | rfl | rfl | rfl | rfl | rfl
  · exact all_0 k hk
  · exact all_1 k hk
  · exact all_2 k hk
  · exact all_3 k hk
  · exact all_4 k hk
  · exact all_5 k hk
  · exact all_6 k hk
theorem kdB_ok {x : Int32} (h : kdB x = true) : kdOk x := by
  unfold kdB at h
  rw [decide_eq_true_eq] at h
  exact ⟨_, Nat.mod_lt _ (by omega), h⟩
theorem all_ok {g k : Nat} (hg : g < 7) (hk : k < 256) (hs : ¬ tabS (256 * g + k) < 0) : tC g k = tR g k ∧ (∀ t, t ∈ tC g k → tkB g k t = true) ∧ wT (tC g k) ≤ 28 ∧ kdOk (fV (256 * g + k)) ∧ kdOk (eV (256 * g + k)) ∧ (∃ i, i < 107 ∧ wV (256 * g + k) = nI i) ∧ ltB (256 * g + k) (fV (256 * g + k)) = true ∧ ltB (256 * g + k) (eV (256 * g + k)) = true := by
  have h := all_g hg hk
  unfold allB at h
  rw [decide_eq_false hs, Bool.false_or] at h
  simp only [Bool.and_eq_true, decide_eq_true_eq, List.all_eq_true] at h
  obtain ⟨h1, h2, h3, h4, h5, h6, h7, h8⟩ := h
  exact ⟨h1, h2, h3, kdB_ok h4, kdB_ok h5, ⟨_, Nat.mod_lt _ (by omega), h6⟩, h7, h8⟩
theorem flC_len (nu di : Int32) (T : List Tt) : (flC nu di T).length ≤ wT T := by
  induction T with
  | nil => exact Nat.le_refl _
  | cons t T ih =>
    have e : flC nu di (t :: T) = inC nu di t ++ flC nu di T := List.flatMap_cons
    rw [e, List.length_append]
    show _ ≤ (if t.2 = 0 then 1 else if t.2 < 4 then 5 else 6) + wT T
    have h1 : (inC nu di t).length ≤ (if t.2 = 0 then 1 else if t.2 < 4 then 5 else 6) := by
      obtain ⟨v, m⟩ := t
      have hd := decL_len nu.toNatClampNeg
      have hd2 := decL_len (absI di).toNatClampNeg
      match m with
      | 0 => exact Nat.le_refl _
      | 1 => exact hd
      | 2 => exact hd
      | 3 => exact hd
      | m + 4 =>
        show ((if di < 0 then (45 : Int32) else 43) :: decL (absI di).toNatClampNeg).length ≤ if m + 4 = 0 then 1 else if m + 4 < 4 then 5 else 6
        rw [if_neg (show ¬ m + 4 = 0 by omega), if_neg (show ¬ m + 4 < 4 by omega), List.length_cons]
        omega
    omega
theorem decL_oct (n : Nat) : ∀ x, x ∈ decL n → oct x := dgs_oct _ _
theorem flC_oct {g k : Nat} (nu di : Int32) (T : List Tt) (h : ∀ t, t ∈ T → t.2 = 0 → oct t.1) : ∀ x, x ∈ flC nu di T → oct x := by
  intro x hx
  obtain ⟨t, ht, hx⟩ := List.mem_flatMap.mp hx
  have h0 := h t ht
  obtain ⟨v, m⟩ := t
  match m, h0 with
  | 0, h0 =>
    obtain rfl := List.mem_singleton.mp hx
    exact h0 rfl
  | 1, _ => exact decL_oct _ _ hx
  | 2, _ => exact decL_oct _ _ hx
  | 3, _ => exact decL_oct _ _ hx
  | m + 4, _ =>
    rcases List.mem_cons.mp hx with rfl | hx
    · split
      · exact ⟨45, by omega, rfl⟩
      · exact ⟨43, by omega, rfl⟩
    · exact decL_oct _ _ hx
theorem tkB_1 (g k : Nat) (v : Int32) : tkB g k (v, 1) = ((decide (nkV (256 * g + k) = 36) || decide (nkV (256 * g + k) = 42)) && !(decide (i3V g = 1))) := rfl
theorem tkB_2 (g k : Nat) (v : Int32) : tkB g k (v, 2) = ((decide (nkV (256 * g + k) = 37) || decide (nkV (256 * g + k) = 43)) && !(decide (i3V g = 1))) := rfl
theorem tkB_3 (g k : Nat) (v : Int32) : tkB g k (v, 3) = (decide (nkV (256 * g + k) = 38) && (decide (g = 0) && decide (zV g k = 2))) := rfl
theorem tkB_4 (g k : Nat) (v : Int32) (m : Nat) : tkB g k (v, m + 4) = nearV (256 * g + k) := by
  unfold tkB
  rw [if_neg (show ¬ m + 4 = 0 by omega), if_neg (show ¬ m + 4 = 1 by omega), if_neg (show ¬ m + 4 = 2 by omega), if_neg (show ¬ m + 4 = 3 by omega)]
theorem inC_0 (nu di v : Int32) : inC nu di (v, 0) = [v] := rfl
theorem inR_0 (a : Int32) (d : vmD) (v : Int32) : inR a d (v, 0) = [v] := rfl
theorem flC_nil (nu di : Int32) : flC nu di [] = [] := List.flatMap_nil
theorem flR_nil (a : Int32) (d : vmD) : flR a d [] = [] := List.flatMap_nil
theorem flC_cons (nu di : Int32) (t : Tt) (T : List Tt) : flC nu di (t :: T) = inC nu di t ++ flC nu di T := List.flatMap_cons
theorem flR_cons (a : Int32) (d : vmD) (t : Tt) (T : List Tt) : flR a d (t :: T) = inR a d t ++ flR a d T := List.flatMap_cons
theorem inx_1 {g k : Nat} {nu b oa di a d2 : Int32} {r d : vmD} (v : Int32) (ht : tkB g k (v, 1) = true) (hnu : nu = nuV (nkV (256 * g + k)) b (nI k) r) (hb : ¬ i3V g = 1 → b = oa) (q64 : gF d 42 64 = oa) (hrb : ∀ x, rb d x = rb r x) : inC nu di (v, 1) = inR a d (v, 1) := by
  rw [tkB_1] at ht
  simp only [Bool.and_eq_true, Bool.or_eq_true, Bool.not_eq_true', decide_eq_true_eq, decide_eq_false_iff_not] at ht
  have e : nu = rb d (gF d 42 64) := by
    rw [q64, hrb, ← hb ht.2, hnu]
    rcases ht.1 with q | q
    · rw [q, nu36]
    · rw [q, nu42]
  exact congrArg (fun x : Int32 => decL x.toNatClampNeg) e
theorem inx_2 {g k : Nat} {nu b oa di a d2 : Int32} {r d : vmD} (v : Int32) (ht : tkB g k (v, 2) = true) (hnu : nu = nuV (nkV (256 * g + k)) b (nI k) r) (hb : ¬ i3V g = 1 → b = oa) (q64 : gF d 42 64 = oa) (hrb : ∀ x, rb d x = rb r x) : inC nu di (v, 2) = inR a d (v, 2) := by
  rw [tkB_2] at ht
  have hrw : ∀ x, rw2 d x = rw2 r x := fun x => by unfold rw2; rw [hrb, hrb]
  simp only [Bool.and_eq_true, Bool.or_eq_true, Bool.not_eq_true', decide_eq_true_eq, decide_eq_false_iff_not] at ht
  have e : nu = rw2 d (gF d 42 64) := by
    rw [q64, hrw, ← hb ht.2, hnu]
    rcases ht.1 with q | q
    · rw [q, nu37]
    · rw [q, nu43]
  exact congrArg (fun x : Int32 => decL x.toNatClampNeg) e
theorem inx_3 {g k : Nat} {nu b oa di a d2 : Int32} {r d : vmD} (v : Int32) (ht : tkB g k (v, 3) = true) (hnu : nu = nuV (nkV (256 * g + k)) b (nI k) r) (hb : ¬ i3V g = 1 → b = oa) (hoa : g = 0 → oa = a + 1) (q63 : gF d 42 63 = zV g k) (q64 : gF d 42 64 = oa) (hrb : ∀ x, rb d x = rb r x) (hoc : ∀ x, oct (rb r x)) : inC nu di (v, 3) = inR a d (v, 3) := by
  rw [tkB_3] at ht
  simp only [Bool.and_eq_true, Bool.or_eq_true, Bool.not_eq_true', decide_eq_true_eq, decide_eq_false_iff_not] at ht
  obtain ⟨q, q0, qz⟩ := ht
  have i0 : ¬ i3V g = 1 := by rw [q0]; decide
  have e : nu = nearX a d := by
    unfold nearX
    rw [q63, q64, hrb, qz, hnu, q, nu38, hb i0, hoa q0, sgn_o (hoc _), add11]
  exact congrArg (fun x : Int32 => decL x.toNatClampNeg) e
theorem inx_4 {g k : Nat} {nu di a d2 : Int32} {d : vmD} (v : Int32) (m : Nat) (ht : tkB g k (v, m + 4) = true) (hd2 : nearV (256 * g + k) = true → di = d2) (q62 : gF d 42 62 = d2) : inC nu di (v, m + 4) = inR a d (v, m + 4) := by
  rw [tkB_4] at ht
  have e : di = gF d 42 62 := by rw [q62, hd2 ht]
  exact congrArg (fun x : Int32 => (if x < 0 then (45 : Int32) else 43) :: decL (absI x).toNatClampNeg) e
theorem in_eq2 {g k : Nat} {nu di a b oa d2 : Int32} {r d : vmD} (t : Tt) (ht : tkB g k t = true) (hnu : nu = nuV (nkV (256 * g + k)) b (nI k) r) (hb : ¬ i3V g = 1 → b = oa) (hoa : g = 0 → oa = a + 1) (hd2 : nearV (256 * g + k) = true → di = d2) (q62 : gF d 42 62 = d2) (q63 : gF d 42 63 = zV g k) (q64 : gF d 42 64 = oa) (hrb : ∀ x, rb d x = rb r x) (hoc : ∀ x, oct (rb r x)) : inC nu di t = inR a d t := by
  obtain ⟨v, m⟩ := t
  by_cases m0 : m = 0
  · subst m0
    rw [inC_0, inR_0]
  by_cases m1 : m = 1
  · subst m1
    exact inx_1 (d2 := d2) v ht hnu hb q64 hrb
  by_cases m2 : m = 2
  · subst m2
    exact inx_2 (d2 := d2) v ht hnu hb q64 hrb
  by_cases m3 : m = 3
  · subst m3
    exact inx_3 (d2 := d2) v ht hnu hb hoa q63 q64 hrb hoc
  obtain ⟨q, rfl⟩ : ∃ q, m = q + 4 := ⟨m - 4, by omega⟩
  exact inx_4 v q ht hd2 q62
theorem fl_eq2 {g k : Nat} {nu di a b oa d2 : Int32} {r d : vmD} (T : List Tt) (h : ∀ t, t ∈ T → tkB g k t = true) (hnu : nu = nuV (nkV (256 * g + k)) b (nI k) r) (hb : ¬ i3V g = 1 → b = oa) (hoa : g = 0 → oa = a + 1) (hd2 : nearV (256 * g + k) = true → di = d2) (q62 : gF d 42 62 = d2) (q63 : gF d 42 63 = zV g k) (q64 : gF d 42 64 = oa) (hrb : ∀ x, rb d x = rb r x) (hoc : ∀ x, oct (rb r x)) : flC nu di T = flR a d T := by
  induction T with
  | nil => rw [flC_nil, flR_nil]
  | cons t T ih => rw [flC_cons, flR_cons, ih (fun t ht => h t (List.mem_cons_of_mem _ ht)), in_eq2 t (h t List.mem_cons_self) hnu hb hoa hd2 q62 q63 q64 hrb hoc]
theorem dst_o : ∀ n, n < 256 → dstOk (Int8.toInt32 (Int32.toInt8 (nI n))) := by
  have h : ∀ n, n < 256 → Int8.toInt32 (Int32.toInt8 (nI n)) = if n < 128 then nI n else -(nI (256 - n)) := by decide +kernel
  intro n hn
  rw [h n hn]
  split
  · exact ⟨n, by omega, Or.inl rfl⟩
  · exact ⟨256 - n, by omega, Or.inr rfl⟩
theorem dst_i {x : Int32} (h : oct x) : dstOk (Int8.toInt32 (Int32.toInt8 x)) := by
  obtain ⟨n, hn, rfl⟩ := h
  exact dst_o n hn
theorem nuV_nb {c r : vmD} (h : RMem (gA c 2) (gA r 55)) (kd b op : Int32) : nb5 (nuV kd b op r) := by
  have hz : nb5 0 := ⟨0, by omega, rfl⟩
  have h7 : ∀ x : Int32, nb5 (x &&& 7) := fun x => nb_7 (b7_and x)
  have him : nb5 (if ((op >>> ((3 : Int32) &&& 31) &&& 7) - 1) < 0 then 0 else ((op >>> ((3 : Int32) &&& 31)) &&& 7) - 1) := by
    obtain ⟨n, hn, e⟩ := b7_and (op >>> ((3 : Int32) &&& 31))
    rw [e]
    have key : ∀ n, n < 8 → (if nI n - 1 < 0 then (0 : Int32) else nI n - 1) = nI (n - 1) := by decide
    rw [key n hn]
    exact ⟨n - 1, by omega, rfl⟩
  unfold nuV
  split
  · exact (rb_oct h _).nb
  split
  · exact (rw_wrd h _).nb
  split
  · exact (wrd_and _).nb
  split
  · exact h7 _
  split
  · obtain ⟨j, hj, e⟩ := pk_andE op (m := 63) 6 rfl
    have e2 : op &&& 56 = (op &&& 63) &&& 56 := by rw [Int32.and_assoc]; rfl
    rw [e2, e]
    have key : ∀ j, j < 64 → nI j &&& 56 = nI (j / 8 * 8) := by decide +kernel
    rw [key j hj]
    exact ⟨_, by omega, rfl⟩
  split
  · exact him
  split
  · exact (rb_oct h _).nb
  split
  · exact (rw_wrd h _).nb
  · exact hz
theorem Rel.s42_66 {c r : vmD} (v : Int32) : Rel c (sF r 42 66 v) = Rel c r := by
  unfold Rel RTold RReg RReq
  simp only [gA_sA, gA_sA_ne, gA_sF, gA_sG, gA_sL, gF_sA, gF_sF, gF_sF_ne, gF_sG, gF_sL, gG_sA, gG_sF, gG_sL, gG_sGe, gG_sG_ne, gL_sA, gL_sF, gL_sG, gL_sLe, gL_sL_ne, u1f_eq, u1f_ne, bnd_iff, not_false_eq_true, Nat.reduceEqDiff]
theorem near_f {n : Nat} (h : nearV n = false) : Instruction_isNear_v (fV n) = 0 ∧ Instruction_isNear_v (eV n) = 0 := by
  unfold nearV at h
  simp only [Bool.or_eq_false_iff, decide_eq_false_iff_not] at h
  obtain ⟨⟨⟨h1, h2⟩, h3⟩, h4⟩ := h
  unfold Instruction_isNear_v
  rw [if_neg h1, if_neg h2, if_neg h3, if_neg h4]
  exact ⟨rfl, rfl⟩
def TxtOk (c r : vmD) (x : Int32) (c1 r1 : vmD) (sz : Int32) (l : List Int32) : Prop :=
  Rel c1 r1 ∧ l.length ≤ 28 ∧ (∀ v, v ∈ l → oct v) ∧ (∀ Q, Instruction_look x c Q = Q c1) ∧ gF c1 19 10 = sz ∧
  (∀ c', gF c' 19 = gF c1 19 → CC c' → Wc 13 14 32 (Instruction_appendTo_wri c') c' l ∧ Wc 11 12 6001 (Instruction_appendTo_dra c') c' l) ∧
  (∀ Q : Int32 → vmD → Prop, Q sz (rW l r1) → MO_writeAt x r Q) ∧ gF r1 42 66 = nI 0 ∧ (gF c1 9 = gF c 9 ∧ gF c1 11 = gF c 11 ∧ gF c1 13 = gF c 13 ∧ gF c1 3 = gF c 3) ∧ (gA c1 = gA c ∧ gA r1 = gA r)
theorem lS_x {c : vmD} {op ex w f e sz di nu : Int32} : gA (lS c op ex w f e sz di nu) = gA c := rfl
theorem text_all {c r : vmD} (h : Rel c r) (x : Int32) : ∃ c1 r1 sz l, TxtOk c r x c1 r1 sz l := by
  have h0 : Rel c (sF r 42 66 0) := by rw [Rel.s42_66]; exact h
  have hoc : ∀ x, oct (rb (sF r 42 66 0) x) := fun x => rb_oct h0.2.1 x
  obtain ⟨g, k, hg, hk, hld, hk0, hlk⟩ := look_all h0 x
  rcases hlk with ⟨hs, ⟨op, di, hl⟩, a0, a1, a2, a3, a4, a5, hd⟩ | ⟨hs, b, di, d2, oa, hl, hd, hnr, hb, hoa, hd0⟩
  · refine ⟨_, dS (sF r 42 66 0) a0 a1 a2 a3 a4 a5, 1, flC (rb (sF r 42 66 0) x) di (tIns (nI 101) 36 0 0), ?_, ?_, ?_, hl, lg_10 _ _ _ _ _ _ _ _ _, ?_, ?_, ?_, ⟨?_, ?_, ?_, ?_⟩, rfl, rfl⟩
    · rw [Rel.lS, Rel.dS]
      exact h0
    · have := flC_len (rb (sF r 42 66 0) x) di (tIns (nI 101) 36 0 0)
      have e : wT (tIns (nI 101) 36 0 0) ≤ 28 := by decide +kernel
      omega
    · refine flC_oct (g := 0) (k := 0) _ _ _ (fun t ht h2 => ?_)
      have e : (tIns (nI 101) 36 0 0).all (fun t => decide (t.1 = nI (t.1.toNatClampNeg % 256))) = true := by decide +kernel
      rw [List.all_eq_true] at e
      exact ⟨_, Nat.mod_lt _ (by omega), of_decide_eq_true (e t ht)⟩
    · intro c' h19 hC'
      have q5 := congrFun h19 5
      have q6 := congrFun h19 6
      have q7 := congrFun h19 7
      have q8 := congrFun h19 8
      have q9 := congrFun h19 9
      rw [lg_5] at q5
      rw [lg_6] at q6
      rw [lg_7] at q7
      rw [lg_8] at q8
      rw [lg_9] at q9
      have hkf : kdOk 36 := ⟨36, by omega, rfl⟩
      have hke : kdOk 0 := ⟨0, by omega, rfl⟩
      have hn5 := (hoc x).nb
      have hsd : ∀ kd : Int32, kd = 36 ∨ kd = 0 → kd = 39 ∨ kd = 40 ∨ kd = 41 → rb (sF r 42 66 0) x = nuS kd 0 := by
        rintro kd (rfl | rfl) q
        · exact absurd q (by decide)
        · exact absurd q (by decide)
      exact ⟨ins_wri hC' (i := 101) (by omega) q5 q6 q7 hkf hke q9 q8 hn5 (Or.inl (by decide)) hsd, ins_dra hC' (i := 101) (by omega) q5 q6 q7 hkf hke q9 q8 hn5 (Or.inl (by decide)) hsd⟩
    · intro Q hQ
      unfold MO_writeAt
      refine bnd_iff.mpr ?_
      rw [hd]
      rw [if_pos rfl]
      have e66 : gF (dS (sF r 42 66 0) a0 a1 a2 a3 a4 a5) 42 66 = nI 0 := by
        rw [dg_x _ _ _ _ _ _ _ (by decide) (by decide) (by decide) (by decide) (by decide) (by decide), gF_sF, u1f_eq]
        rfl
      have efl : flC (rb (sF r 42 66 0) x) di (tIns (nI 101) 36 0 0) = flR 0 (dS (sF r 42 66 0) a0 a1 a2 a3 a4 a5) (sayT 4473376) ++ decL (rb (sF r 42 66 0) x).toNatClampNeg := by
        have e1 : tIns (nI 101) 36 0 0 = sayT 4473376 ++ [(0, 1)] := by decide +kernel
        have e2 : flC (rb (sF r 42 66 0) x) di (sayT 4473376) = flR 0 (dS (sF r 42 66 0) a0 a1 a2 a3 a4 a5) (sayT 4473376) := by
          have e3 : sayT 4473376 = litT [68, 66, 32] := by decide +kernel
          rw [e3, flC_lit, flR_lit]
        rw [e1, flC_app, flC_1, e2]
        rfl
      rw [efl, rW_app] at hQ
      have el : (flR 0 (dS (sF r 42 66 0) a0 a1 a2 a3 a4 a5) (sayT 4473376)).length = 3 := by
        have e3 : sayT 4473376 = litT [68, 66, 32] := by decide +kernel
        rw [e3, flR_lit]
        rfl
      refine wr_say 0 4473376 _ 0 _ e66 (by rw [el]; omega) ?_
      rw [peek_eq]
      have erb : rb (rW (flR 0 (dS (sF r 42 66 0) a0 a1 a2 a3 a4 a5) (sayT 4473376)) (dS (sF r 42 66 0) a0 a1 a2 a3 a4 a5)) x = rb (sF r 42 66 0) x := by
        unfold rb
        rw [rW_gA _ _ _ (by decide), dA]
      rw [erb]
      have := decL_len (rb (sF r 42 66 0) x).toNatClampNeg
      exact num_eq (hoc x).nb _ _ _ (rW_66 _ _ _ e66) (by rw [el]; omega) hQ
    · rw [dg_x _ _ _ _ _ _ _ (by decide) (by decide) (by decide) (by decide) (by decide) (by decide), gF_sF, u1f_eq]
      rfl
    · exact lg_x _ _ _ _ _ _ _ _ _ (by decide)
    · exact lg_x _ _ _ _ _ _ _ _ _ (by decide)
    · exact lg_x _ _ _ _ _ _ _ _ _ (by decide)
    · exact lg_x _ _ _ _ _ _ _ _ _ (by decide)
  · obtain ⟨t1, t2, t3, t4, t5, ⟨i, ti, t6⟩, t7, t8⟩ := all_ok hg hk hs
    have n5 : nb5 (nuV (nkV (256 * g + k)) b (nI k) (sF r 42 66 0)) := nuV_nb h0.2.1 _ _ _
    have hr62 : gF (dS (sF r 42 66 0) (i3V g) (nI (ixV g)) d2 (nI k) oa (zV g k)) 42 62 = d2 := dg_62 _ _ _ _ _ _ _
    have hr66 : gF (dS (sF r 42 66 0) (i3V g) (nI (ixV g)) d2 (nI k) oa (zV g k)) 42 66 = nI 0 := by
      rw [dg_x _ _ _ _ _ _ _ (by decide) (by decide) (by decide) (by decide) (by decide) (by decide), gF_sF, u1f_eq]
      rfl
    have hfl : flC (nuV (nkV (256 * g + k)) b (nI k) (sF r 42 66 0)) di (tC g k) = flR x (dS (sF r 42 66 0) (i3V g) (nI (ixV g)) d2 (nI k) oa (zV g k)) (tC g k) := fl_eq2 (tC g k) t2 rfl hb hoa (fun q => (hnr q).1) hr62 (dg_63 _ _ _ _ _ _ _) (dg_64 _ _ _ _ _ _ _) (fun y => rb_dS _ _ _ _ _ _ _ _) hoc
    have hlen : (flC (nuV (nkV (256 * g + k)) b (nI k) (sF r 42 66 0)) di (tC g k)).length ≤ 28 := Nat.le_trans (flC_len _ _ _) t3
    refine ⟨_, dS (sF r 42 66 0) (i3V g) (nI (ixV g)) d2 (nI k) oa (zV g k), zV g k, flC (nuV (nkV (256 * g + k)) b (nI k) (sF r 42 66 0)) di (tC g k), ?_, hlen, ?_, hl, lg_10 _ _ _ _ _ _ _ _ _, ?_, ?_, hr66, ⟨?_, ?_, ?_, ?_⟩, rfl, rfl⟩
    · rw [Rel.lS, Rel.dS]
      exact h0
    · refine flC_oct (g := 0) (k := 0) _ _ _ (fun t ht h2 => ?_)
      have e := t2 t ht
      unfold tkB at e
      rw [if_pos h2, decide_eq_true_eq] at e
      exact ⟨_, Nat.mod_lt _ (by omega), e⟩
    · intro c' h19 hC'
      have q5 := congrFun h19 5
      have q6 := congrFun h19 6
      have q7 := congrFun h19 7
      have q8 := congrFun h19 8
      have q9 := congrFun h19 9
      rw [lg_5] at q5
      rw [lg_6] at q6
      rw [lg_7] at q7
      rw [lg_8] at q8
      rw [lg_9] at q9
      rw [t6] at q5
      have hdd : (Instruction_isNear_v (fV (256 * g + k)) = 0 ∧ Instruction_isNear_v (eV (256 * g + k)) = 0) ∨ dstOk di := by
        by_cases q : nearV (256 * g + k) = true
        · obtain ⟨-, ob, e⟩ := hnr q
          rw [e]
          exact Or.inr (dst_i ob)
        · exact Or.inl (near_f (by rw [← Bool.not_eq_true]; exact q))
      have hsd : ∀ kd : Int32, kd = fV (256 * g + k) ∨ kd = eV (256 * g + k) → kd = 39 ∨ kd = 40 ∨ kd = 41 → nuV (nkV (256 * g + k)) b (nI k) (sF r 42 66 0) = nuS kd (nI k) := by
        intro kd hkd q
        have e : nkV (256 * g + k) = kd := by
          rcases hkd with rfl | rfl
          · unfold ltB at t7
            rw [if_pos q, decide_eq_true_eq] at t7
            exact t7
          · unfold ltB at t8
            rw [if_pos q, decide_eq_true_eq] at t8
            exact t8
        rw [e]
        rcases q with rfl | rfl | rfl
        · rw [nu39]; rfl
        · rw [nu40]; rfl
        · rw [nu41]; rfl
      have et : tC g k = tIns (nI i) (fV (256 * g + k)) (eV (256 * g + k)) (nI k) := by unfold tC; rw [t6]
      rw [et]
      exact ⟨ins_wri hC' ti q5 q6 q7 t4 t5 q9 q8 n5 hdd hsd, ins_dra hC' ti q5 q6 q7 t4 t5 q9 q8 n5 hdd hsd⟩
    · intro Q hQ
      unfold MO_writeAt
      refine bnd_iff.mpr ?_
      rw [hd]
      rw [if_neg (by decide)]
      generalize hr1 : dS (sF r 42 66 0) (i3V g) (nI (ixV g)) d2 (nI k) oa (zV g k) = r1 at *
      have r59 : gF r1 42 59 = i3V g := by rw [← hr1, dg_59]
      have r60 : gF r1 42 60 = nI (ixV g) := by rw [← hr1, dg_60]
      have r61 : gF r1 42 61 = nI k := by rw [← hr1, dg_61]
      have r63 : gF r1 42 63 = zV g k := by rw [← hr1, dg_63]
      have hS : StW r1 (nI k) (nI (ixV g)) := by
        refine ⟨r61, r60, ⟨c, ?_⟩, ?_⟩
        · rw [← hr1, dA]
          exact h0.2.1
        · rw [hr62]
          by_cases q : nearV (256 * g + k) = true
          · obtain ⟨e1, ob, e2⟩ := hnr q
            rw [← e1, e2]
            exact dst_i ob
          · rw [hd0 (by rw [← Bool.not_eq_true]; exact q)]
            exact ⟨0, by omega, Or.inl rfl⟩
      rw [hfl, t1] at hQ
      rw [hfl, t1] at hlen
      have hQ2 : MO_writeAt_191 (rW (flR x r1 (tR g k)) r1) Q := by
        unfold MO_writeAt_191
        rw [rW_gF _ _ _ (by decide), r63]
        exact hQ
      have fin : ∀ (P : (vmD → Prop) → Prop) (T : List Tt), Wr x P r1 T → tR g k = T → P (fun d => MO_writeAt_191 d Q) := by
        intro P T hw e
        refine hw 0 _ hr66 ?_ ?_
        · rw [← e]
          omega
        · rw [← e]
          exact hQ2
      unfold tR at fin
      rw [r59]
      by_cases c1 : i3V g = 1
      · simp only [if_pos c1] at fin ⊢
        exact fin _ _ (w_write203 hS) rfl
      simp only [if_neg c1] at fin ⊢
      by_cases c2 : i3V g = 2
      · simp only [if_pos c2] at fin ⊢
        exact fin _ _ (w_write237 hS) rfl
      simp only [if_neg c2] at fin ⊢
      rw [r61]
      by_cases c3 : nI k >>> ((6 : Int32) &&& 31) = 0
      · simp only [if_pos c3] at fin ⊢
        exact fin _ _ (w_writeFirst hS) rfl
      simp only [if_neg c3] at fin ⊢
      by_cases c4 : nI k >>> ((6 : Int32) &&& 31) = 3
      · simp only [if_pos c4] at fin ⊢
        exact fin _ _ (w_writeLast hS) rfl
      simp only [if_neg c4] at fin ⊢
      by_cases c5 : nI k = 118
      · simp only [if_pos c5] at fin ⊢
        exact fin _ _ (wr_say _ _ _) rfl
      simp only [if_neg c5] at fin ⊢
      by_cases c6 : nI k >>> ((6 : Int32) &&& 31) = 1
      · simp only [if_pos c6] at fin ⊢
        refine fin (fun Q => MO_say 4998176 r1 fun d_20 => MO_octetName (((gF d_20 42 61) >>> ((3 : Int32) &&& 31)) &&& 7) d_20 fun d_21 => MO_one 44 d_21 fun d_22 => MO_octetName ((gF d_22 42 61) &&& 7) d_22 Q) _ (wr_seq (wr_say _ _ _) (fun d1 e1 => ?_)) rfl
        have s1 := hS.w e1
        refine wr_seq (by rw [s1.1]; exact w_octetName s1) (fun d2 e2 => ?_)
        have s2 := s1.w e2
        refine wr_seq (wr_one _ _ _) (fun d3 e3 => ?_)
        have s3 := s2.w e3
        rw [s3.1]
        exact w_octetName s3
      · simp only [if_neg c6] at fin ⊢
        refine fin (fun Q => MO_sumName ((nI k >>> ((3 : Int32) &&& 31)) &&& 7) r1 fun d_24 => MO_octetName ((gF d_24 42 61) &&& 7) d_24 Q) _ (wr_seq (w_sumName hS) (fun d1 e1 => ?_)) rfl
        have s1 := hS.w e1
        rw [s1.1]
        exact w_octetName s1
    · exact lg_x _ _ _ _ _ _ _ _ _ (by decide)
    · exact lg_x _ _ _ _ _ _ _ _ _ (by decide)
    · exact lg_x _ _ _ _ _ _ _ _ _ (by decide)
    · exact lg_x _ _ _ _ _ _ _ _ _ (by decide)
/-- a row copied -/
def cpA (o p : Nat) : Nat → Nat → vmD → vmD
  | 0, _, d => d
  | n + 1, k, d => cpA o p n (k + 1) (sA d p k (gA d o k))
theorem cpA_gF (o p : Nat) : ∀ n k d, gF (cpA o p n k d) = gF d := by
  intro n
  induction n with
  | zero => intro k d; rfl
  | succ n ih => intro k d; exact (ih _ _).trans rfl
theorem cpA_gG (o p : Nat) : ∀ n k d, gG (cpA o p n k d) = gG d := by
  intro n
  induction n with
  | zero => intro k d; rfl
  | succ n ih => intro k d; exact (ih _ _).trans rfl
theorem cpA_gL (o p : Nat) : ∀ n k d, gL (cpA o p n k d) = gL d := by
  intro n
  induction n with
  | zero => intro k d; rfl
  | succ n ih => intro k d; exact (ih _ _).trans rfl
theorem cpA_gA (o p : Nat) : ∀ n k d x, ¬ x = p → gA (cpA o p n k d) x = gA d x := by
  intro n
  induction n with
  | zero => intro k d x _; rfl
  | succ n ih => intro k d x hx; exact (ih _ _ x hx).trans (gA_sA_ne _ _ _ hx)
theorem cpA_p (o p : Nat) (hop : ¬ o = p) : ∀ n k d i, gA (cpA o p n k d) p i = if k ≤ i ∧ i < k + n then gA d o i else gA d p i := by
  intro n
  induction n with
  | zero => intro k d i; rw [if_neg (by omega)]; rfl
  | succ n ih =>
    intro k d i
    show gA (cpA o p n (k + 1) _) p i = _
    rw [ih, gA_sA_ne _ _ _ hop, gA_sA]
    by_cases e : i = k
    · subst e
      rw [if_neg (by omega), if_pos (by omega), u1f_eq]
    · rw [u1f_ne _ _ e]
      by_cases e2 : k + 1 ≤ i ∧ i < k + 1 + n
      · rw [if_pos e2, if_pos (by omega)]
      · rw [if_neg e2, if_neg (by omega)]
theorem write29 : ∀ (q k : Nat) (d : vmD) (v : Int32) (Q : Int32 → vmD → Prop), gF d 42 66 = nI (k + q) → k + q ≤ 40 → Q v (cpA 62 63 q k d) → ∃ m, MO_write_29 Q m v (nI k) d := by
  intro q
  induction q with
  | zero =>
    intro k d v Q h hk hQ
    refine ⟨1, ?_⟩
    unfold MO_write_29
    rw [h, if_neg (nI_nlt (by omega) (by omega))]
    exact hQ
  | succ q ih =>
    intro k d v Q h hk hQ
    obtain ⟨m, hm⟩ := ih (k + 1) (sA d 63 k (gA d 62 k)) v Q (by rw [gF_sA, h]; exact congrArg nI (by omega)) (by omega) hQ
    refine ⟨m + 1, ?_⟩
    unfold MO_write_29
    rw [h, if_pos (nI_lt (by omega) (by omega))]
    refine ⟨nI_in (by omega) (by omega), bnd_iff.mpr ⟨nI_in (by omega) (by omega), bnd_iff.mpr (bnd_iff.mpr ?_)⟩⟩
    rw [nI_clamp (by omega), nI_1]
    exact hm
theorem byt_and (x : Int32) : byt x &&& 255 = x &&& 255 := bp_b2 x
theorem ok_write : Ok_write Rel := by
  intro c r hR x
  by_cases h0 : x < 0
  · exact ⟨-2, c, r, fun Q h => by unfold OF_write; rw [if_pos h0]; exact h, fun Q h => by unfold MO_write; rw [if_pos h0]; exact h, hR⟩
  by_cases h1 : x < 65536
  · have h2 : ¬ (65535 : Int32) < x := by
      obtain ⟨j, hj, rfl⟩ := nat_of (n := 65536) rfl (by omega) h0 h1
      exact nI_nlt (a := 65535) (by omega) (by omega)
    obtain ⟨c1, r1, sz, l, t1, t2, t3, t4, t5, t6, t7, t8, ⟨-, -, t9, -⟩, -⟩ := text_all hR x
    have e0 : gF (sF c1 13 1 0) 13 1 = nI 0 := by rw [gF_sF, u1f_eq]; rfl
    have w := (t6 (sF c1 13 1 0) (gF_sF_ne _ _ _ (by decide)) (show CC (sF c1 13 1 0) from t1.1)).1
    have q66 : gF (rW l r1) 42 66 = nI (0 + l.length) := rW_66 _ _ _ t8
    refine ⟨sz, tW 13 14 (nI 32) l (sF c1 13 1 0), cpA 62 63 l.length 0 (sF (rW l r1) 42 68 (nI (0 + l.length))), fun Q h => ?_, fun Q h => ?_, ?_⟩
    · unfold OF_write
      rw [if_neg h0, if_pos h1, t4]
      unfold Text_empty_wri
      refine bnd_iff.mpr ?_
      refine w 0 _ e0 (by omega) ?_
      unfold Instruction_size
      rw [tW_gF _ _ _ _ _ _ (by decide), gF_sF_ne _ _ _ (by decide), t5]
      exact h
    · unfold MO_write
      rw [if_neg h0, if_neg h2]
      refine t7 _ ?_
      refine bnd_iff.mpr ?_
      rw [q66]
      exact write29 l.length 0 _ sz Q (by rw [gF_sF, u1f_ne _ _ (by decide), q66]) (by omega) h
    · obtain ⟨q1, q2, q3, q4, q5, q6, q7, q8, q9⟩ := t1
      obtain ⟨f1, f2⟩ := tW_a 13 14 (N := 32) (by omega) l (sF c1 13 1 0) 0 e0 (by omega)
      obtain ⟨-, g2⟩ := rW_62 l r1 0 t8 (by omega)
      have e1 := tW_1 13 14 (N := 32) (by omega) l (sF c1 13 1 0) 0 e0 (by omega)
      have z : ∀ f, ¬ f = 66 → ¬ f = 68 → gF (cpA 62 63 l.length 0 (sF (rW l r1) 42 68 (nI (0 + l.length)))) 42 f = gF r1 42 f := by
        intro f z1 z2
        rw [cpA_gF, gF_sF, u1f_ne _ _ z2, rW_gF _ _ _ z1]
      have za : ∀ o, ¬ o = 62 → ¬ o = 63 → gA (cpA 62 63 l.length 0 (sF (rW l r1) 42 68 (nI (0 + l.length)))) o = gA r1 o := by
        intro o z1 z2
        rw [cpA_gA _ _ _ _ _ _ z2, gA_sF, rW_gA _ _ _ z1]
      have zg : ∀ o, gG (cpA 62 63 l.length 0 (sF (rW l r1) 42 68 (nI (0 + l.length)))) o = gG r1 o := by
        intro o
        rw [cpA_gG, gG_sF, rW_gG]
      have y : ∀ o, ¬ o = 13 → gF (tW 13 14 (nI 32) l (sF c1 13 1 0)) o = gF c1 o := by
        intro o y1
        rw [tW_gF _ _ _ _ _ _ y1, gF_sF_ne _ _ _ y1]
      have ya : ∀ o, ¬ o = 14 → gA (tW 13 14 (nI 32) l (sF c1 13 1 0)) o = gA c1 o := by
        intro o y1
        rw [tW_gA _ _ _ _ _ _ y1, gA_sF]
      have yg : ∀ o, gG (tW 13 14 (nI 32) l (sF c1 13 1 0)) o = gG c1 o := fun o => by rw [tW_gG]; rfl
      have yl : ∀ o, gL (tW 13 14 (nI 32) l (sF c1 13 1 0)) o = gL c1 o := fun o => by rw [tW_gL]; rfl
      refine ⟨?_, ?_, ?_, ?_, ?_, ?_, ?_, ?_, ?_⟩
      · rw [yl, ya 16 (by decide), ya 17 (by decide), ya 18 (by decide)]
        exact q1
      · rw [ya 2 (by decide), za 55 (by decide) (by decide)]
        exact q2
      · rw [y 9 (by decide), z 1 (by decide) (by decide), ya 10 (by decide), za 43 (by decide) (by decide)]
        exact q3
      · rw [y 3 (by decide), z 51 (by decide) (by decide), ya 6 (by decide), za 61 (by decide) (by decide), yl, za 60 (by decide) (by decide), za 59 (by decide) (by decide)]
        exact q4
      · refine ⟨l.length, by omega, ?_, ?_, fun i hi => ?_⟩
        · rw [e1]
          exact congrArg nI (by omega)
        · rw [cpA_gF, gF_sF, u1f_eq]
          exact congrArg nI (by omega)
        · rw [cpA_p _ _ (by decide), if_pos (by omega), gA_sF]
          have a1 := g2 i hi
          have a2 := f2 i hi (by omega)
          rw [Nat.zero_add] at a1 a2
          rw [a1, a2, byt_and, (t3 _ (List.getElem_mem hi)).and]
      · unfold RTold at q6 ⊢
        rw [y 21 (by decide), y 20 (by decide), z 46 (by decide) (by decide), z 47 (by decide) (by decide), z 48 (by decide) (by decide), z 49 (by decide) (by decide), z 50 (by decide) (by decide)]
        exact q6
      · unfold RReg at q7 ⊢
        rw [ya 39 (by decide), za 65 (by decide) (by decide), za 66 (by decide) (by decide), za 67 (by decide) (by decide), z 75 (by decide) (by decide), z 76 (by decide) (by decide), z 72 (by decide) (by decide), z 73 (by decide) (by decide), z 77 (by decide) (by decide), z 78 (by decide) (by decide), z 79 (by decide) (by decide)]
        exact q7
      · rw [ya 40 (by decide), ya 41 (by decide), za 68 (by decide) (by decide), za 69 (by decide) (by decide), yg, zg]
        exact q8
      · unfold RReq at q9 ⊢
        rw [y 38 (by decide), z 83 (by decide) (by decide), z 82 (by decide) (by decide), z 85 (by decide) (by decide), z 84 (by decide) (by decide)]
        exact q9
  · have h2 : (65535 : Int32) < x := by
      obtain ⟨j, hj, rfl⟩ := nI_of h0
      have : ¬ j < 65536 := fun q => h1 (nI_lt (b := 65536) q (by omega))
      exact nI_lt (a := 65535) (by omega) hj
    exact ⟨-2, c, r, fun Q h => by unfold OF_write; rw [if_neg h0, if_neg h1]; exact h, fun Q h => by unfold MO_write; rw [if_neg h0, if_pos h2]; exact h, hR⟩
