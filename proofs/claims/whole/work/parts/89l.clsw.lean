/-! The class's writers -/
def byt (v : Int32) : Int32 := (Int8.toInt32 (Int32.toInt8 v)).toInt8.toInt32
def tA1 (o a : Nat) (K v : Int32) (c : vmD) : vmD := if gF c o 1 < K then sF (sA c a (gF c o 1).toNatClampNeg (byt v)) o 1 (gF c o 1 + 1) else c
def tW (o a : Nat) (K : Int32) : List Int32 → vmD → vmD
  | [], c => c
  | v :: l, c => tW o a K l (tA1 o a K v c)
theorem tW_app (o a : Nat) (K : Int32) (l1 l2 : List Int32) : ∀ c, tW o a K (l1 ++ l2) c = tW o a K l2 (tW o a K l1 c) := by
  induction l1 with
  | nil => intro c; rfl
  | cons v l ih => intro c; exact ih _
theorem tW_gF (o a : Nat) (K : Int32) (l : List Int32) : ∀ c x, ¬ x = o → gF (tW o a K l c) x = gF c x := by
  induction l with
  | nil => intro c x _; rfl
  | cons v l ih =>
    intro c x hx
    show gF (tW o a K l _) x = _
    rw [ih _ x hx]
    unfold tA1
    split
    · rw [gF_sF_ne _ _ _ hx, gF_sA]
    · rfl
theorem tW_gFo (o a : Nat) (K : Int32) (l : List Int32) : ∀ c f, ¬ f = 1 → gF (tW o a K l c) o f = gF c o f := by
  induction l with
  | nil => intro c f _; rfl
  | cons v l ih =>
    intro c f hf
    show gF (tW o a K l _) o f = _
    rw [ih _ f hf]
    unfold tA1
    split
    · rw [gF_sF, u1f_ne _ _ hf, gF_sA]
    · rfl
theorem tW_gA (o a : Nat) (K : Int32) (l : List Int32) : ∀ c x, ¬ x = a → gA (tW o a K l c) x = gA c x := by
  induction l with
  | nil => intro c x _; rfl
  | cons v l ih =>
    intro c x hx
    show gA (tW o a K l _) x = _
    rw [ih _ x hx]
    unfold tA1
    split
    · rw [gA_sF, gA_sA_ne _ _ _ hx]
    · rfl
theorem tW_gG (o a : Nat) (K : Int32) (l : List Int32) : ∀ c, gG (tW o a K l c) = gG c := by
  induction l with
  | nil => intro c; rfl
  | cons v l ih =>
    intro c
    show gG (tW o a K l _) = _
    rw [ih]
    unfold tA1
    split <;> rfl
theorem tW_gL (o a : Nat) (K : Int32) (l : List Int32) : ∀ c, gL (tW o a K l c) = gL c := by
  induction l with
  | nil => intro c; rfl
  | cons v l ih =>
    intro c
    show gL (tW o a K l _) = _
    rw [ih]
    unfold tA1
    split <;> rfl
/-- how long it is then -/
theorem tW_1 (o a : Nat) {N : Nat} (hN : N < 2 ^ 31) (l : List Int32) : ∀ c n, gF c o 1 = nI n → n ≤ N → gF (tW o a (nI N) l c) o 1 = nI (min (n + l.length) N) := by
  induction l with
  | nil =>
    intro c n h hn
    show gF c o 1 = _
    rw [h]
    exact congrArg nI (by rw [List.length_nil]; omega)
  | cons v l ih =>
    intro c n h hn
    show gF (tW o a (nI N) l _) o 1 = _
    unfold tA1
    by_cases e : n < N
    · rw [h, if_pos (nI_lt e hN), ih _ (n + 1) (by rw [gF_sF, u1f_eq, nI_1]) (by omega)]
      exact congrArg nI (by rw [List.length_cons]; omega)
    · rw [h, if_neg (nI_nlt (by omega) (by omega)), ih _ n h hn]
      exact congrArg nI (by rw [List.length_cons]; omega)
theorem tW_a (o a : Nat) {N : Nat} (hN : N < 2 ^ 31) (l : List Int32) : ∀ c n, gF c o 1 = nI n → n ≤ N → (∀ i, i < n → gA (tW o a (nI N) l c) a i = gA c a i) ∧ ∀ i (h : i < l.length), n + i < N → gA (tW o a (nI N) l c) a (n + i) = byt l[i] := by
  induction l with
  | nil => intro c n _ _; exact ⟨fun i _ => rfl, fun i h => absurd h (Nat.not_lt_zero _)⟩
  | cons v l ih =>
    intro c n h hn
    by_cases e : n < N
    · have e0 : tA1 o a (nI N) v c = sF (sA c a n (byt v)) o 1 (nI n + 1) := by
        unfold tA1
        rw [h, if_pos (nI_lt e hN), nI_clamp (by omega)]
      obtain ⟨q1, q2⟩ := ih (tA1 o a (nI N) v c) (n + 1) (by rw [e0, gF_sF, u1f_eq, nI_1]) (by omega)
      have e3 : gA (tA1 o a (nI N) v c) a = u1f (gA c a) n (byt v) := by rw [e0, gA_sF, gA_sA]
      refine ⟨fun i hi => ?_, fun i hi hk => ?_⟩
      · show gA (tW o a (nI N) l _) a i = _
        rw [q1 i (by omega), e3, u1f_ne _ _ (by omega)]
      · show gA (tW o a (nI N) l _) a (n + i) = _
        cases i with
        | zero => rw [q1 (n + 0) (by omega), e3, Nat.add_zero, u1f_eq]; rfl
        | succ i =>
          rw [List.length_cons] at hi
          rw [show n + (i + 1) = n + 1 + i by omega, q2 i (by omega) (by omega)]
          rfl
    · have e0 : tA1 o a (nI N) v c = c := by
        unfold tA1
        rw [h, if_neg (nI_nlt (by omega) (by omega))]
      obtain ⟨q1, q2⟩ := ih c n h hn
      refine ⟨fun i hi => ?_, fun i hi hk => absurd hk (by omega)⟩
      show gA (tW o a (nI N) l (tA1 o a (nI N) v c)) a i = _
      rw [e0]
      exact q1 i hi
def Wc (o a N : Nat) (P : (vmD → Prop) → Prop) (c : vmD) (l : List Int32) : Prop := ∀ (n : Nat) (Q : vmD → Prop), gF c o 1 = nI n → n ≤ N → Q (tW o a (nI N) l c) → P Q
theorem wc_nil {o a N : Nat} {c : vmD} : Wc o a N (fun Q => Q c) c [] := fun _ _ _ _ h => h
theorem wc_seq {o a N : Nat} (hN : N < 2 ^ 31) {P1 : (vmD → Prop) → Prop} {P2 : (vmD → Prop) → vmD → Prop} {c : vmD} {l1 l2 : List Int32} (h1 : Wc o a N P1 c l1) (h2 : ∀ c', c' = tW o a (nI N) l1 c → Wc o a N (fun Q => P2 Q c') c' l2) : Wc o a N (fun Q => P1 (fun c' => P2 Q c')) c (l1 ++ l2) := by
  intro n Q hn hl hQ
  refine h1 n _ hn hl ?_
  refine h2 _ rfl _ Q (tW_1 o a hN _ _ _ hn hl) (by omega) ?_
  rw [← tW_app]
  exact hQ
theorem wc_ite {o a N : Nat} {p : Prop} [Decidable p] {A B : (vmD → Prop) → Prop} {c : vmD} {la lb : List Int32} (h1 : p → Wc o a N A c la) (h2 : ¬ p → Wc o a N B c lb) : Wc o a N (fun Q => if p then A Q else B Q) c (if p then la else lb) := by
  intro n Q hn hl hQ
  by_cases h : p
  · rw [if_pos h] at hQ ⊢
    exact h1 h n Q hn hl hQ
  · rw [if_neg h] at hQ ⊢
    exact h2 h n Q hn hl hQ
/-- names -/
def kK (x : Int64) : Nat := x.toInt.toNat
def kM (K : Nat) : Nat := if K = 0 then 0 else if K < 38 then 1 else if K < 38 ^ 2 then 2 else if K < 38 ^ 3 then 3 else if K < 38 ^ 4 then 4 else if K < 38 ^ 5 then 5 else 6
def sgsL (K m : Nat) : List Int32 := (List.range m).map (fun j => sgnD (K / 38 ^ (m - 1 - j) % 38))
def nameL (i : Nat) : List Int32 := sgsL (kK (tabN i)) (kM (kK (tabN i)))
theorem tabN_ok : ∀ i, i < 107 → tabN i = lN (kK (tabN i)) ∧ kK (tabN i) < 38 ^ kM (kK (tabN i)) ∧ (kM (kK (tabN i)) = 0 ∨ 38 ^ (kM (kK (tabN i)) - 1) ≤ kK (tabN i)) ∧ kM (kK (tabN i)) ≤ 12 := by decide +kernel
theorem sgs_step {K m j : Nat} (hj : j < m) : (sgsL K m).drop j = sgnD (K / 38 ^ (m - 1 - j) % 38) :: (sgsL K m).drop (j + 1) := by
  have hl : (sgsL K m).length = m := by unfold sgsL; rw [List.length_map, List.length_range]
  rw [List.drop_eq_getElem_cons (by omega)]
  congr 1
  unfold sgsL
  rw [List.getElem_map, List.getElem_range]
theorem sgnD_nn (D : Nat) (h : D < 38) : ¬ sgnD D < 0 := by
  unfold sgnD
  repeat' split
  · decide
  · decide
  · exact nI_pos (by omega)
  · exact nI_pos (by omega)
set_option maxRecDepth 4000 in
def insV (x0 : Int32) : Int32 := if x0 = 7 then 11 else if x0 = 26 then 9 else if x0 = 27 then 10 else if x0 = 28 then 12 else if x0 = 29 then 2 else if x0 = 30 then 15 else if x0 = 31 then 16 else if x0 = 32 then 15 else if x0 = 33 then 16 else if x0 = 42 then 36 else if x0 = 43 then 36 else x0
theorem ins_eq (x : Int32) (c : vmD) (Q : Int32 → vmD → Prop) : Instruction_insideOf x c Q = Q (insV x) c := by
  have hq : ∀ (p : Prop) [Decidable p] (a b : Int32), Q (if p then a else b) c = if p then Q a c else Q b c := by
    intro p _ a b
    split <;> rfl
  simp only [Instruction_insideOf, insV, hq]
theorem insV_b : ∀ j, j < 44 → insV (nI j) = nI (insV (nI j)).toNatClampNeg ∧ (insV (nI j)).toNatClampNeg < 107 := by decide +kernel
def nuS (kd op : Int32) : Int32 := if kd = 39 then (op >>> ((3 : Int32) &&& 31)) &&& 7 else if kd = 40 then op &&& 56 else (if (((op >>> ((3 : Int32) &&& 31)) &&& 7) - 1) < 0 then 0 else (((op >>> ((3 : Int32) &&& 31)) &&& 7) - 1))
def numT (kd op : Int32) : List Tt := if kd = 39 ∨ kd = 40 ∨ kd = 41 then litT (decL (nuS kd op).toNatClampNeg) else if kd = 38 then [(0, 3)] else if kd = 37 ∨ kd = 43 then [(0, 2)] else [(0, 1)]
def inC (nu di : Int32) : Tt → List Int32
  | (v, 0) => [v]
  | (_, 1) => decL nu.toNatClampNeg
  | (_, 2) => decL nu.toNatClampNeg
  | (_, 3) => decL nu.toNatClampNeg
  | (_, _) => (if di < 0 then 45 else 43) :: decL (absI di).toNatClampNeg
def flC (nu di : Int32) (L : List Tt) : List Int32 := L.flatMap (inC nu di)
theorem flC_app (nu di : Int32) (L1 L2 : List Tt) : flC nu di (L1 ++ L2) = flC nu di L1 ++ flC nu di L2 := List.flatMap_append
theorem flC_lit (nu di : Int32) (l : List Int32) : flC nu di (litT l) = l := by
  unfold flC litT
  induction l with
  | nil => rfl
  | cons v l ih =>
    rw [List.map_cons, List.flatMap_cons, ih]
    rfl
theorem flC_1 (nu di : Int32) (t : Tt) : flC nu di [t] = inC nu di t := List.append_nil _
theorem flC_num {nu di kd op : Int32} (h : kd = 39 ∨ kd = 40 ∨ kd = 41 → nu = nuS kd op) : flC nu di (numT kd op) = decL nu.toNatClampNeg := by
  unfold numT
  split
  · rename_i q
    rw [flC_lit, h q]
  · split
    · exact flC_1 _ _ _
    · split <;> exact flC_1 _ _ _
def tOp (kd op : Int32) : List Tt := (if insV kd = kd then [] else [(40, 0)]) ++ ((if Instruction_isNumber_v kd = 0 then litT (nameL (insV kd).toNatClampNeg) else numT kd op) ++ ((if Instruction_isNear_v kd = 0 then [] else [(0, 4)]) ++ (if insV kd = kd then [] else [(41, 0)])))
def tIns (w f e op : Int32) : List Tt := litT (nameL w.toNatClampNeg) ++ ((if (0 : Int32) < f then [(32, 0)] ++ tOp f op else []) ++ (if (0 : Int32) < e then [(44, 0)] ++ tOp e op else []))
def kdOk (x : Int32) : Prop := ∃ j, j < 44 ∧ x = nI j
theorem absJ (x : Int32) (h : dstOk x) : (if 0 ≤ x then x else 0 - x) = absI x := by
  obtain ⟨n, hn, rfl | rfl⟩ := h
  · unfold absI
    rw [if_pos (nI_pos' (by omega)), if_neg (nI_pos (by omega))]
  · have key : ∀ k, k < 129 → (if (0 : Int32) ≤ -(nI k) then -(nI k) else 0 - -(nI k)) = absI (-(nI k)) := by decide +kernel
    exact key n (by omega)
theorem CC.tW {c : vmD} (h : CC c) (o a : Nat) (K : Int32) (l : List Int32) (h1 : ¬ a = 16) (h2 : ¬ a = 17) (h3 : ¬ a = 18) : CC (tW o a K l c) := by
  unfold CC at h ⊢
  rw [tW_gL, tW_gA _ _ _ _ _ _ (fun q => h1 q.symm), tW_gA _ _ _ _ _ _ (fun q => h2 q.symm), tW_gA _ _ _ _ _ _ (fun q => h3 q.symm)]
  exact h
/-! into wri -/
theorem add_wri (c : vmD) (v : Int32) : Wc 13 14 32 (Text_add_wri v c) c [v] := by
  intro n Q hn hl hQ
  have e : tW 13 14 (nI 32) [v] c = tA1 13 14 (nI 32) v c := rfl
  rw [e] at hQ
  unfold tA1 byt at hQ
  unfold Text_add_wri
  rw [hn, if_neg (nI_pos (by omega))]
  rw [hn] at hQ
  by_cases h : nI n < 32
  · rw [if_pos (show nI n < nI 32 from h)] at hQ
    rw [if_pos h]
    have h2 : n < 32 := (nI_ltI (b := 32) (by omega) (by omega)).mp h
    refine ⟨nI_in h2 (by omega), ?_⟩
    refine bnd_iff.mpr (bnd_iff.mpr ?_)
    rw [gF_sA, hn]
    exact hQ
  · rw [if_neg (show ¬ nI n < nI 32 from h)] at hQ
    rw [if_neg h]
    exact hQ
theorem name_wri {c : vmD} (hC : CC c) {i : Nat} (hi : i < 107) : Wc 13 14 32 (Names_append_wri (nI i) c) c (nameL i) := by
  obtain ⟨t1, t2, t3, t4⟩ := tabN_ok i hi
  have key : ∀ (q j : Nat), j + q = 12 → ∀ (c : vmD) (n : Nat) (Q : vmD → Prop), gF c 13 1 = nI n → n ≤ 32 → Q (tW 13 14 (nI 32) ((nameL i).drop j) c) → ∃ m, Names_append_wri_27 Q m (tabN i) (nI j) c := by
    intro q
    induction q with
    | zero =>
      intro j hj c n Q hn hl hQ
      obtain rfl : j = 12 := by omega
      refine ⟨1, ?_⟩
      unfold Names_append_wri_27
      rw [if_neg (by decide)]
      rw [List.drop_eq_nil_of_le (by unfold nameL sgsL; rw [List.length_map, List.length_range]; exact t4)] at hQ
      exact hQ
    | succ q ih =>
      intro j hj c n Q hn hl hQ
      by_cases hm : j < kM (kK (tabN i))
      · unfold nameL at hQ
        rw [sgs_step hm] at hQ
        obtain ⟨m, hm2⟩ := ih (j + 1) (by omega) (tW 13 14 (nI 32) [sgnD (kK (tabN i) / 38 ^ (kM (kK (tabN i)) - 1 - j) % 38)] c) _ Q (tW_1 13 14 (by omega) _ _ _ hn hl) (by omega) hQ
        refine ⟨m + 1, ?_⟩
        unfold Names_append_wri_27
        rw [if_pos (show nI j < 12 from nI_lt (b := 12) (by omega) (by omega)), t1]
        refine signOf_at t2 t3 t4 hm ?_
        rw [if_neg (sgnD_nn _ (Nat.mod_lt _ (by omega)))]
        refine add_wri c _ n _ hn hl ?_
        unfold Names_append_wri_53
        refine bnd_iff.mpr ?_
        rw [nI_1, ← t1]
        exact hm2
      · have hd : ∀ k, kM (kK (tabN i)) ≤ k → (nameL i).drop k = [] := fun k hk => List.drop_eq_nil_of_le (by unfold nameL sgsL; rw [List.length_map, List.length_range]; exact hk)
        rw [hd j (by omega)] at hQ
        obtain ⟨m, hm2⟩ := ih (j + 1) (by omega) c n Q hn hl (by rw [hd (j + 1) (by omega)]; exact hQ)
        refine ⟨m + 1, ?_⟩
        unfold Names_append_wri_27
        rw [if_pos (show nI j < 12 from nI_lt (b := 12) (by omega) (by omega)), t1]
        refine signOf_no t2 t3 t4 (Or.inr (nI_nlt (by omega) (by omega))) ?_
        rw [if_pos (by decide)]
        unfold Names_append_wri_53
        refine bnd_iff.mpr ?_
        rw [nI_1, ← t1]
        exact hm2
  intro n Q hn hl hQ
  unfold Names_append_wri Names_append_wri_23
  rw [if_neg (nI_pos (by omega)), if_pos (show nI i < 107 from nI_lt (b := 107) hi (by omega))]
  refine ⟨nI_in hi (by omega), ?_⟩
  refine bnd_iff.mpr ?_
  rw [nI_clamp (by omega), hC.1 i hi]
  exact key 12 0 (by omega) c n Q hn hl hQ
theorem num_wri {x : Nat} (hx : x < 100000) (c : vmD) : Wc 13 14 32 (Text_addNumber_wri (nI x) c) c (decL x) := by
  have dig0 : ∀ k, k ≤ 4 → (nI x / nI (10 ^ k)) - (nI x / nI (10 ^ k)) / 10 * 10 = nI (x / 10 ^ k % 10) := fun k hk => dig_e (by omega) (p10 k hk).2 (p10 k hk).1
  have on : ∀ (k : Nat), k ≤ 4 → ∀ (c : vmD) (n : Nat) (Q : vmD → Prop), gF c 13 1 = nI n → n ≤ 32 → Q (tW 13 14 (nI 32) (dgs k x) c) → ∃ m, Text_addNumber_wri_6 Q m (nI x) 1 (nI (10 ^ k)) c := by
    intro k
    induction k with
    | zero =>
      intro hk c n Q hn hl hQ
      refine ⟨2, ?_⟩
      unfold Text_addNumber_wri_6
      rw [if_pos (by decide)]
      refine ⟨by decide, bnd_iff.mpr ?_⟩
      rw [dig0 0 (by omega), if_neg (by decide), Nat.pow_zero, Nat.div_one]
      unfold Text_addNumber_wri_32 Text_addNumber_wri_37
      rw [if_neg (by decide), show (48 : Int32) + nI (x % 10) = nI (48 + x % 10) from nI_add 48 _]
      refine add_wri c _ n _ hn hl ?_
      unfold Text_addNumber_wri_51
      refine bnd_iff.mpr ?_
      unfold Text_addNumber_wri_6
      rw [if_neg (by decide)]
      exact hQ
    | succ k ih =>
      intro hk c n Q hn hl hQ
      have hp := p10 (k + 1) hk
      obtain ⟨m, hm⟩ := ih (by omega) (tW 13 14 (nI 32) [nI (48 + x / 10 ^ (k + 1) % 10)] c) _ Q (tW_1 13 14 (by omega) _ _ _ hn hl) (by omega) hQ
      refine ⟨m + 1, ?_⟩
      unfold Text_addNumber_wri_6
      rw [if_pos (show (0 : Int32) < nI (10 ^ (k + 1)) from nI_lt (a := 0) hp.2 hp.1)]
      refine ⟨nI_ne0 hp.2 hp.1, bnd_iff.mpr ?_⟩
      rw [dig0 (k + 1) hk, if_neg (by decide)]
      unfold Text_addNumber_wri_32 Text_addNumber_wri_37
      rw [if_neg (by decide), show (48 : Int32) + nI (x / 10 ^ (k + 1) % 10) = nI (48 + x / 10 ^ (k + 1) % 10) from nI_add 48 _]
      refine add_wri c _ n _ hn hl ?_
      unfold Text_addNumber_wri_51
      refine bnd_iff.mpr ?_
      rw [p10d k (by omega)]
      exact hm
  have off : ∀ (k : Nat), k ≤ 4 → x < 10 ^ k * 10 → ∀ (c : vmD) (n : Nat) (Q : vmD → Prop), gF c 13 1 = nI n → n ≤ 32 → Q (tW 13 14 (nI 32) (decL x) c) → ∃ m, Text_addNumber_wri_6 Q m (nI x) 0 (nI (10 ^ k)) c := by
    intro k
    induction k with
    | zero =>
      intro hk hxk c n Q hn hl hQ
      have hx10 : x < 10 := by omega
      have e0 : decL x = dgs 0 x := by unfold decL ndg; rw [if_pos hx10]
      rw [e0] at hQ
      refine ⟨2, ?_⟩
      unfold Text_addNumber_wri_6
      rw [if_pos (by decide)]
      refine ⟨by decide, bnd_iff.mpr ?_⟩
      have fin : Text_addNumber_wri_32 (Text_addNumber_wri_6 Q 1) (nI x) (nI (10 ^ 0)) (nI (x % 10)) c Q := by
        unfold Text_addNumber_wri_32 Text_addNumber_wri_37
        rw [if_neg (by decide), show (48 : Int32) + nI (x % 10) = nI (48 + x % 10) from nI_add 48 _]
        refine add_wri c _ n _ hn hl ?_
        unfold Text_addNumber_wri_51
        refine bnd_iff.mpr ?_
        unfold Text_addNumber_wri_6
        rw [if_neg (by decide)]
        exact hQ
      rw [dig0 0 (by omega), if_pos rfl, Nat.pow_zero, Nat.div_one]
      rw [Nat.pow_zero] at fin
      split
      · exact fin
      · rw [if_pos (by decide)]
        exact fin
    | succ k ih =>
      intro hk hxk c n Q hn hl hQ
      have hp := p10 (k + 1) hk
      have hlt : x / 10 ^ (k + 1) < 10 := (Nat.div_lt_iff_lt_mul hp.2).mpr (by omega)
      by_cases h0 : 0 < x / 10 ^ (k + 1)
      · have e0 : decL x = dgs (k + 1) x := by
          unfold decL
          have q1 := ndg_dn hk (show ¬ 9 < x / 10 ^ (k + 1) by omega) hx
          have q2 : k + 1 ≤ ndg x := ndg_up (by omega) (by
            rw [show 10 ^ (k + 1) = 10 ^ k * 10 from Nat.pow_succ _ _, ← Nat.div_div_eq_div_mul] at h0
            omega) hx
          rw [Nat.le_antisymm q1 q2]
        rw [e0] at hQ
        obtain ⟨m, hm⟩ := on k (by omega) (tW 13 14 (nI 32) [nI (48 + x / 10 ^ (k + 1) % 10)] c) _ Q (tW_1 13 14 (by omega) _ _ _ hn hl) (by omega) hQ
        refine ⟨m + 1, ?_⟩
        unfold Text_addNumber_wri_6
        rw [if_pos (show (0 : Int32) < nI (10 ^ (k + 1)) from nI_lt (a := 0) hp.2 hp.1)]
        refine ⟨nI_ne0 hp.2 hp.1, bnd_iff.mpr ?_⟩
        rw [dig0 (k + 1) hk, if_pos rfl, if_pos (show (0 : Int32) < nI (x / 10 ^ (k + 1) % 10) from nI_lt (a := 0) (by omega) (by omega))]
        unfold Text_addNumber_wri_32 Text_addNumber_wri_37
        rw [if_neg (by decide), show (48 : Int32) + nI (x / 10 ^ (k + 1) % 10) = nI (48 + x / 10 ^ (k + 1) % 10) from nI_add 48 _]
        refine add_wri c _ n _ hn hl ?_
        unfold Text_addNumber_wri_51
        refine bnd_iff.mpr ?_
        rw [p10d k (by omega)]
        exact hm
      · have hxk2 : x < 10 ^ k * 10 := by
          have : ¬ 10 ^ (k + 1) ≤ x := fun q => h0 (Nat.div_pos q hp.2)
          rw [Nat.pow_succ] at this
          omega
        obtain ⟨m, hm⟩ := ih (by omega) hxk2 c n Q hn hl hQ
        refine ⟨m + 1, ?_⟩
        unfold Text_addNumber_wri_6
        rw [if_pos (show (0 : Int32) < nI (10 ^ (k + 1)) from nI_lt (a := 0) hp.2 hp.1)]
        refine ⟨nI_ne0 hp.2 hp.1, bnd_iff.mpr ?_⟩
        have hne : ¬ nI (10 ^ (k + 1)) = 1 := fun q => by
          have := (nI_eq (b := 1) hp.1 (by omega)).mp q
          have h2 := (p10 k (by omega)).2
          rw [Nat.pow_succ] at this
          omega
        rw [dig0 (k + 1) hk, if_pos rfl, show x / 10 ^ (k + 1) % 10 = 0 by rw [Nat.eq_zero_of_not_pos h0], if_neg (by decide), if_neg hne]
        unfold Text_addNumber_wri_37 Text_addNumber_wri_51
        rw [if_pos rfl]
        refine bnd_iff.mpr ?_
        rw [p10d k (by omega)]
        exact hm
  intro n Q hn hl hQ
  unfold Text_addNumber_wri
  exact off 4 (by omega) (by omega) c n Q hn hl hQ
theorem oper_wri {c : vmD} (hC : CC c) {kd op nu di : Int32} (hk : kdOk kd) (hnu : gF c 19 9 = nu) (hdi : gF c 19 8 = di) (hn5 : nb5 nu) (hd : Instruction_isNear_v kd = 0 ∨ dstOk di) (hs : kd = 39 ∨ kd = 40 ∨ kd = 41 → nu = nuS kd op) : Wc 13 14 32 (Instruction_appendOperand_wri kd c) c (flC nu di (tOp kd op)) := by
  have stC : ∀ (c : vmD), CC c → ∀ l, CC (tW 13 14 (nI 32) l c) := fun c h l => h.tW _ _ _ _ (by decide) (by decide) (by decide)
  have st19 : ∀ (c : vmD) l, gF (tW 13 14 (nI 32) l c) 19 = gF c 19 := fun c l => tW_gF _ _ _ _ _ _ (by decide)
  obtain ⟨j, hj, rfl⟩ := hk
  obtain ⟨i1, i2⟩ := insV_b j hj
  have h91 : ∀ (x4 : Int32) (c : vmD), Wc 13 14 32 (Instruction_appendOperand_wri_91 x4 c) c (if x4 = 0 then [] else [41]) := by
    intro x4 c
    unfold Instruction_appendOperand_wri_91
    exact wc_ite (fun _ => wc_nil) (fun _ => add_wri c 41)
  have h55 : ∀ (x4 : Int32) (c : vmD), gF c 19 8 = di → Wc 13 14 32 (Instruction_appendOperand_wri_55 (nI j) x4 c) c ((if Instruction_isNear_v (nI j) = 0 then [] else (if di < 0 then 45 else 43) :: decL (absI di).toNatClampNeg) ++ (if x4 = 0 then [] else [41])) := by
    intro x4 c hc8
    unfold Instruction_appendOperand_wri_55
    simp only [Instruction_isNear_e]
    rw [show ((if Instruction_isNear_v (nI j) = 0 then [] else (if di < 0 then 45 else 43) :: decL (absI di).toNatClampNeg) ++ (if x4 = 0 then [] else [41])) = (if Instruction_isNear_v (nI j) = 0 then (if x4 = 0 then [] else [41]) else ((if di < 0 then 45 else 43) :: decL (absI di).toNatClampNeg) ++ (if x4 = 0 then [] else [41])) by
      split
      · rfl
      · rfl]
    refine wc_ite (fun _ => h91 _ _) (fun hnear => ?_)
    have hdd := hd.resolve_left hnear
    have h77 : ∀ v : Int32, Wc 13 14 32 (Instruction_appendOperand_wri_77 x4 v c) c ((v :: decL (absI di).toNatClampNeg) ++ (if x4 = 0 then [] else [41])) := by
      intro v
      unfold Instruction_appendOperand_wri_77
      rw [show (v :: decL (absI di).toNatClampNeg) ++ (if x4 = 0 then [] else [41]) = [v] ++ (decL (absI di).toNatClampNeg ++ (if x4 = 0 then [] else [41])) from rfl]
      refine wc_seq (by omega) (add_wri _ _) (fun c2 e2 => ?_)
      have h8 : gF c2 19 8 = di := by rw [e2, st19]; exact hc8
      rw [h8, absJ _ hdd]
      obtain ⟨m, hm, em⟩ := dst_nb hdd
      rw [em, nI_clamp (by omega)]
      refine wc_seq (by omega) (num_wri hm _) (fun c3 e3 => h91 _ _)
    rw [hc8]
    by_cases q : di < 0
    · simp only [if_pos q]
      exact h77 45
    · simp only [if_neg q]
      exact h77 43
  have h28 : ∀ (x4 : Int32) (c : vmD), CC c → gF c 19 9 = nu → gF c 19 8 = di → Wc 13 14 32 (Instruction_appendOperand_wri_28 (nI j) (insV (nI j)) x4 c) c ((if Instruction_isNumber_v (nI j) = 0 then nameL (insV (nI j)).toNatClampNeg else decL nu.toNatClampNeg) ++ ((if Instruction_isNear_v (nI j) = 0 then [] else (if di < 0 then 45 else 43) :: decL (absI di).toNatClampNeg) ++ (if x4 = 0 then [] else [41]))) := by
    intro x4 c hC hc9 hc8
    unfold Instruction_appendOperand_wri_28
    simp only [Instruction_isNumber_e]
    by_cases q : Instruction_isNumber_v (nI j) = 0
    · simp only [if_pos q]
      have hnm := name_wri hC i2
      rw [← i1] at hnm
      refine wc_seq (by omega) hnm (fun c2 e2 => h55 _ _ ?_)
      rw [e2, st19]
      exact hc8
    · simp only [if_neg q]
      rw [hc9]
      obtain ⟨m, hm, em⟩ := hn5
      rw [em, nI_clamp (by omega)]
      refine wc_seq (by omega) (num_wri hm _) (fun c2 e2 => h55 _ _ ?_)
      rw [e2, st19]
      exact hc8
  have efl : flC nu di (tOp (nI j) op) = (if insV (nI j) = nI j then [] else [40]) ++ ((if Instruction_isNumber_v (nI j) = 0 then nameL (insV (nI j)).toNatClampNeg else decL nu.toNatClampNeg) ++ ((if Instruction_isNear_v (nI j) = 0 then [] else (if di < 0 then 45 else 43) :: decL (absI di).toNatClampNeg) ++ (if insV (nI j) = nI j then [] else [41]))) := by
    unfold tOp
    rw [flC_app, flC_app, flC_app]
    congr 1
    · split <;> rfl
    congr 1
    · split
      · exact flC_lit _ _ _
      · exact flC_num hs
    congr 1
    · split
      · rfl
      · exact flC_1 _ _ _
    · split <;> rfl
  rw [efl]
  unfold Instruction_appendOperand_wri Instruction_appendOperand_wri_15
  simp only [ins_eq]
  by_cases q : insV (nI j) = nI j
  · simp only [if_pos q]
    have := h28 0 c hC hnu hdi
    simp only [if_true] at this
    rw [q] at this ⊢
    exact this
  · simp only [if_neg q]
    simp only [show ((1 : Int32) = 0) = False from eq_false (by decide), if_false]
    refine wc_seq (by omega) (add_wri _ _) (fun c2 e2 => ?_)
    have := h28 1 c2 (e2 ▸ stC _ hC _) (by rw [e2, st19]; exact hnu) (by rw [e2, st19]; exact hdi)
    simp only [show ((1 : Int32) = 0) = False from eq_false (by decide), if_false] at this
    exact this
theorem ins_wri {c : vmD} (hC : CC c) {i : Nat} (hi : i < 107) {f e op nu di : Int32} (h5 : gF c 19 5 = nI i) (h6 : gF c 19 6 = f) (h7 : gF c 19 7 = e) (hf : kdOk f) (he : kdOk e) (hnu : gF c 19 9 = nu) (hdi : gF c 19 8 = di) (hn5 : nb5 nu) (hd : (Instruction_isNear_v f = 0 ∧ Instruction_isNear_v e = 0) ∨ dstOk di) (hs : ∀ kd, kd = f ∨ kd = e → kd = 39 ∨ kd = 40 ∨ kd = 41 → nu = nuS kd op) : Wc 13 14 32 (Instruction_appendTo_wri c) c (flC nu di (tIns (nI i) f e op)) := by
  have stC : ∀ (c : vmD), CC c → ∀ l, CC (tW 13 14 (nI 32) l c) := fun c h l => h.tW _ _ _ _ (by decide) (by decide) (by decide)
  have st19 : ∀ (c : vmD) l, gF (tW 13 14 (nI 32) l c) 19 = gF c 19 := fun c l => tW_gF _ _ _ _ _ _ (by decide)
  have h34 : ∀ (c : vmD), CC c → gF c 19 7 = e → gF c 19 9 = nu → gF c 19 8 = di → Wc 13 14 32 (Instruction_appendTo_wri_34 c) c (if (0 : Int32) < e then [44] ++ flC nu di (tOp e op) else []) := by
    intro c hC g7 g9 g8
    unfold Instruction_appendTo_wri_34
    rw [g7]
    refine wc_ite (fun _ => ?_) (fun _ => wc_nil)
    refine wc_seq (by omega) (add_wri _ _) (fun c2 e2 => ?_)
    have q : gF c2 19 = gF c 19 := by rw [e2, st19]
    rw [q, g7]
    exact oper_wri (e2 ▸ stC _ hC _) he (by rw [q]; exact g9) (by rw [q]; exact g8) hn5 (hd.imp (fun h => h.2) id) (hs e (Or.inr rfl))
  have efl : flC nu di (tIns (nI i) f e op) = nameL i ++ ((if (0 : Int32) < f then [32] ++ flC nu di (tOp f op) else []) ++ (if (0 : Int32) < e then [44] ++ flC nu di (tOp e op) else [])) := by
    unfold tIns
    rw [flC_app, flC_app, flC_lit, nI_clamp (by omega)]
    congr 1
    congr 1
    · split
      · rw [flC_app]; rfl
      · rfl
    · split
      · rw [flC_app]; rfl
      · rfl
  rw [efl]
  unfold Instruction_appendTo_wri
  rw [h5]
  refine wc_seq (by omega) (name_wri hC hi) (fun c1 e1 => ?_)
  have q1 : gF c1 19 = gF c 19 := by rw [e1, st19]
  have C1 : CC c1 := e1 ▸ stC _ hC _
  rw [q1, h6]
  by_cases hf0 : (0 : Int32) < f
  · simp only [if_pos hf0]
    rw [List.append_assoc]
    refine wc_seq (by omega) (add_wri _ _) (fun c2 e2 => ?_)
    have q2 : gF c2 19 = gF c 19 := by rw [e2, st19, q1]
    have C2 : CC c2 := e2 ▸ stC _ C1 _
    rw [q2, h6]
    refine wc_seq (by omega) (oper_wri C2 hf (by rw [q2]; exact hnu) (by rw [q2]; exact hdi) hn5 (hd.imp (fun h => h.1) id) (hs f (Or.inl rfl))) (fun c3 e3 => ?_)
    have q3 : gF c3 19 = gF c 19 := by rw [e3, st19, q2]
    exact h34 c3 (e3 ▸ stC _ C2 _) (by rw [q3]; exact h7) (by rw [q3]; exact hnu) (by rw [q3]; exact hdi)
  · simp only [if_neg hf0]
    rw [List.nil_append]
    exact h34 c1 C1 (by rw [q1]; exact h7) (by rw [q1]; exact hnu) (by rw [q1]; exact hdi)
/-! into dra -/
theorem add_dra (c : vmD) (v : Int32) : Wc 11 12 6001 (Text_add_dra v c) c [v] := by
  intro n Q hn hl hQ
  have e : tW 11 12 (nI 6001) [v] c = tA1 11 12 (nI 6001) v c := rfl
  rw [e] at hQ
  unfold tA1 byt at hQ
  unfold Text_add_dra
  rw [hn, if_neg (nI_pos (by omega))]
  rw [hn] at hQ
  by_cases h : nI n < 6001
  · rw [if_pos (show nI n < nI 6001 from h)] at hQ
    rw [if_pos h]
    have h2 : n < 6001 := (nI_ltI (b := 6001) (by omega) (by omega)).mp h
    refine ⟨nI_in h2 (by omega), ?_⟩
    refine bnd_iff.mpr (bnd_iff.mpr ?_)
    rw [gF_sA, hn]
    exact hQ
  · rw [if_neg (show ¬ nI n < nI 6001 from h)] at hQ
    rw [if_neg h]
    exact hQ
theorem name_dra {c : vmD} (hC : CC c) {i : Nat} (hi : i < 107) : Wc 11 12 6001 (Names_append_dra (nI i) c) c (nameL i) := by
  obtain ⟨t1, t2, t3, t4⟩ := tabN_ok i hi
  have key : ∀ (q j : Nat), j + q = 12 → ∀ (c : vmD) (n : Nat) (Q : vmD → Prop), gF c 11 1 = nI n → n ≤ 6001 → Q (tW 11 12 (nI 6001) ((nameL i).drop j) c) → ∃ m, Names_append_dra_27 Q m (tabN i) (nI j) c := by
    intro q
    induction q with
    | zero =>
      intro j hj c n Q hn hl hQ
      obtain rfl : j = 12 := by omega
      refine ⟨1, ?_⟩
      unfold Names_append_dra_27
      rw [if_neg (by decide)]
      rw [List.drop_eq_nil_of_le (by unfold nameL sgsL; rw [List.length_map, List.length_range]; exact t4)] at hQ
      exact hQ
    | succ q ih =>
      intro j hj c n Q hn hl hQ
      by_cases hm : j < kM (kK (tabN i))
      · unfold nameL at hQ
        rw [sgs_step hm] at hQ
        obtain ⟨m, hm2⟩ := ih (j + 1) (by omega) (tW 11 12 (nI 6001) [sgnD (kK (tabN i) / 38 ^ (kM (kK (tabN i)) - 1 - j) % 38)] c) _ Q (tW_1 11 12 (by omega) _ _ _ hn hl) (by omega) hQ
        refine ⟨m + 1, ?_⟩
        unfold Names_append_dra_27
        rw [if_pos (show nI j < 12 from nI_lt (b := 12) (by omega) (by omega)), t1]
        refine signOf_at t2 t3 t4 hm ?_
        rw [if_neg (sgnD_nn _ (Nat.mod_lt _ (by omega)))]
        refine add_dra c _ n _ hn hl ?_
        unfold Names_append_dra_53
        refine bnd_iff.mpr ?_
        rw [nI_1, ← t1]
        exact hm2
      · have hd : ∀ k, kM (kK (tabN i)) ≤ k → (nameL i).drop k = [] := fun k hk => List.drop_eq_nil_of_le (by unfold nameL sgsL; rw [List.length_map, List.length_range]; exact hk)
        rw [hd j (by omega)] at hQ
        obtain ⟨m, hm2⟩ := ih (j + 1) (by omega) c n Q hn hl (by rw [hd (j + 1) (by omega)]; exact hQ)
        refine ⟨m + 1, ?_⟩
        unfold Names_append_dra_27
        rw [if_pos (show nI j < 12 from nI_lt (b := 12) (by omega) (by omega)), t1]
        refine signOf_no t2 t3 t4 (Or.inr (nI_nlt (by omega) (by omega))) ?_
        rw [if_pos (by decide)]
        unfold Names_append_dra_53
        refine bnd_iff.mpr ?_
        rw [nI_1, ← t1]
        exact hm2
  intro n Q hn hl hQ
  unfold Names_append_dra Names_append_dra_23
  rw [if_neg (nI_pos (by omega)), if_pos (show nI i < 107 from nI_lt (b := 107) hi (by omega))]
  refine ⟨nI_in hi (by omega), ?_⟩
  refine bnd_iff.mpr ?_
  rw [nI_clamp (by omega), hC.1 i hi]
  exact key 12 0 (by omega) c n Q hn hl hQ
theorem num_dra {x : Nat} (hx : x < 100000) (c : vmD) : Wc 11 12 6001 (Text_addNumber_dra (nI x) c) c (decL x) := by
  have dig0 : ∀ k, k ≤ 4 → (nI x / nI (10 ^ k)) - (nI x / nI (10 ^ k)) / 10 * 10 = nI (x / 10 ^ k % 10) := fun k hk => dig_e (by omega) (p10 k hk).2 (p10 k hk).1
  have on : ∀ (k : Nat), k ≤ 4 → ∀ (c : vmD) (n : Nat) (Q : vmD → Prop), gF c 11 1 = nI n → n ≤ 6001 → Q (tW 11 12 (nI 6001) (dgs k x) c) → ∃ m, Text_addNumber_dra_6 Q m (nI x) 1 (nI (10 ^ k)) c := by
    intro k
    induction k with
    | zero =>
      intro hk c n Q hn hl hQ
      refine ⟨2, ?_⟩
      unfold Text_addNumber_dra_6
      rw [if_pos (by decide)]
      refine ⟨by decide, bnd_iff.mpr ?_⟩
      rw [dig0 0 (by omega), if_neg (by decide), Nat.pow_zero, Nat.div_one]
      unfold Text_addNumber_dra_32 Text_addNumber_dra_37
      rw [if_neg (by decide), show (48 : Int32) + nI (x % 10) = nI (48 + x % 10) from nI_add 48 _]
      refine add_dra c _ n _ hn hl ?_
      unfold Text_addNumber_dra_51
      refine bnd_iff.mpr ?_
      unfold Text_addNumber_dra_6
      rw [if_neg (by decide)]
      exact hQ
    | succ k ih =>
      intro hk c n Q hn hl hQ
      have hp := p10 (k + 1) hk
      obtain ⟨m, hm⟩ := ih (by omega) (tW 11 12 (nI 6001) [nI (48 + x / 10 ^ (k + 1) % 10)] c) _ Q (tW_1 11 12 (by omega) _ _ _ hn hl) (by omega) hQ
      refine ⟨m + 1, ?_⟩
      unfold Text_addNumber_dra_6
      rw [if_pos (show (0 : Int32) < nI (10 ^ (k + 1)) from nI_lt (a := 0) hp.2 hp.1)]
      refine ⟨nI_ne0 hp.2 hp.1, bnd_iff.mpr ?_⟩
      rw [dig0 (k + 1) hk, if_neg (by decide)]
      unfold Text_addNumber_dra_32 Text_addNumber_dra_37
      rw [if_neg (by decide), show (48 : Int32) + nI (x / 10 ^ (k + 1) % 10) = nI (48 + x / 10 ^ (k + 1) % 10) from nI_add 48 _]
      refine add_dra c _ n _ hn hl ?_
      unfold Text_addNumber_dra_51
      refine bnd_iff.mpr ?_
      rw [p10d k (by omega)]
      exact hm
  have off : ∀ (k : Nat), k ≤ 4 → x < 10 ^ k * 10 → ∀ (c : vmD) (n : Nat) (Q : vmD → Prop), gF c 11 1 = nI n → n ≤ 6001 → Q (tW 11 12 (nI 6001) (decL x) c) → ∃ m, Text_addNumber_dra_6 Q m (nI x) 0 (nI (10 ^ k)) c := by
    intro k
    induction k with
    | zero =>
      intro hk hxk c n Q hn hl hQ
      have hx10 : x < 10 := by omega
      have e0 : decL x = dgs 0 x := by unfold decL ndg; rw [if_pos hx10]
      rw [e0] at hQ
      refine ⟨2, ?_⟩
      unfold Text_addNumber_dra_6
      rw [if_pos (by decide)]
      refine ⟨by decide, bnd_iff.mpr ?_⟩
      have fin : Text_addNumber_dra_32 (Text_addNumber_dra_6 Q 1) (nI x) (nI (10 ^ 0)) (nI (x % 10)) c Q := by
        unfold Text_addNumber_dra_32 Text_addNumber_dra_37
        rw [if_neg (by decide), show (48 : Int32) + nI (x % 10) = nI (48 + x % 10) from nI_add 48 _]
        refine add_dra c _ n _ hn hl ?_
        unfold Text_addNumber_dra_51
        refine bnd_iff.mpr ?_
        unfold Text_addNumber_dra_6
        rw [if_neg (by decide)]
        exact hQ
      rw [dig0 0 (by omega), if_pos rfl, Nat.pow_zero, Nat.div_one]
      rw [Nat.pow_zero] at fin
      split
      · exact fin
      · rw [if_pos (by decide)]
        exact fin
    | succ k ih =>
      intro hk hxk c n Q hn hl hQ
      have hp := p10 (k + 1) hk
      have hlt : x / 10 ^ (k + 1) < 10 := (Nat.div_lt_iff_lt_mul hp.2).mpr (by omega)
      by_cases h0 : 0 < x / 10 ^ (k + 1)
      · have e0 : decL x = dgs (k + 1) x := by
          unfold decL
          have q1 := ndg_dn hk (show ¬ 9 < x / 10 ^ (k + 1) by omega) hx
          have q2 : k + 1 ≤ ndg x := ndg_up (by omega) (by
            rw [show 10 ^ (k + 1) = 10 ^ k * 10 from Nat.pow_succ _ _, ← Nat.div_div_eq_div_mul] at h0
            omega) hx
          rw [Nat.le_antisymm q1 q2]
        rw [e0] at hQ
        obtain ⟨m, hm⟩ := on k (by omega) (tW 11 12 (nI 6001) [nI (48 + x / 10 ^ (k + 1) % 10)] c) _ Q (tW_1 11 12 (by omega) _ _ _ hn hl) (by omega) hQ
        refine ⟨m + 1, ?_⟩
        unfold Text_addNumber_dra_6
        rw [if_pos (show (0 : Int32) < nI (10 ^ (k + 1)) from nI_lt (a := 0) hp.2 hp.1)]
        refine ⟨nI_ne0 hp.2 hp.1, bnd_iff.mpr ?_⟩
        rw [dig0 (k + 1) hk, if_pos rfl, if_pos (show (0 : Int32) < nI (x / 10 ^ (k + 1) % 10) from nI_lt (a := 0) (by omega) (by omega))]
        unfold Text_addNumber_dra_32 Text_addNumber_dra_37
        rw [if_neg (by decide), show (48 : Int32) + nI (x / 10 ^ (k + 1) % 10) = nI (48 + x / 10 ^ (k + 1) % 10) from nI_add 48 _]
        refine add_dra c _ n _ hn hl ?_
        unfold Text_addNumber_dra_51
        refine bnd_iff.mpr ?_
        rw [p10d k (by omega)]
        exact hm
      · have hxk2 : x < 10 ^ k * 10 := by
          have : ¬ 10 ^ (k + 1) ≤ x := fun q => h0 (Nat.div_pos q hp.2)
          rw [Nat.pow_succ] at this
          omega
        obtain ⟨m, hm⟩ := ih (by omega) hxk2 c n Q hn hl hQ
        refine ⟨m + 1, ?_⟩
        unfold Text_addNumber_dra_6
        rw [if_pos (show (0 : Int32) < nI (10 ^ (k + 1)) from nI_lt (a := 0) hp.2 hp.1)]
        refine ⟨nI_ne0 hp.2 hp.1, bnd_iff.mpr ?_⟩
        have hne : ¬ nI (10 ^ (k + 1)) = 1 := fun q => by
          have := (nI_eq (b := 1) hp.1 (by omega)).mp q
          have h2 := (p10 k (by omega)).2
          rw [Nat.pow_succ] at this
          omega
        rw [dig0 (k + 1) hk, if_pos rfl, show x / 10 ^ (k + 1) % 10 = 0 by rw [Nat.eq_zero_of_not_pos h0], if_neg (by decide), if_neg hne]
        unfold Text_addNumber_dra_37 Text_addNumber_dra_51
        rw [if_pos rfl]
        refine bnd_iff.mpr ?_
        rw [p10d k (by omega)]
        exact hm
  intro n Q hn hl hQ
  unfold Text_addNumber_dra
  exact off 4 (by omega) (by omega) c n Q hn hl hQ
theorem oper_dra {c : vmD} (hC : CC c) {kd op nu di : Int32} (hk : kdOk kd) (hnu : gF c 19 9 = nu) (hdi : gF c 19 8 = di) (hn5 : nb5 nu) (hd : Instruction_isNear_v kd = 0 ∨ dstOk di) (hs : kd = 39 ∨ kd = 40 ∨ kd = 41 → nu = nuS kd op) : Wc 11 12 6001 (Instruction_appendOperand_dra kd c) c (flC nu di (tOp kd op)) := by
  have stC : ∀ (c : vmD), CC c → ∀ l, CC (tW 11 12 (nI 6001) l c) := fun c h l => h.tW _ _ _ _ (by decide) (by decide) (by decide)
  have st19 : ∀ (c : vmD) l, gF (tW 11 12 (nI 6001) l c) 19 = gF c 19 := fun c l => tW_gF _ _ _ _ _ _ (by decide)
  obtain ⟨j, hj, rfl⟩ := hk
  obtain ⟨i1, i2⟩ := insV_b j hj
  have h91 : ∀ (x4 : Int32) (c : vmD), Wc 11 12 6001 (Instruction_appendOperand_dra_91 x4 c) c (if x4 = 0 then [] else [41]) := by
    intro x4 c
    unfold Instruction_appendOperand_dra_91
    exact wc_ite (fun _ => wc_nil) (fun _ => add_dra c 41)
  have h55 : ∀ (x4 : Int32) (c : vmD), gF c 19 8 = di → Wc 11 12 6001 (Instruction_appendOperand_dra_55 (nI j) x4 c) c ((if Instruction_isNear_v (nI j) = 0 then [] else (if di < 0 then 45 else 43) :: decL (absI di).toNatClampNeg) ++ (if x4 = 0 then [] else [41])) := by
    intro x4 c hc8
    unfold Instruction_appendOperand_dra_55
    simp only [Instruction_isNear_e]
    rw [show ((if Instruction_isNear_v (nI j) = 0 then [] else (if di < 0 then 45 else 43) :: decL (absI di).toNatClampNeg) ++ (if x4 = 0 then [] else [41])) = (if Instruction_isNear_v (nI j) = 0 then (if x4 = 0 then [] else [41]) else ((if di < 0 then 45 else 43) :: decL (absI di).toNatClampNeg) ++ (if x4 = 0 then [] else [41])) by
      split
      · rfl
      · rfl]
    refine wc_ite (fun _ => h91 _ _) (fun hnear => ?_)
    have hdd := hd.resolve_left hnear
    have h77 : ∀ v : Int32, Wc 11 12 6001 (Instruction_appendOperand_dra_77 x4 v c) c ((v :: decL (absI di).toNatClampNeg) ++ (if x4 = 0 then [] else [41])) := by
      intro v
      unfold Instruction_appendOperand_dra_77
      rw [show (v :: decL (absI di).toNatClampNeg) ++ (if x4 = 0 then [] else [41]) = [v] ++ (decL (absI di).toNatClampNeg ++ (if x4 = 0 then [] else [41])) from rfl]
      refine wc_seq (by omega) (add_dra _ _) (fun c2 e2 => ?_)
      have h8 : gF c2 19 8 = di := by rw [e2, st19]; exact hc8
      rw [h8, absJ _ hdd]
      obtain ⟨m, hm, em⟩ := dst_nb hdd
      rw [em, nI_clamp (by omega)]
      refine wc_seq (by omega) (num_dra hm _) (fun c3 e3 => h91 _ _)
    rw [hc8]
    by_cases q : di < 0
    · simp only [if_pos q]
      exact h77 45
    · simp only [if_neg q]
      exact h77 43
  have h28 : ∀ (x4 : Int32) (c : vmD), CC c → gF c 19 9 = nu → gF c 19 8 = di → Wc 11 12 6001 (Instruction_appendOperand_dra_28 (nI j) (insV (nI j)) x4 c) c ((if Instruction_isNumber_v (nI j) = 0 then nameL (insV (nI j)).toNatClampNeg else decL nu.toNatClampNeg) ++ ((if Instruction_isNear_v (nI j) = 0 then [] else (if di < 0 then 45 else 43) :: decL (absI di).toNatClampNeg) ++ (if x4 = 0 then [] else [41]))) := by
    intro x4 c hC hc9 hc8
    unfold Instruction_appendOperand_dra_28
    simp only [Instruction_isNumber_e]
    by_cases q : Instruction_isNumber_v (nI j) = 0
    · simp only [if_pos q]
      have hnm := name_dra hC i2
      rw [← i1] at hnm
      refine wc_seq (by omega) hnm (fun c2 e2 => h55 _ _ ?_)
      rw [e2, st19]
      exact hc8
    · simp only [if_neg q]
      rw [hc9]
      obtain ⟨m, hm, em⟩ := hn5
      rw [em, nI_clamp (by omega)]
      refine wc_seq (by omega) (num_dra hm _) (fun c2 e2 => h55 _ _ ?_)
      rw [e2, st19]
      exact hc8
  have efl : flC nu di (tOp (nI j) op) = (if insV (nI j) = nI j then [] else [40]) ++ ((if Instruction_isNumber_v (nI j) = 0 then nameL (insV (nI j)).toNatClampNeg else decL nu.toNatClampNeg) ++ ((if Instruction_isNear_v (nI j) = 0 then [] else (if di < 0 then 45 else 43) :: decL (absI di).toNatClampNeg) ++ (if insV (nI j) = nI j then [] else [41]))) := by
    unfold tOp
    rw [flC_app, flC_app, flC_app]
    congr 1
    · split <;> rfl
    congr 1
    · split
      · exact flC_lit _ _ _
      · exact flC_num hs
    congr 1
    · split
      · rfl
      · exact flC_1 _ _ _
    · split <;> rfl
  rw [efl]
  unfold Instruction_appendOperand_dra Instruction_appendOperand_dra_15
  simp only [ins_eq]
  by_cases q : insV (nI j) = nI j
  · simp only [if_pos q]
    have := h28 0 c hC hnu hdi
    simp only [if_true] at this
    rw [q] at this ⊢
    exact this
  · simp only [if_neg q]
    simp only [show ((1 : Int32) = 0) = False from eq_false (by decide), if_false]
    refine wc_seq (by omega) (add_dra _ _) (fun c2 e2 => ?_)
    have := h28 1 c2 (e2 ▸ stC _ hC _) (by rw [e2, st19]; exact hnu) (by rw [e2, st19]; exact hdi)
    simp only [show ((1 : Int32) = 0) = False from eq_false (by decide), if_false] at this
    exact this
theorem ins_dra {c : vmD} (hC : CC c) {i : Nat} (hi : i < 107) {f e op nu di : Int32} (h5 : gF c 19 5 = nI i) (h6 : gF c 19 6 = f) (h7 : gF c 19 7 = e) (hf : kdOk f) (he : kdOk e) (hnu : gF c 19 9 = nu) (hdi : gF c 19 8 = di) (hn5 : nb5 nu) (hd : (Instruction_isNear_v f = 0 ∧ Instruction_isNear_v e = 0) ∨ dstOk di) (hs : ∀ kd, kd = f ∨ kd = e → kd = 39 ∨ kd = 40 ∨ kd = 41 → nu = nuS kd op) : Wc 11 12 6001 (Instruction_appendTo_dra c) c (flC nu di (tIns (nI i) f e op)) := by
  have stC : ∀ (c : vmD), CC c → ∀ l, CC (tW 11 12 (nI 6001) l c) := fun c h l => h.tW _ _ _ _ (by decide) (by decide) (by decide)
  have st19 : ∀ (c : vmD) l, gF (tW 11 12 (nI 6001) l c) 19 = gF c 19 := fun c l => tW_gF _ _ _ _ _ _ (by decide)
  have h34 : ∀ (c : vmD), CC c → gF c 19 7 = e → gF c 19 9 = nu → gF c 19 8 = di → Wc 11 12 6001 (Instruction_appendTo_dra_34 c) c (if (0 : Int32) < e then [44] ++ flC nu di (tOp e op) else []) := by
    intro c hC g7 g9 g8
    unfold Instruction_appendTo_dra_34
    rw [g7]
    refine wc_ite (fun _ => ?_) (fun _ => wc_nil)
    refine wc_seq (by omega) (add_dra _ _) (fun c2 e2 => ?_)
    have q : gF c2 19 = gF c 19 := by rw [e2, st19]
    rw [q, g7]
    exact oper_dra (e2 ▸ stC _ hC _) he (by rw [q]; exact g9) (by rw [q]; exact g8) hn5 (hd.imp (fun h => h.2) id) (hs e (Or.inr rfl))
  have efl : flC nu di (tIns (nI i) f e op) = nameL i ++ ((if (0 : Int32) < f then [32] ++ flC nu di (tOp f op) else []) ++ (if (0 : Int32) < e then [44] ++ flC nu di (tOp e op) else [])) := by
    unfold tIns
    rw [flC_app, flC_app, flC_lit, nI_clamp (by omega)]
    congr 1
    congr 1
    · split
      · rw [flC_app]; rfl
      · rfl
    · split
      · rw [flC_app]; rfl
      · rfl
  rw [efl]
  unfold Instruction_appendTo_dra
  rw [h5]
  refine wc_seq (by omega) (name_dra hC hi) (fun c1 e1 => ?_)
  have q1 : gF c1 19 = gF c 19 := by rw [e1, st19]
  have C1 : CC c1 := e1 ▸ stC _ hC _
  rw [q1, h6]
  by_cases hf0 : (0 : Int32) < f
  · simp only [if_pos hf0]
    rw [List.append_assoc]
    refine wc_seq (by omega) (add_dra _ _) (fun c2 e2 => ?_)
    have q2 : gF c2 19 = gF c 19 := by rw [e2, st19, q1]
    have C2 : CC c2 := e2 ▸ stC _ C1 _
    rw [q2, h6]
    refine wc_seq (by omega) (oper_dra C2 hf (by rw [q2]; exact hnu) (by rw [q2]; exact hdi) hn5 (hd.imp (fun h => h.1) id) (hs f (Or.inl rfl))) (fun c3 e3 => ?_)
    have q3 : gF c3 19 = gF c 19 := by rw [e3, st19, q2]
    exact h34 c3 (e3 ▸ stC _ C2 _) (by rw [q3]; exact h7) (by rw [q3]; exact hnu) (by rw [q3]; exact hdi)
  · simp only [if_neg hf0]
    rw [List.nil_append]
    exact h34 c1 C1 (by rw [q1]; exact h7) (by rw [q1]; exact hnu) (by rw [q1]; exact hdi)
