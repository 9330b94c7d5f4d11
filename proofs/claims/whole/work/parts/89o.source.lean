/-! source, whole -/
theorem add_src (c : vmD) (v : Int32) : Wc 9 10 6000 (Text_add_src v c) c [v] := by
  intro n Q hn hl hQ
  have e : tW 9 10 (nI 6000) [v] c = tA1 9 10 (nI 6000) v c := rfl
  rw [e] at hQ
  unfold tA1 byt at hQ
  unfold Text_add_src
  rw [hn, if_neg (nI_pos (by omega))]
  rw [hn] at hQ
  by_cases h : nI n < 6000
  · rw [if_pos (show nI n < nI 6000 from h)] at hQ
    rw [if_pos h]
    have h2 : n < 6000 := (nI_ltI (b := 6000) (by omega) (by omega)).mp h
    refine ⟨nI_in h2 (by omega), ?_⟩
    refine bnd_iff.mpr (bnd_iff.mpr ?_)
    rw [gF_sA, hn]
    exact hQ
  · rw [if_neg (show ¬ nI n < nI 6000 from h)] at hQ
    rw [if_neg h]
    exact hQ
theorem Rel.cg {c r c' r' : vmD} (h : Rel c r) (hF : ∀ o, ¬ o = 11 → gF c' o = gF c o) (hA : ∀ o, ¬ o = 12 → gA c' o = gA c o) (hL : gL c' = gL c) (hG : gG c' = gG c) (rF : ∀ f, ¬ f = 66 → gF r' 42 f = gF r 42 f) (rA : ∀ o, ¬ o = 62 → ¬ o = 64 → gA r' o = gA r o) (rG : gG r' = gG r) : Rel c' r' := by
  obtain ⟨q1, q2, q3, q4, q5, q6, q7, q8, q9⟩ := h
  refine ⟨?_, ?_, ?_, ?_, ?_, ?_, ?_, ?_, ?_⟩
  · rw [hL, hA 16 (by decide), hA 17 (by decide), hA 18 (by decide)]
    exact q1
  · rw [hA 2 (by decide), rA 55 (by decide) (by decide)]
    exact q2
  · rw [hF 9 (by decide), rF 1 (by decide), hA 10 (by decide), rA 43 (by decide) (by decide)]
    exact q3
  · rw [hF 3 (by decide), rF 51 (by decide), hA 6 (by decide), rA 61 (by decide) (by decide), hL, rA 60 (by decide) (by decide), rA 59 (by decide) (by decide)]
    exact q4
  · rw [hF 13 (by decide), rF 68 (by decide), hA 14 (by decide), rA 63 (by decide) (by decide)]
    exact q5
  · unfold RTold at q6 ⊢
    rw [hF 21 (by decide), hF 20 (by decide), rF 46 (by decide), rF 47 (by decide), rF 48 (by decide), rF 49 (by decide), rF 50 (by decide)]
    exact q6
  · unfold RReg at q7 ⊢
    rw [hA 39 (by decide), rA 65 (by decide) (by decide), rA 66 (by decide) (by decide), rA 67 (by decide) (by decide), rF 75 (by decide), rF 76 (by decide), rF 72 (by decide), rF 73 (by decide), rF 77 (by decide), rF 78 (by decide), rF 79 (by decide)]
    exact q7
  · rw [hA 40 (by decide), hA 41 (by decide), rA 68 (by decide) (by decide), rA 69 (by decide) (by decide), hG, rG]
    exact q8
  · unfold RReq at q9 ⊢
    rw [hF 38 (by decide), rF 83 (by decide), rF 82 (by decide), rF 85 (by decide), rF 84 (by decide)]
    exact q9
/-- a row copied to another place -/
def cpS (o p : Nat) : Nat → Nat → Nat → vmD → vmD
  | 0, _, _, d => d
  | n + 1, k, j, d => cpS o p n (k + 1) (j + 1) (sA d p k (gA d o j))
theorem cpS_gF (o p : Nat) : ∀ n k j d, gF (cpS o p n k j d) = gF d := by
  intro n
  induction n with
  | zero => intro k j d; rfl
  | succ n ih => intro k j d; exact (ih _ _ _).trans rfl
theorem cpS_gG (o p : Nat) : ∀ n k j d, gG (cpS o p n k j d) = gG d := by
  intro n
  induction n with
  | zero => intro k j d; rfl
  | succ n ih => intro k j d; exact (ih _ _ _).trans rfl
theorem cpS_gA (o p : Nat) : ∀ n k j d x, ¬ x = p → gA (cpS o p n k j d) x = gA d x := by
  intro n
  induction n with
  | zero => intro k j d x _; rfl
  | succ n ih => intro k j d x hx; exact (ih _ _ _ x hx).trans (gA_sA_ne _ _ _ hx)
theorem cpS_p (o p : Nat) (hop : ¬ o = p) : ∀ n k j d i, gA (cpS o p n k j d) p i = if k ≤ i ∧ i < k + n then gA d o (j + (i - k)) else gA d p i := by
  intro n
  induction n with
  | zero => intro k j d i; rw [if_neg (by omega)]; rfl
  | succ n ih =>
    intro k j d i
    show gA (cpS o p n (k + 1) (j + 1) _) p i = _
    rw [ih, gA_sA_ne _ _ _ hop, gA_sA]
    by_cases e : i = k
    · subst e
      rw [if_neg (by omega), if_pos (by omega), u1f_eq, Nat.sub_self, Nat.add_zero]
    · rw [u1f_ne _ _ e]
      by_cases e2 : k + 1 ≤ i ∧ i < k + 1 + n
      · rw [if_pos e2, if_pos (by omega), show j + 1 + (i - (k + 1)) = j + (i - k) by omega]
      · rw [if_neg e2, if_neg (by omega)]
/-- the draft, and the reference's lines -/
def DI (c : vmD) (S : List Int32) : Prop := gF c 11 1 = nI (min S.length 6001) ∧ ∀ i (h : i < S.length), i < 6001 → gA c 12 i &&& 255 = S[i]
def RI (r : vmD) (S : List Int32) : Prop := ∀ i (h : i < S.length), gA r 64 i = S[i]
theorem DI.app {c : vmD} {S : List Int32} (h : DI c S) (l : List Int32) (ho : ∀ v, v ∈ l → oct v) : DI (tW 11 12 (nI 6001) l c) (S ++ l) := by
  obtain ⟨h1, h2⟩ := h
  obtain ⟨a1, a2⟩ := tW_a 11 12 (N := 6001) (by omega) l c _ h1 (by omega)
  refine ⟨?_, fun i hi h6 => ?_⟩
  · rw [tW_1 11 12 (N := 6001) (by omega) l c _ h1 (by omega)]
    exact congrArg nI (by rw [List.length_append]; omega)
  · by_cases e : i < S.length
    · rw [a1 i (by omega), List.getElem_append_left e]
      exact h2 i e h6
    · rw [List.length_append] at hi
      rw [List.getElem_append_right (by omega)]
      have := a2 (i - S.length) (by omega) (by omega)
      rw [show min S.length 6001 + (i - S.length) = i by omega] at this
      rw [this, byt_and]
      exact (ho _ (List.getElem_mem _)).and
theorem nI_min {S : Nat} : ¬ nI (min S 6001) < 0 := nI_pos (by omega)
theorem src84 (b33 : Int32 → Int32 → Int32 → Int32 → Int32 → vmD → Prop) (Q : Int32 → vmD → Prop) (x1 x2 x4 x5 : Int32) : ∀ (q j k : Nat) (d : vmD), gF d 42 66 = nI (j + q) → j + q ≤ 40 → k + q < 9000 → b33 x1 x2 (nI (k + q + 1)) x4 (x5 + 1) (sA (cpS 62 64 q k j d) 64 (k + q) 10) → ∃ m, MO_source_84 b33 Q m x1 x2 (nI k) x4 x5 (nI j) d := by
  intro q
  induction q with
  | zero =>
    intro j k d h hj hk hQ
    refine ⟨1, ?_⟩
    unfold MO_source_84
    rw [h, if_neg (nI_nlt (by omega) (by omega))]
    refine ⟨nI_in (by omega) (by omega), bnd_iff.mpr (bnd_iff.mpr (bnd_iff.mpr ?_))⟩
    rw [nI_1, nI_clamp (by omega)]
    exact hQ
  | succ q ih =>
    intro j k d h hj hk hQ
    obtain ⟨m, hm⟩ := ih (j + 1) (k + 1) (sA d 64 k (gA d 62 j)) (by rw [gF_sA, h]; exact congrArg nI (by omega)) (by omega) (by omega) (by rw [show k + 1 + q = k + (q + 1) by omega]; exact hQ)
    refine ⟨m + 1, ?_⟩
    unfold MO_source_84
    rw [h, if_pos (nI_lt (by omega) (by omega))]
    refine ⟨nI_in (by omega) (by omega), bnd_iff.mpr ⟨nI_in (by omega) (by omega), bnd_iff.mpr (bnd_iff.mpr (bnd_iff.mpr ?_))⟩⟩
    rw [nI_1, nI_1, nI_clamp (by omega), nI_clamp (by omega)]
    exact hm
theorem src145 : ∀ (q k : Nat) (d : vmD) (Q : Int32 → vmD → Prop), k + q ≤ 6000 → Q (nI (k + q)) (sF (cpA 64 43 q k d) 42 1 (nI (k + q))) → ∃ m, MO_source_145 Q m (nI (k + q)) (nI k) d := by
  intro q
  induction q with
  | zero =>
    intro k d Q hk hQ
    refine ⟨1, ?_⟩
    unfold MO_source_145
    rw [if_neg (nI_nlt (by omega) (by omega))]
    exact bnd_iff.mpr hQ
  | succ q ih =>
    intro k d Q hk hQ
    obtain ⟨m, hm⟩ := ih (k + 1) (sA d 43 k (gA d 64 k)) Q (by omega) (by rw [show k + 1 + q = k + (q + 1) by omega]; exact hQ)
    refine ⟨m + 1, ?_⟩
    unfold MO_source_145
    rw [if_pos (nI_lt (by omega) (by omega))]
    refine ⟨nI_in (by omega) (by omega), bnd_iff.mpr ⟨nI_in (by omega) (by omega), bnd_iff.mpr (bnd_iff.mpr ?_)⟩⟩
    rw [nI_1, nI_clamp (by omega), show k + (q + 1) = k + 1 + q by omega]
    exact hm
theorem become6 {S : List Int32} (hS : S.length ≤ 6000) : ∀ (q k : Nat) (d : vmD) (Q : vmD → Prop), k + q = S.length → gF d 11 1 = nI S.length → (∀ i (h : i < S.length), gA d 12 i &&& 255 = S[i]) → gF d 9 1 = nI k → Q (tW 9 10 (nI 6000) (S.drop k) d) → ∃ m, Text_become_src_dra_6 Q m (nI k) d := by
  intro q
  induction q with
  | zero =>
    intro k d Q hk h11 h12 h9 hQ
    refine ⟨1, ?_⟩
    unfold Text_become_src_dra_6 Text_length_dra
    rw [h11]
    dsimp only
    rw [if_neg (nI_nlt (by omega) (by omega))]
    rw [List.drop_eq_nil_of_le (by omega)] at hQ
    exact hQ
  | succ q ih =>
    intro k d Q hk h11 h12 h9 hQ
    rw [List.drop_eq_getElem_cons (show k < S.length by omega)] at hQ
    obtain ⟨m, hm⟩ := ih (k + 1) (tW 9 10 (nI 6000) [S[k]'(by omega)] d) Q (by omega) (by rw [tW_gF _ _ _ _ _ _ (by decide)]; exact h11) (by rw [tW_gA _ _ _ _ _ _ (by decide)]; exact h12) (by rw [tW_1 9 10 (N := 6000) (by omega) _ _ _ h9 (by omega)]; exact congrArg nI (by rw [List.length_singleton]; omega)) hQ
    refine ⟨m + 1, ?_⟩
    unfold Text_become_src_dra_6 Text_length_dra
    rw [h11]
    dsimp only
    rw [if_pos (nI_lt (by omega) (by omega))]
    unfold Text_at_dra
    rw [if_neg (nI_pos (by omega)), h11, if_pos (nI_lt (by omega) (by omega)), if_pos (show nI k < 6001 from nI_lt (b := 6001) (by omega) (by omega))]
    refine ⟨nI_in (by omega) (by omega), bnd_iff.mpr ?_⟩
    rw [nI_clamp (by omega), h12 k (by omega)]
    refine add_src d _ k _ h9 (by omega) (bnd_iff.mpr ?_)
    rw [nI_1]
    exact hm
theorem src_end {c r : vmD} (hR : Rel c r) {S : List Int32} (hD : DI c S) (hI : RI r S) (ho : ∀ v, v ∈ S → oct v) (hS : S.length < 9000) {n : Nat} (hn : n ≤ 300) (x1 x : Int32) : ∃ v c2 r2, (∀ Q : Int32 → vmD → Prop, Q v c2 → ∃ m, OF_source_76 Q m (nI n) x (nI n) c) ∧ (∀ Q : Int32 → vmD → Prop, Q v r2 → ∃ m, MO_source_33 Q m x1 (nI n) (nI S.length) x (nI n) r) ∧ Rel c2 r2 := by
  obtain ⟨d1, d2⟩ := hD
  by_cases h6 : 6000 < S.length
  · refine ⟨-4, c, r, fun Q h => ⟨1, ?_⟩, fun Q h => ⟨1, ?_⟩, hR⟩
    · unfold OF_source_76 Text_length_dra
      rw [if_neg (nI_nlt (Nat.le_refl _) (by omega)), d1]
      dsimp only
      rw [if_pos (show (6000 : Int32) < nI (min S.length 6001) from nI_lt (a := 6000) (by omega) (by omega))]
      exact h
    · unfold MO_source_33
      rw [if_neg (nI_nlt (Nat.le_refl _) (by omega)), if_pos (show (6000 : Int32) < nI S.length from nI_lt (a := 6000) (by omega) (by omega))]
      exact h
  · have e9 : gF (sF c 9 1 0) 9 1 = nI 0 := by rw [gF_sF, u1f_eq]; rfl
    have d1' : gF c 11 1 = nI S.length := by rw [d1]; exact congrArg nI (by omega)
    refine ⟨nI S.length, tW 9 10 (nI 6000) S (sF c 9 1 0), sF (cpA 64 43 S.length 0 r) 42 1 (nI S.length), fun Q h => ⟨1, ?_⟩, fun Q h => ⟨1, ?_⟩, ?_⟩
    · unfold OF_source_76 Text_length_dra Text_become_src_dra Text_empty_src
      rw [if_neg (nI_nlt (Nat.le_refl _) (by omega)), d1']
      dsimp only
      rw [if_neg (show ¬ (6000 : Int32) < nI S.length from nI_nlt (a := 6000) (by omega) (by omega))]
      refine bnd_iff.mpr ?_
      refine become6 (S := S) (by omega) S.length 0 _ _ (by omega) (by rw [gF_sF_ne _ _ _ (by decide)]; exact d1') (fun i hi => d2 i hi (by omega)) e9 ?_
      unfold Text_length_src
      rw [List.drop_zero, tW_1 9 10 (N := 6000) (by omega) S _ 0 e9 (by omega), show min (0 + S.length) 6000 = S.length by omega]
      exact h
    · unfold MO_source_33
      rw [if_neg (nI_nlt (Nat.le_refl _) (by omega)), if_neg (show ¬ (6000 : Int32) < nI S.length from nI_nlt (a := 6000) (by omega) (by omega))]
      have := src145 S.length 0 r Q (by omega) (by rw [Nat.zero_add]; exact h)
      rw [Nat.zero_add] at this
      exact this
    · obtain ⟨q1, q2, q3, q4, q5, q6, q7, q8, q9⟩ := hR
      have y : ∀ o, ¬ o = 9 → gF (tW 9 10 (nI 6000) S (sF c 9 1 0)) o = gF c o := by
        intro o y1
        rw [tW_gF _ _ _ _ _ _ y1, gF_sF_ne _ _ _ y1]
      have ya : ∀ o, ¬ o = 10 → gA (tW 9 10 (nI 6000) S (sF c 9 1 0)) o = gA c o := by
        intro o y1
        rw [tW_gA _ _ _ _ _ _ y1, gA_sF]
      have yg : ∀ o, gG (tW 9 10 (nI 6000) S (sF c 9 1 0)) o = gG c o := fun o => by rw [tW_gG]; rfl
      have yl : ∀ o, gL (tW 9 10 (nI 6000) S (sF c 9 1 0)) o = gL c o := fun o => by rw [tW_gL]; rfl
      have z : ∀ f, ¬ f = 1 → gF (sF (cpA 64 43 S.length 0 r) 42 1 (nI S.length)) 42 f = gF r 42 f := by
        intro f z1
        rw [gF_sF, u1f_ne _ _ z1, cpA_gF]
      have za : ∀ o, ¬ o = 43 → gA (sF (cpA 64 43 S.length 0 r) 42 1 (nI S.length)) o = gA r o := by
        intro o z1
        rw [gA_sF, cpA_gA _ _ _ _ _ _ z1]
      have zg : ∀ o, gG (sF (cpA 64 43 S.length 0 r) 42 1 (nI S.length)) o = gG r o := fun o => by rw [gG_sF, cpA_gG]
      obtain ⟨-, f2⟩ := tW_a 9 10 (N := 6000) (by omega) S (sF c 9 1 0) 0 e9 (by omega)
      refine ⟨?_, ?_, ?_, ?_, ?_, ?_, ?_, ?_, ?_⟩
      · rw [yl, ya 16 (by decide), ya 17 (by decide), ya 18 (by decide)]
        exact q1
      · rw [ya 2 (by decide), za 55 (by decide)]
        exact q2
      · refine ⟨S.length, by omega, ?_, ?_, fun i hi => ?_⟩
        · rw [tW_1 9 10 (N := 6000) (by omega) S _ 0 e9 (by omega)]
          exact congrArg nI (by omega)
        · rw [gF_sF, u1f_eq]
        · rw [gA_sF, cpA_p _ _ (by decide), if_pos (by omega), hI i hi]
          have a2 := f2 i hi (by omega)
          rw [Nat.zero_add] at a2
          rw [a2, byt_and, (ho _ (List.getElem_mem hi)).and]
      · rw [y 3 (by decide), z 51 (by decide), ya 6 (by decide), za 61 (by decide), yl, za 60 (by decide), za 59 (by decide)]
        exact q4
      · rw [y 13 (by decide), z 68 (by decide), ya 14 (by decide), za 63 (by decide)]
        exact q5
      · unfold RTold at q6 ⊢
        rw [y 21 (by decide), y 20 (by decide), z 46 (by decide), z 47 (by decide), z 48 (by decide), z 49 (by decide), z 50 (by decide)]
        exact q6
      · unfold RReg at q7 ⊢
        rw [ya 39 (by decide), za 65 (by decide), za 66 (by decide), za 67 (by decide), z 75 (by decide), z 76 (by decide), z 72 (by decide), z 73 (by decide), z 77 (by decide), z 78 (by decide), z 79 (by decide)]
        exact q7
      · rw [ya 40 (by decide), ya 41 (by decide), za 68 (by decide), za 69 (by decide), yg, zg]
        exact q8
      · unfold RReq at q9 ⊢
        rw [y 38 (by decide), z 83 (by decide), z 82 (by decide), z 85 (by decide), z 84 (by decide)]
        exact q9
/-- a line is put: the class's draft and the reference's lines -/
theorem line_put {c r : vmD} (hR : Rel c r) {S l : List Int32} (hD : DI c S) (hI : RI r S) (hol : ∀ v, v ∈ l → oct v) {r0 : vmD} (h64 : gA r0 64 = gA r 64) (h0 : gF r0 42 66 = nI 0) (hl : l.length ≤ 28) (hRr : Rel c (rW l r0)) : Rel (tW 11 12 (nI 6001) (l ++ [10]) c) (sA (cpS 62 64 l.length S.length 0 (rW l r0)) 64 (S.length + l.length) 10) ∧ DI (tW 11 12 (nI 6001) (l ++ [10]) c) (S ++ (l ++ [10])) ∧ RI (sA (cpS 62 64 l.length S.length 0 (rW l r0)) 64 (S.length + l.length) 10) (S ++ (l ++ [10])) := by
  have o10 : oct (10 : Int32) := ⟨10, by omega, rfl⟩
  have hol2 : ∀ v, v ∈ l ++ [10] → oct v := by
    intro v hv
    rcases List.mem_append.mp hv with h | h
    · exact hol v h
    · obtain rfl := List.mem_singleton.mp h
      exact o10
  refine ⟨?_, hD.app _ hol2, ?_⟩
  · refine hRr.cg (fun o h => tW_gF _ _ _ _ _ _ h) (fun o h => tW_gA _ _ _ _ _ _ h) (tW_gL _ _ _ _ _) (tW_gG _ _ _ _ _) (fun f h => ?_) (fun o h1 h2 => ?_) ?_
    · rw [gF_sA, cpS_gF]
    · rw [gA_sA_ne _ _ _ h2, cpS_gA _ _ _ _ _ _ _ h2]
    · exact (show gG (sA (cpS 62 64 l.length S.length 0 (rW l r0)) 64 (S.length + l.length) 10) = gG (cpS 62 64 l.length S.length 0 (rW l r0)) from rfl).trans (cpS_gG _ _ _ _ _ _)
  · obtain ⟨-, g2⟩ := rW_62 l r0 0 h0 (by omega)
    intro i hi
    rw [gA_sA]
    rw [List.length_append, List.length_append, List.length_singleton] at hi
    by_cases e : i < S.length
    · rw [u1f_ne _ _ (by omega), cpS_p _ _ (by decide), if_neg (by omega), rW_gA _ _ _ (by decide), h64, List.getElem_append_left e]
      exact hI i e
    · rw [List.getElem_append_right (by omega)]
      by_cases e2 : i < S.length + l.length
      · rw [u1f_ne _ _ (by omega), cpS_p _ _ (by decide), if_pos (by omega), List.getElem_append_left (by omega)]
        rw [g2 (i - S.length) (by omega)]
      · obtain rfl : i = S.length + l.length := by omega
        rw [u1f_eq, List.getElem_append_right (by omega)]
        simp
theorem src_loop {n : Nat} (hn : n ≤ 300) (x1 : Int32) : ∀ (q j : Nat) (c r : vmD) (S : List Int32) (x : Int32), j + q = n → Rel c r → DI c S → RI r S → (∀ v, v ∈ S → oct v) → S.length ≤ 10 + 29 * j → wrd x → ∃ v c2 r2, (∀ Q : Int32 → vmD → Prop, Q v c2 → ∃ m, OF_source_76 Q m (nI n) x (nI j) c) ∧ (∀ Q : Int32 → vmD → Prop, Q v r2 → ∃ m, MO_source_33 Q m x1 (nI n) (nI S.length) x (nI j) r) ∧ Rel c2 r2 := by
  intro q
  induction q with
  | zero =>
    intro j c r S x hj hR hD hI ho hS hx
    obtain rfl : j = n := by omega
    exact src_end hR hD hI ho (by omega) hn x1 x
  | succ q ih =>
    intro j c r S x hj hR hD hI ho hS hx
    obtain ⟨c1, r1, sz, l, t1, t2, t3, t4, t5, t6, t7, t8, ⟨-, t9, -, -⟩, t10, t11⟩ := text_all hR x
    have hD1 : DI c1 S := by
      unfold DI at hD ⊢
      rw [t9, t10]
      exact hD
    have hRr : Rel c1 (rW l r1) := t1.cg (fun _ _ => rfl) (fun _ _ => rfl) rfl rfl (fun f h => rW_gF _ _ _ h) (fun o h _ => rW_gA _ _ _ h) (funext (rW_gG _ _))
    obtain ⟨e1, e2, e3⟩ := line_put (c := c1) (r := r1) t1 hD1 (by unfold RI at hI ⊢; rw [t11]; exact hI) t3 rfl t8 t2 hRr
    obtain ⟨v, c2, r2, E1, E2, E3⟩ := ih (j + 1) _ _ (S ++ (l ++ [10])) ((x + sz) &&& 65535) (by omega) e1 e2 e3 (by
      intro v hv
      rcases List.mem_append.mp hv with h | h
      · exact ho v h
      rcases List.mem_append.mp h with h | h
      · exact t3 v h
      · obtain rfl := List.mem_singleton.mp h
        exact ⟨10, by omega, rfl⟩) (by rw [List.length_append, List.length_append, List.length_singleton]; omega) (wrd_and _)
    have hlt : nI j < nI n := nI_lt (by omega) (by omega)
    refine ⟨v, c2, r2, fun Q h => ?_, fun Q h => ?_, E3⟩
    · obtain ⟨m, hm⟩ := E1 Q h
      refine ⟨m + 1, ?_⟩
      unfold OF_source_76
      rw [if_pos hlt, t4]
      refine (t6 c1 rfl (CC.of t1)).2 _ _ hD1.1 (by omega) ?_
      refine add_dra _ 10 _ _ (tW_1 11 12 (N := 6001) (by omega) _ _ _ hD1.1 (by omega)) (by omega) ?_
      rw [← tW_app]
      unfold Instruction_size
      rw [tW_gF _ _ _ _ _ _ (by decide), t5]
      refine bnd_iff.mpr (bnd_iff.mpr ?_)
      rw [nI_1]
      exact hm
    · obtain ⟨m, hm⟩ := E2 Q h
      refine ⟨m + 1, ?_⟩
      unfold MO_source_33
      rw [if_pos hlt, if_neg (nI_pos (by omega)), hx.and]
      refine t7 _ ?_
      refine bnd_iff.mpr ?_
      unfold MO_source_81
      have q66 := rW_66 l r1 0 t8
      refine src84 _ Q x1 (nI n) _ (nI j) l.length 0 S.length _ (by rw [q66]) (by omega) (by omega) ?_
      rw [nI_1]
      rw [List.length_append, List.length_append, List.length_singleton, ← Nat.add_assoc] at hm
      exact hm
theorem ok_source : Ok_source Rel := by
  intro c r hR x n
  have hbad : ∀ p : Prop, p → ∀ (h1 : p → ∀ Q : Int32 → vmD → Prop, Q (-2) c → OF_source x n c Q) (h2 : p → ∀ Q : Int32 → vmD → Prop, Q (-2) r → MO_source x n r Q), ∃ v c2 r2, (∀ Q : Int32 → vmD → Prop, Q v c2 → OF_source x n c Q) ∧ (∀ Q : Int32 → vmD → Prop, Q v r2 → MO_source x n r Q) ∧ Rel c2 r2 := fun p hp h1 h2 => ⟨-2, c, r, h1 hp, h2 hp, hR⟩
  by_cases h0 : x < 0
  · exact hbad _ h0 (fun h Q q => by unfold OF_source; rw [if_pos h]; exact q) (fun h Q q => by unfold MO_source; rw [if_pos h]; exact q)
  by_cases h1 : x < 65536
  · obtain ⟨j, hj, rfl⟩ := nat_of (n := 65536) rfl (by omega) h0 h1
    have h2 : ¬ (65535 : Int32) < nI j := nI_nlt (a := 65535) (by omega) (by omega)
    by_cases h3 : n < 1
    · exact hbad _ h3 (fun h Q q => by unfold OF_source; rw [if_neg h0, if_pos h1, if_pos h]; exact q) (fun h Q q => by unfold MO_source; rw [if_neg h0, if_neg h2, if_pos h]; exact q)
    by_cases h4 : (300 : Int32) < n
    · exact hbad _ h4 (fun h Q q => by unfold OF_source; rw [if_neg h0, if_pos h1, if_neg h3, if_pos h]; exact q) (fun h Q q => by unfold MO_source; rw [if_neg h0, if_neg h2, if_neg h3, if_pos h]; exact q)
    have h3' : ¬ n < 0 := fun q => h3 (Int32.lt_trans q (by decide))
    obtain ⟨N, hN, rfl⟩ := nat_of_le (n := 300) rfl (by omega) h3' h4
    have hx5 : (-1 : Int32) < nI N := by
      have key : ∀ k, k < 301 → (-1 : Int32) < nI k := by decide +kernel
      exact key N hN
    have eh : sayT 1330792224 = litT (nameL 99 ++ [32]) := by decide +kernel
    have l4 : (nameL 99 ++ [32]).length = 4 := by decide +kernel
    have o4 : ∀ v, v ∈ nameL 99 ++ [32] → oct v := by
      have e : (nameL 99 ++ [32]).all (fun v => decide (v = nI (v.toNatClampNeg % 256))) = true := by decide +kernel
      rw [List.all_eq_true] at e
      exact fun v hv => ⟨_, Nat.mod_lt _ (by omega), of_decide_eq_true (e v hv)⟩
    have hname := fun (c : vmD) (h : CC c) => name_dra (c := c) (i := 99) h (by omega)
    generalize nameL 99 = L9 at eh l4 o4 hname
    have ld := decL_len j
    have hl : ((L9 ++ [32]) ++ decL j).length ≤ 28 := by rw [List.length_append, l4]; omega
    have hol : ∀ v, v ∈ (L9 ++ [32]) ++ decL j → oct v := by
      intro v hv
      rcases List.mem_append.mp hv with h | h
      · exact o4 v h
      · exact decL_oct _ _ h
    have hRc : Rel (sF c 11 1 0) (sF r 42 66 0) := by
      refine hR.cg (fun o h => gF_sF_ne _ _ _ h) (fun _ _ => rfl) rfl rfl (fun f h => ?_) (fun _ _ _ => rfl) rfl
      rw [gF_sF, u1f_ne _ _ h]
    have e66 : gF (sF r 42 66 0) 42 66 = nI 0 := by rw [gF_sF, u1f_eq]; rfl
    have e11 : gF (sF c 11 1 0) 11 1 = nI 0 := by rw [gF_sF, u1f_eq]; rfl
    have hD0 : DI (sF c 11 1 0) [] := ⟨e11, fun i h => absurd h (Nat.not_lt_zero _)⟩
    have hI0 : RI (sF r 42 66 0) [] := fun i h => absurd h (Nat.not_lt_zero _)
    have hRr : Rel (sF c 11 1 0) (rW ((L9 ++ [32]) ++ decL j) (sF r 42 66 0)) := hRc.cg (fun _ _ => rfl) (fun _ _ => rfl) rfl rfl (fun f h => rW_gF _ _ _ h) (fun o h _ => rW_gA _ _ _ h) (funext (rW_gG _ _))
    obtain ⟨e1, e2, e3⟩ := line_put hRc hD0 hI0 hol rfl e66 hl hRr
    obtain ⟨v, c2, r2, E1, E2, E3⟩ := src_loop (n := N) (by omega) (nI j) N 0 _ _ _ (nI j) (by omega) e1 e2 e3 (by
      intro v hv
      rw [List.nil_append] at hv
      rcases List.mem_append.mp hv with h | h
      · exact hol v h
      · obtain rfl := List.mem_singleton.mp h
        exact ⟨10, by omega, rfl⟩) (by rw [List.length_append, List.length_append, List.length_append, l4, List.length_singleton, List.length_nil]; omega) ⟨j, hj, rfl⟩
    refine ⟨v, c2, r2, fun Q h => ?_, fun Q h => ?_, E3⟩
    · have hm := E1 Q h
      unfold OF_source
      rw [if_neg h0, if_pos h1, if_neg h3, if_neg h4]
      unfold Text_empty_dra
      refine bnd_iff.mpr ?_
      refine hname _ (CC.of hRc) 0 _ e11 (by omega) ?_
      refine add_dra _ 32 _ _ (tW_1 11 12 (N := 6001) (by omega) _ _ _ e11 (by omega)) (by omega) ?_
      rw [← tW_app]
      refine num_dra (x := j) (by omega) _ _ _ (tW_1 11 12 (N := 6001) (by omega) _ _ _ e11 (by omega)) (by omega) ?_
      rw [← tW_app]
      refine add_dra _ 10 _ _ (tW_1 11 12 (N := 6001) (by omega) _ _ _ e11 (by omega)) (by omega) ?_
      rw [← tW_app]
      exact hm
    · obtain ⟨m, hm⟩ := E2 Q h
      unfold MO_source
      rw [if_neg h0, if_neg h2, if_neg h3, if_neg h4]
      refine ⟨m + 1, ?_⟩
      unfold MO_source_33
      rw [if_pos hx5, if_pos (by decide)]
      refine bnd_iff.mpr ?_
      have efl : flR 0 (sF r 42 66 0) (sayT 1330792224) = L9 ++ [32] := by rw [eh, flR_lit]
      refine wr_say 0 1330792224 (sF r 42 66 0) 0 _ e66 (by rw [efl, l4]; omega) ?_
      rw [efl]
      refine num_eq ⟨j, by omega, rfl⟩ _ _ _ (rW_66 _ _ _ e66) (by rw [nI_clamp (by omega), l4]; omega) ?_
      rw [nI_clamp (by omega), ← rW_app]
      unfold MO_source_81
      have q66 := rW_66 ((L9 ++ [32]) ++ decL j) (sF r 42 66 0) 0 e66
      have := src84 (MO_source_33 Q m) Q (nI j) (nI N) (nI j) (-1) ((L9 ++ [32]) ++ decL j).length 0 0 _ (by rw [q66]) (by omega) (by omega) (by
        rw [show (-1 : Int32) + 1 = nI 0 from rfl]
        rw [List.nil_append, List.length_append, List.length_singleton] at hm
        rw [Nat.zero_add]
        rw [List.length_nil, Nat.zero_add] at hm
        exact hm)
      exact this
  · have h2 : (65535 : Int32) < x := by
      obtain ⟨j, hj, rfl⟩ := nI_of h0
      have : ¬ j < 65536 := fun q => h1 (nI_lt (b := 65536) q (by omega))
      exact nI_lt (a := 65535) (by omega) hj
    exact hbad _ h2 (fun h Q q => by unfold OF_source; rw [if_neg h0, if_neg h1]; exact q) (fun h Q q => by unfold MO_source; rw [if_neg h0, if_pos h]; exact q)
