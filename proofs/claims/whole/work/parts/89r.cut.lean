/-! The class's cut of a line -/
theorem nameK_1 (B : Nat → Nat) (n q : Nat) : (nameK B n q).1 = 1 ∨ (nameK B n q).1 = 2 := by
  unfold nameK
  split
  · exact Or.inl rfl
  · split
    · exact Or.inr rfl
    · exact Or.inr rfl
theorem numK_1 (B : Nat → Nat) (n q p b : Nat) : (numK B n q p b).1 = 1 ∨ (numK B n q p b).1 = 3 := by
  unfold numK
  split
  · exact Or.inl rfl
  · exact Or.inr rfl
theorem texK_1 (B : Nat → Nat) (n q : Nat) : (texK B n q).1 = 1 ∨ (texK B n q).1 = 4 := by
  unfold texK
  split
  · exact Or.inr rfl
  · exact Or.inl rfl
theorem quoK_1 (B : Nat → Nat) (n q : Nat) : (quoK B n q).1 = 1 ∨ (quoK B n q).1 = 3 := by
  unfold quoK
  split
  · exact Or.inr rfl
  · exact Or.inl rfl
theorem sgnB_k : ∀ b, b < 256 → sgnB b = true → ¬ b = 0 ∧ b < 128 := by decide +kernel
theorem tokF_1 {B : Nat → Nat} {n q : Nat} (h : SrcOk B n) (c1 : ¬ (byR B n q = 10 ∨ byR B n q = 59)) : ¬ (tokF B n q).1 = 0 ∧ (tokF B n q).1 < 128 := by
  have hb := byR_lt h q
  have k1 : ∀ x : Nat, x = 1 ∨ x = 2 → ¬ x = 0 ∧ x < 128 := by omega
  have k3 : ∀ x : Nat, x = 1 ∨ x = 3 → ¬ x = 0 ∧ x < 128 := by omega
  have k4 : ∀ x : Nat, x = 1 ∨ x = 4 → ¬ x = 0 ∧ x < 128 := by omega
  unfold tokF
  rw [if_neg c1]
  by_cases c2 : isS (byR B n q) = true
  · rw [if_pos c2]
    exact k1 _ (nameK_1 _ _ _)
  rw [if_neg c2]
  by_cases c3 : isD (byR B n q) = true
  · rw [if_pos c3]
    exact k3 _ (numK_1 _ _ _ _ _)
  rw [if_neg c3]
  by_cases c4 : byR B n q = 34
  · rw [if_pos c4]
    exact k4 _ (texK_1 _ _ _)
  rw [if_neg c4]
  by_cases c5 : byR B n q = 36
  · rw [if_pos c5]
    exact k3 _ (numK_1 _ _ _ _ _)
  rw [if_neg c5]
  by_cases c6 : byR B n q = 37
  · rw [if_pos c6]
    exact k3 _ (numK_1 _ _ _ _ _)
  rw [if_neg c6]
  by_cases c7 : byR B n q = 39
  · rw [if_pos c7]
    exact k3 _ (quoK_1 _ _ _)
  rw [if_neg c7]
  by_cases c8 : byR B n q = 60 ∨ byR B n q = 62
  · rw [if_pos c8]
    split
    · show ¬ byR B n q = 0 ∧ byR B n q < 128
      omega
    · exact k1 1 (Or.inl rfl)
  rw [if_neg c8]
  split
  · exact sgnB_k _ hb (by assumption)
  · exact k1 1 (Or.inl rfl)
theorem tokF_128 {B : Nat → Nat} {n : Nat} (h : SrcOk B n) (q : Nat) : (tokF B n q).1 < 128 := by
  by_cases c1 : byR B n q = 10 ∨ byR B n q = 59
  · unfold tokF
    rw [if_pos c1]
    show (0 : Nat) < 128
    omega
  · exact (tokF_1 h c1).2
theorem SrcC.apT {B : Nat → Nat} {n : Nat} {c : vmD} (hc : SrcC B n c) (k kd pl vl : Nat) : SrcC B n (apT k kd pl vl c) := by
  obtain ⟨h1, -, -, h4, -⟩ := apT_x k kd pl vl c
  unfold SrcC
  rw [h1 9 (by decide), h4 10 (by decide) (by decide)]
  exact hc
theorem lex_blk {B : Nat → Nat} {n e p : Nat} (h : sc blk B n p = sc blk B n (p + 1)) : ∀ f, lexT B n e f p = lexT B n e f (p + 1) := by
  intro f
  cases f with
  | zero => rfl
  | succ f =>
    unfold lexT
    rw [h]
def lineEnd (B : Nat → Nat) (n p e : Nat) : Prop := p ≤ e ∧ e ≤ n ∧ (∀ i, p ≤ i → i < e → ¬ B i = 10) ∧ (e < n → B e = 10)
theorem lineEnd.at {B : Nat → Nat} {n p e : Nat} (h : lineEnd B n p e) : byR B n e = 10 := by
  by_cases q : e < n
  · rw [byR_in q]
    exact h.2.2.2 q
  · exact byR_out (by omega)
theorem lineEnd.on {B : Nat → Nat} {n p e q : Nat} (h : lineEnd B n p e) (hp : p ≤ q) (hf : free10 B n p q) : lineEnd B n q e := by
  refine ⟨?_, h.2.1, fun i h1 h2 => h.2.2.1 i (by omega) h2, h.2.2.2⟩
  have key : ¬ e < q := fun z => hf e h.1 z h.at
  omega
theorem nl_t (b : Nat) (h : nlB b = true) : ¬ b = 10 := by
  unfold nlB at h
  simpa using h
theorem nl_f (b : Nat) (h : nlB b = false) : b = 10 := by
  unfold nlB at h
  simpa using h
theorem lineEnd_sc {B : Nat → Nat} {n p : Nat} (hp : p ≤ n) : lineEnd B n p (sc nlB B n p) := by
  have h1 := sc_le (P := nlB) (B := B) hp
  refine ⟨h1.1, h1.2, fun i h2 h3 => ?_, fun h2 => ?_⟩
  · exact nl_t _ (sc_in (P := nlB) (B := B) hp i h2 h3)
  · exact nl_f _ ((sc_at (P := nlB) (B := B) hp).resolve_left (by omega))
theorem cut72 {c : vmD} {k e : Nat} (hk : gF c 24 5 = nI k) (h6 : k < 6001) (Q : vmD → Prop) (hQ : Q (apT k 0 e 0 c)) : Tokens_cut_72 (nI e) c Q := by
  unfold Tokens_cut_72
  rw [show Tokens_append 0 (nI e) 0 c (fun d_6 => Q d_6) = Q (apT k 0 e 0 c) from append_e hk h6 0 e 0 Q]
  exact hQ
theorem cut7 {B : Nat → Nat} {n e : Nat} (h : SrcOk B n) : ∀ (f : Nat), ∀ p, p ≤ n → ∀ (k : Nat) (c : vmD) (Q : vmD → Prop), lineEnd B n p e → n + 1 ≤ p + f → k ≤ p → SrcC B n c → gF c 24 5 = nI k → Q (apL k (lexT B n e f p) c) → ∃ m, Tokens_cut_7 Q m (nI e) (nI p) c := by
  have hn := h.1
  intro f
  induction f with
  | zero => intro p hp k c Q hl hf; exact absurd hf (by omega)
  | succ f ih =>
    refine sc_ind (P := blk) (B := B) (n := n) _ (fun p hp eb => ?_) (fun p hp eb ihp => ?_)
    · intro k c Q hl hf hk hc h5 hQ
      have hq : sc blk B n p = p := sc_no eb
      have he := hl.2.1
      unfold lexT at hQ
      rw [hq] at hQ
      by_cases c1 : p < e
      · have e10 := hl.2.2.1 p (Nat.le_refl _) c1
        have hpn : p < n := by omega
        by_cases c2 : B p = 59
        · have t0 : tokF B n p = (0, p, 0) := by
            unfold tokF
            rw [if_pos (show byR B n p = 10 ∨ byR B n p = 59 from Or.inr ((byR_in hpn).trans c2))]
          rw [t0, if_pos rfl] at hQ
          refine ⟨1, ?_⟩
          unfold Tokens_cut_7
          rw [if_pos (nI_lt c1 (by omega)), atC h hc (by omega), byC_in hpn, if_pos (show nI (B p) = 59 by rw [c2]; rfl)]
          exact cut72 h5 (by omega) Q hQ
        · have t0 : ¬ (tokF B n p).1 = 0 := by
            exact (tokF_1 h (show ¬ (byR B n p = 10 ∨ byR B n p = 59) by rw [byR_in hpn]; omega)).1
          rw [if_neg t0] at hQ
          have hblk : blk (B p) = false := eb.resolve_left (by omega)
          have hb := h.2 p
          have go : ∀ (m : Nat), Tokens_takeToken (nI p) c (fun r_13 d_12 => Tokens_cut_50 (Tokens_cut_7 Q m) (nI e) (nI p) r_13 d_12 Q) → Tokens_cut_7 Q (m + 1) (nI e) (nI p) c := by
            intro m hm
            unfold Tokens_cut_7
            rw [if_pos (nI_lt c1 (by omega)), atC h hc (by omega), byC_in hpn, if_neg (show ¬ nI (B p) = 59 from fun z => c2 ((nI_e hb (show 59 < 256 by omega)).mp z)), atC h hc (by omega), byC_in hpn, Tokens_isBlank_e, blC_b _ hb, hblk, if_neg Bool.false_ne_true, if_pos rfl]
            exact hm
          by_cases c3 : (tokF B n p).1 = 1
          · rw [if_pos c3] at hQ
            refine ⟨1, go 0 (tokC h hc h5 (by omega) hpn t0 _ ?_)⟩
            unfold tkRes
            rw [if_pos c3]
            unfold Tokens_cut_50
            dsimp only
            have hneg : ¬ nI p < (-1 : Int32) := by
              intro z
              exact nI_pos (show p < 2 ^ 31 by omega) (Int32.lt_trans z (by decide))
            rw [if_neg hneg, show Tokens_append 1 (nI p) 0 c (fun d_15 => Q d_15) = Q (apT k 1 p 0 c) from append_e h5 (by omega) 1 p 0 Q]
            exact hQ
          · rw [if_neg c3] at hQ
            obtain ⟨f1, f2⟩ := tok_free hp t0 c3
            have hl2 := hl.on (by omega) f2
            obtain ⟨m, hm⟩ := ih (tokF B n p).2.1 (by have := hl2.1; omega) (k + 1) (apT k (tokF B n p).1 p (tokF B n p).2.2 c) Q hl2 (by omega) (by omega) (hc.apT _ _ _ _) (apT_x _ _ _ _ _).2.2.1 hQ
            refine ⟨m + 1, go m (tokC h hc h5 (by omega) hpn t0 _ ?_)⟩
            unfold tkRes
            rw [if_neg c3]
            unfold Tokens_cut_50
            dsimp only
            rw [if_pos (nI_lt f1 (by have := hl2.1; omega))]
            exact hm
      · have hpe : p = e := by have := hl.1; omega
        have t0 : tokF B n p = (0, p, 0) := by
          unfold tokF
          rw [if_pos (show byR B n p = 10 ∨ byR B n p = 59 from Or.inl (by rw [hpe]; exact hl.at))]
        rw [t0, if_pos rfl] at hQ
        refine ⟨1, ?_⟩
        unfold Tokens_cut_7
        rw [if_neg (nI_nlt (by omega) (by omega))]
        exact cut72 h5 (by omega) Q hQ
    · intro k c Q hl hf hk hc h5 hQ
      have c1 : p < e := by
        have h1 := hl.1
        have key : ¬ p = e := by
          rintro rfl
          exact blk_10 _ eb (hl.2.2.2 hp)
        omega
      have he := hl.2.1
      have hb := h.2 p
      rw [lex_blk (sc_yes hp eb)] at hQ
      obtain ⟨m, hm⟩ := ihp k c Q ⟨by omega, he, fun i h1 h2 => hl.2.2.1 i (by omega) h2, hl.2.2.2⟩ (by omega) (by omega) hc h5 hQ
      have e59 : ¬ B p = 59 := by
        intro z
        rw [z] at eb
        revert eb
        decide
      refine ⟨m + 1, ?_⟩
      unfold Tokens_cut_7
      rw [if_pos (nI_lt c1 (by omega)), atC h hc (by omega), byC_in hp, if_neg (show ¬ nI (B p) = 59 from fun z => e59 ((nI_e hb (show 59 < 256 by omega)).mp z)), atC h hc (by omega), byC_in hp, Tokens_isBlank_e, blC_b _ hb, eb, if_pos rfl, if_neg (by decide)]
      unfold Tokens_cut_50
      rw [nI_p1, if_pos (nI_lt (by omega) (by omega))]
      exact hm
/-- the class's tokens -/
def TkC (c : vmD) (T : List Tk) : Prop := gF c 24 5 = nI T.length ∧ T.length ≤ 6001 ∧ ∀ t (h : t < T.length), gA c 25 t = nI (T[t]).1 ∧ gA c 26 t = nI (T[t]).2.1 ∧ gL c 27 t = lN (T[t]).2.2.2
theorem byt_k : ∀ k, k < 128 → byt (nI k) = nI k := by decide +kernel
theorem TkC.app : ∀ (T2 : List Tk) (T : List Tk) (c : vmD), TkC c T → T.length + T2.length ≤ 6001 → (∀ t, t ∈ T2 → t.1 < 128) → TkC (apL T.length T2 c) (T ++ T2) := by
  intro T2
  induction T2 with
  | nil => intro T c h _ _; rw [List.append_nil]; exact h
  | cons t T2 ih =>
    intro T c h hl hk
    rw [List.length_cons] at hl
    obtain ⟨h1, h2, h3, h4, h5, h6, h7, h8, h9⟩ := apT_x T.length t.1 t.2.1 t.2.2.2 c
    obtain ⟨g1, g2, g3⟩ := h
    have step : TkC (apT T.length t.1 t.2.1 t.2.2.2 c) (T ++ [t]) := by
      refine ⟨?_, ?_, fun i hi => ?_⟩
      · rw [h3, List.length_append]
        rfl
      · rw [List.length_append]
        show T.length + 1 ≤ 6001
        omega
      · rw [List.length_append] at hi
        have hi : i < T.length + 1 := hi
        rw [h7, h8, h9]
        by_cases e : i < T.length
        · rw [u1f_ne _ _ (by omega), u1f_ne _ _ (by omega), u1f_ne _ _ (by omega), List.getElem_append_left e]
          exact g3 i e
        · obtain rfl : i = T.length := by omega
          rw [u1f_eq, u1f_eq, u1f_eq, byt_k _ (hk t List.mem_cons_self)]
          simp
    have := ih (T ++ [t]) _ step (by rw [List.length_append]; show T.length + 1 + _ ≤ _; omega) (fun x hx => hk x (List.mem_cons_of_mem _ hx))
    rw [List.append_assoc, List.length_append] at this
    exact this
theorem apL_x : ∀ (T : List Tk) (k : Nat) (c : vmD), (∀ o, ¬ o = 24 → gF (apL k T c) o = gF c o) ∧ (∀ f, ¬ f = 5 → gF (apL k T c) 24 f = gF c 24 f) ∧ (∀ o, ¬ o = 25 → ¬ o = 26 → gA (apL k T c) o = gA c o) ∧ (∀ o, ¬ o = 27 → gL (apL k T c) o = gL c o) ∧ gG (apL k T c) = gG c := by
  intro T
  induction T with
  | nil => intro k c; exact ⟨fun _ _ => rfl, fun _ _ => rfl, fun _ _ _ => rfl, fun _ _ => rfl, rfl⟩
  | cons t T ih =>
    intro k c
    obtain ⟨h1, h2, h3, h4, h5, h6, -⟩ := apT_x k t.1 t.2.1 t.2.2.2 c
    obtain ⟨g1, g2, g3, g4, g5⟩ := ih (k + 1) (apT k t.1 t.2.1 t.2.2.2 c)
    exact ⟨fun o h => (g1 o h).trans (h1 o h), fun f h => (g2 f h).trans (h2 f h), fun o a b => (g3 o a b).trans (h4 o a b), fun o h => (g4 o h).trans (h5 o h), g5.trans h6⟩
theorem lexT_128 {B : Nat → Nat} {n e : Nat} (h : SrcOk B n) : ∀ f p t, t ∈ lexT B n e f p → t.1 < 128 := by
  intro f
  induction f with
  | zero => intro p t ht; cases ht
  | succ f ih =>
    intro p t ht
    unfold lexT at ht
    split at ht
    · obtain rfl := List.mem_singleton.mp ht
      show (0 : Nat) < 128
      omega
    · split at ht
      · obtain rfl := List.mem_singleton.mp ht
        show (1 : Nat) < 128
        omega
      · rcases List.mem_cons.mp ht with rfl | ht
        · exact tokF_128 h _
        · exact ih _ _ ht
theorem lexT_len {B : Nat → Nat} {n e : Nat} : ∀ f p, p ≤ n → lineEnd B n p e → (lexT B n e f p).length ≤ n + 1 - p := by
  intro f
  induction f with
  | zero => intro p _ _; exact Nat.zero_le _
  | succ f ih =>
    intro p hp hl
    have hq := sc_le (P := blk) (B := B) hp
    unfold lexT
    split
    · show 1 ≤ n + 1 - p
      omega
    · split
      · show 1 ≤ n + 1 - p
        omega
      · rename_i c0 c1
        obtain ⟨f1, f2⟩ := tok_free hq.2 c0 c1
        have hf : free10 B n p (tokF B n (sc blk B n p)).2.1 := by
          intro i h1 h2
          by_cases z : i < sc blk B n p
          · exact free_sc (B := B) hp blk_10 i h1 z
          · exact f2 i (by omega) h2
        have hl2 := hl.on (by omega) hf
        have := ih (tokF B n (sc blk B n p)).2.1 (by have := hl2.1; have := hl2.2.1; omega) hl2
        rw [List.length_cons]
        omega
/-- a line, cut -/
theorem cut_ok {B : Nat → Nat} {n p e : Nat} (h : SrcOk B n) {c : vmD} (hc : SrcC B n c) (hp : p ≤ n) (hl : lineEnd B n p e) : ∃ c', (∀ Q : vmD → Prop, Q c' → Tokens_cut (nI p) (nI e) c Q) ∧ TkC c' (lexT B n e (n + 1 - p) p) ∧ (∀ o, ¬ o = 24 → gF c' o = gF c o) ∧ (∀ f, ¬ f = 5 → gF c' 24 f = gF c 24 f) ∧ (∀ o, ¬ o = 25 → ¬ o = 26 → gA c' o = gA c o) ∧ (∀ o, ¬ o = 27 → gL c' o = gL c o) ∧ gG c' = gG c := by
  have hn := h.1
  obtain ⟨g1, g2, g3, g4, g5⟩ := apL_x (lexT B n e (n + 1 - p) p) 0 (sF c 24 5 0)
  have h0 : TkC (sF c 24 5 0) [] := ⟨by rw [gF_sF, u1f_eq]; rfl, Nat.zero_le _, fun t ht => absurd ht (Nat.not_lt_zero _)⟩
  have hlen := lexT_len (n + 1 - p) p hp hl
  refine ⟨apL 0 (lexT B n e (n + 1 - p) p) (sF c 24 5 0), fun Q hQ => ?_, ?_, fun o ho => ?_, fun f hf => ?_, g3, g4, g5⟩
  · unfold Tokens_cut
    refine bnd_iff.mpr ?_
    refine cut7 h (n + 1 - p) p hp 0 (sF c 24 5 0) Q hl (by omega) (by omega) ?_ (by rw [gF_sF, u1f_eq]; rfl) hQ
    unfold SrcC
    rw [gF_sF_ne _ _ _ (by decide), gA_sF]
    exact hc
  · exact TkC.app _ [] _ h0 (by rw [List.length_nil]; omega) (fun t ht => lexT_128 h _ _ t ht)
  · rw [g1 o ho, gF_sF_ne _ _ _ ho]
  · rw [g2 f hf, gF_sF, u1f_ne _ _ hf]
