/-! The chain of a line's tokens; names that are told -/
theorem goodK_key {B : Nat → Nat} {q m : Nat} (hB : ∀ i, B i < 256) (h1 : 1 ≤ m) (h2 : m ≤ 12) (hN : ∀ i, i < m → isN (B (q + i)) = true) : goodK (keyD B q m) := by
  obtain ⟨k, rfl⟩ : ∃ k, m = k + 1 := ⟨m - 1, by omega⟩
  have b1 := key_big hB k hN
  have p1 : 0 < 38 ^ k := Nat.pow_pos (by omega)
  refine ⟨by omega, Nat.lt_of_lt_of_le (keyD_lt B q _) (Nat.pow_le_pow_right (by omega) h2), fun h8 => ?_⟩
  have hk : k + 1 ≤ 8 := by
    have : ¬ 8 ≤ k := fun z => by
      have := Nat.pow_le_pow_right (show 0 < 38 by omega) z
      omega
    omega
  have e1 := wNF_key hB (k + 1) 12 h2 hN
  have e2 := kNF_word hB (k + 1) 12 h2 hN
  rw [e1]
  exact ⟨e2, Nat.lt_of_lt_of_le (wdN_lt B q hB _) (Nat.le_trans (Nat.pow_le_pow_right (by omega) hk) (by decide))⟩
theorem idN_1672 : idN 1672 = 14 := by decide +kernel
theorem goodK_1672 : goodK 1672 := ⟨by decide, by decide +kernel, fun _ => by decide +kernel⟩
theorem nameK_ok {B : Nat → Nat} {n q : Nat} (h : SrcOk B n) (hq : q < n) (hS : isS (byR B n q) = true) (h2 : (nameK B n q).1 = 2) : nmTok B n (2, q, (nameK B n q).2.1, (nameK B n q).2.2) := by
  have hN := isS_N _ hS
  rw [byR_in hq] at hN
  have hy := sc_yes (P := isN) (B := B) (n := n) hq hN
  have hs1 := sc_le (P := isN) (B := B) (show q + 1 ≤ n by omega)
  have hm := sc_nmb (B := B) (show q ≤ n by omega)
  unfold nameK at h2 ⊢
  by_cases c1 : 12 < sc isN B n q - q
  · rw [if_pos c1] at h2
    exact absurd h2 (show ¬ (1 : Nat) = 2 by decide)
  rw [if_neg c1]
  split
  · exact ⟨goodK_1672, fun z => by rw [idN_1672] at z; cases z⟩
  · refine ⟨goodK_key h.2 (by omega) (by omega) hm, fun _ => ⟨sc isN B n q - q, by omega, by omega, ?_, ?_, hm, rfl⟩⟩
    · show sc isN B n q = q + (sc isN B n q - q)
      omega
    · show q + (sc isN B n q - q) ≤ n
      omega
theorem tok_name {B : Nat → Nat} {n q : Nat} (h : SrcOk B n) (h2 : (tokF B n q).1 = 2) : nmTok B n (2, q, (tokF B n q).2.1, (tokF B n q).2.2) := by
  have k3 : ∀ x : Nat, x = 1 ∨ x = 3 → ¬ x = 2 := by omega
  have k4 : ∀ x : Nat, x = 1 ∨ x = 4 → ¬ x = 2 := by omega
  have hb := byR_lt h q
  unfold tokF at h2 ⊢
  by_cases c1 : byR B n q = 10 ∨ byR B n q = 59
  · rw [if_pos c1] at h2
    exact absurd h2 (show ¬ (0 : Nat) = 2 by decide)
  rw [if_neg c1] at h2 ⊢
  by_cases c2 : isS (byR B n q) = true
  · rw [if_pos c2] at h2 ⊢
    exact nameK_ok h (in_of (fun z => c1 (Or.inl z))) c2 h2
  rw [if_neg c2] at h2
  exfalso
  by_cases c3 : isD (byR B n q) = true
  · rw [if_pos c3] at h2
    exact k3 _ (numK_1 _ _ _ _ _) h2
  rw [if_neg c3] at h2
  by_cases c4 : byR B n q = 34
  · rw [if_pos c4] at h2
    exact k4 _ (texK_1 _ _ _) h2
  rw [if_neg c4] at h2
  by_cases c5 : byR B n q = 36
  · rw [if_pos c5] at h2
    exact k3 _ (numK_1 _ _ _ _ _) h2
  rw [if_neg c5] at h2
  by_cases c6 : byR B n q = 37
  · rw [if_pos c6] at h2
    exact k3 _ (numK_1 _ _ _ _ _) h2
  rw [if_neg c6] at h2
  by_cases c7 : byR B n q = 39
  · rw [if_pos c7] at h2
    exact k3 _ (quoK_1 _ _ _) h2
  rw [if_neg c7] at h2
  by_cases c8 : byR B n q = 60 ∨ byR B n q = 62
  · rw [if_pos c8] at h2
    split at h2
    · have h2 : byR B n q = 2 := h2
      omega
    · exact absurd h2 (show ¬ (1 : Nat) = 2 by decide)
  rw [if_neg c8] at h2
  have n2 : ¬ sgnB 2 = true := by decide
  split at h2
  · rename_i s
    have h3 : byR B n q = 2 := h2
    rw [h3] at s
    exact n2 s
  · exact absurd h2 (show ¬ (1 : Nat) = 2 by decide)
theorem numK_v (B : Nat → Nat) (n q p b : Nat) (h3 : (numK B n q p b).1 = 3) : (numK B n q p b).2.2 < 65536 := by
  unfold numK at h3 ⊢
  split
  · rename_i e
    rw [if_pos e] at h3
    exact absurd h3 (show ¬ (1 : Nat) = 3 by decide)
  · rename_i e
    have : ¬ 65536 ≤ numV b B p (sc (wrB b) B n p - p) := fun z => e (Or.inr z)
    show numV b B p (sc (wrB b) B n p - p) < 65536
    omega
theorem tok_num {B : Nat → Nat} {n q : Nat} (h : SrcOk B n) (h3 : (tokF B n q).1 = 3) : (tokF B n q).2.2 < 65536 := by
  have k2 : ∀ x : Nat, x = 1 ∨ x = 2 → ¬ x = 3 := by omega
  have k4 : ∀ x : Nat, x = 1 ∨ x = 4 → ¬ x = 3 := by omega
  have hb := byR_lt h q
  unfold tokF at h3 ⊢
  by_cases c1 : byR B n q = 10 ∨ byR B n q = 59
  · rw [if_pos c1] at h3
    exact absurd h3 (show ¬ (0 : Nat) = 3 by decide)
  rw [if_neg c1] at h3 ⊢
  by_cases c2 : isS (byR B n q) = true
  · rw [if_pos c2] at h3
    exact absurd h3 (k2 _ (nameK_1 _ _ _))
  rw [if_neg c2] at h3 ⊢
  by_cases c3 : isD (byR B n q) = true
  · rw [if_pos c3] at h3 ⊢
    exact numK_v _ _ _ _ _ h3
  rw [if_neg c3] at h3 ⊢
  by_cases c4 : byR B n q = 34
  · rw [if_pos c4] at h3
    exact absurd h3 (k4 _ (texK_1 _ _ _))
  rw [if_neg c4] at h3 ⊢
  by_cases c5 : byR B n q = 36
  · rw [if_pos c5] at h3 ⊢
    exact numK_v _ _ _ _ _ h3
  rw [if_neg c5] at h3 ⊢
  by_cases c6 : byR B n q = 37
  · rw [if_pos c6] at h3 ⊢
    exact numK_v _ _ _ _ _ h3
  rw [if_neg c6] at h3 ⊢
  by_cases c7 : byR B n q = 39
  · rw [if_pos c7]
    unfold quoK
    have hb1 := byR_lt h (q + 1)
    split
    · show byR B n (q + 1) < 65536
      omega
    · show 0 < 65536
      omega
  rw [if_neg c7]
  by_cases c8 : byR B n q = 60 ∨ byR B n q = 62
  · rw [if_pos c8]
    split <;> (show 0 < 65536; omega)
  rw [if_neg c8]
  split <;> (show 0 < 65536; omega)
theorem tkA_q {B : Nat → Nat} {n p : Nat} (hp : p ≤ n) : tkA B n (sc blk B n p) = tkA B n p := by
  have e : sc blk B n (sc blk B n p) = sc blk B n p := sc_no (sc_at hp)
  unfold tkA
  rw [e]
theorem tk_cons0 (t : Tk) (T : List Tk) : tk (t :: T) 0 = t := rfl
theorem tk_consS (t : Tk) (T : List Tk) (i : Nat) : tk (t :: T) (i + 1) = tk T i := by
  unfold tk
  rw [List.getD_cons_succ]
theorem Lx_lex {B : Nat → Nat} {n e : Nat} (h : SrcOk B n) : ∀ f p, p ≤ n → n + 1 ≤ p + f → lineEnd B n p e → Lx B n (lexT B n e f p) ∧ tk (lexT B n e f p) 0 = tkA B n p ∧ p ≤ (tk (lexT B n e f p) 0).2.1 := by
  intro f
  induction f with
  | zero => intro p hp hf; exact absurd hf (by omega)
  | succ f ih =>
    intro p hp hf hl
    have hn := h.1
    have hq := sc_le (P := blk) (B := B) hp
    have hfr := free_sc (B := B) hp blk_10
    have hlq := hl.on hq.1 hfr
    have one : ∀ t : Tk, t = tkA B n p → t.1 ≤ 1 → t.2.2.1 = sc blk B n p → t.2.1 ≤ n → p ≤ t.2.1 → Lx B n [t] ∧ tk [t] 0 = tkA B n p ∧ p ≤ (tk [t] 0).2.1 := by
      intro t et t1 tn tp tpp
      refine ⟨⟨Nat.lt_succ_self 0, by show 1 ≤ 6001; omega, fun i hi => ?_⟩, et, tpp⟩
      obtain rfl : i = 0 := by have : i < 1 := hi; omega
      rw [tk_cons0]
      refine ⟨⟨fun _ => rfl, fun _ => t1⟩, by rw [tn]; exact hq.2, fun z => absurd z (by show ¬ 0 + 1 < 1; omega), fun _ => by rw [tn, tkA_q hp, et], fun z => ?_, tp, by omega, fun z => by omega, fun z => by omega⟩
      have e2 : t.2.1 = sc blk B n p := by
        rw [et] at z ⊢
        exact if_neg z
      rw [e2, tkA_q hp, et]
    unfold lexT
    by_cases c0 : (tokF B n (sc blk B n p)).1 = 0
    · rw [if_pos c0]
      have hb10 : sc nlB B n (sc blk B n p) = e := by
        have h1 := lineEnd_sc (B := B) (n := n) hq.2
        have a1 := h1.1
        have a2 := hlq.1
        have n1 : ¬ sc nlB B n (sc blk B n p) < e := fun z => by
          have := hlq.2.2.1 _ a1 z
          exact this (h1.2.2.2 (by have := hlq.2.1; omega))
        have n2 : ¬ e < sc nlB B n (sc blk B n p) := fun z => by
          have := h1.2.2.1 _ a2 z
          exact this (hlq.2.2.2 (by have := h1.2.1; omega))
        omega
      refine one _ ?_ (by show 0 ≤ 1; omega) rfl hlq.2.1 (by have := hlq.1; show p ≤ e; omega)
      unfold tkA
      rw [c0, if_pos rfl, if_pos (by omega), hb10]
      have hv : (tokF B n (sc blk B n p)).2.2 = 0 := by
        have c1 : byR B n (sc blk B n p) = 10 ∨ byR B n (sc blk B n p) = 59 := by
          by_cases z : byR B n (sc blk B n p) = 10 ∨ byR B n (sc blk B n p) = 59
          · exact z
          · exact absurd c0 (tokF_1 h z).1
        unfold tokF
        rw [if_pos c1]
      rw [hv]
    · rw [if_neg c0]
      by_cases c1 : (tokF B n (sc blk B n p)).1 = 1
      · rw [if_pos c1]
        refine one _ ?_ (by show 1 ≤ 1; omega) rfl hq.2 hq.1
        unfold tkA
        rw [c1, if_neg (by decide), if_pos (by omega)]
        have hv : (tokF B n (sc blk B n p)).2.2 = 0 := by
          have d1 : ¬ (byR B n (sc blk B n p) = 10 ∨ byR B n (sc blk B n p) = 59) := by
            intro z
            unfold tokF at c0
            rw [if_pos z] at c0
            exact c0 rfl
          have kz : ∀ (x : Nat × Nat × Nat) (q : Nat), x.1 = 1 → (x = (1, q, 0) ∨ ¬ x.1 = 1) → x.2.2 = 0 := by
            intro x q hx hor
            rcases hor with e | e
            · rw [e]
            · exact absurd hx e
          refine kz _ (sc blk B n p) c1 ?_
          unfold tokF
          rw [if_neg d1]
          have a1 : ∀ q, nameK B n q = (1, q, 0) ∨ ¬ (nameK B n q).1 = 1 := by
            intro q
            unfold nameK
            split
            · exact Or.inl rfl
            · split
              · exact Or.inr (show ¬ (2 : Nat) = 1 by decide)
              · exact Or.inr (show ¬ (2 : Nat) = 1 by decide)
          have a2 : ∀ q p b, numK B n q p b = (1, q, 0) ∨ ¬ (numK B n q p b).1 = 1 := by
            intro q p b
            unfold numK
            split
            · exact Or.inl rfl
            · exact Or.inr (show ¬ (3 : Nat) = 1 by decide)
          have a3 : ∀ q, texK B n q = (1, q, 0) ∨ ¬ (texK B n q).1 = 1 := by
            intro q
            unfold texK
            split
            · exact Or.inr (show ¬ (4 : Nat) = 1 by decide)
            · exact Or.inl rfl
          have a4 : ∀ q, quoK B n q = (1, q, 0) ∨ ¬ (quoK B n q).1 = 1 := by
            intro q
            unfold quoK
            split
            · exact Or.inr (show ¬ (3 : Nat) = 1 by decide)
            · exact Or.inl rfl
          split
          · exact a1 _
          split
          · exact a2 _ _ _
          split
          · exact a3 _
          split
          · exact a2 _ _ _
          split
          · exact a2 _ _ _
          split
          · exact a4 _
          split
          · rename_i z
            split
            · refine Or.inr (show ¬ byR B n (sc blk B n p) = 1 by omega)
            · exact Or.inl rfl
          split
          · rename_i s
            refine Or.inr (fun z => ?_)
            have z : byR B n (sc blk B n p) = 1 := z
            rw [z] at s
            revert s
            decide
          · exact Or.inl rfl
        rw [hv]
      · rw [if_neg c1]
        obtain ⟨f1, f2⟩ := tok_free hq.2 c0 c1
        have hl2 := hlq.on (by omega) f2
        have hnx : (tokF B n (sc blk B n p)).2.1 ≤ n := by have := hl2.1; have := hl2.2.1; omega
        obtain ⟨g1, g2, g3⟩ := ih _ hnx (by omega) hl2
        have et : tkA B n p = ((tokF B n (sc blk B n p)).1, sc blk B n p, (tokF B n (sc blk B n p)).2.1, (tokF B n (sc blk B n p)).2.2) := by
          unfold tkA
          rw [if_neg c0, if_neg (by omega)]
        have hlen := lexT_len (e := e) f _ hnx hl2
        refine ⟨⟨Nat.succ_pos _, by rw [List.length_cons]; omega, fun i hi => ?_⟩, et.symm, hq.1⟩
        cases i with
        | zero =>
          rw [tk_cons0]
          refine ⟨⟨fun z => ?_, fun z => ?_⟩, hnx, fun _ => ?_, fun z => ?_, fun _ => ?_, hq.2, tokF_128 h _, fun z => tok_num h z, fun z => ?_⟩
          · have z : (tokF B n (sc blk B n p)).1 ≤ 1 := z
            omega
          · have := g1.1
            rw [List.length_cons] at z
            omega
          · rw [tk_consS]
            refine ⟨g2, ?_⟩
            show sc blk B n p < _
            omega
          · have z : (tokF B n (sc blk B n p)).1 ≤ 1 := z
            omega
          · show tkA B n (sc blk B n p) = _
            rw [tkA_q hp, et]
          · have z : (tokF B n (sc blk B n p)).1 = 2 := z
            have := tok_name h z
            show nmTok B n ((tokF B n (sc blk B n p)).1, _, _, _)
            rw [z]
            exact this
        | succ i =>
          rw [List.length_cons] at hi ⊢
          obtain ⟨q1, q2, q3, q4⟩ := g1.2.2 i (by omega)
          rw [tk_consS, tk_consS]
          refine ⟨⟨fun z => by have := q1.mp z; omega, fun z => q1.mpr (by omega)⟩, q2, fun z => q3 (by omega), q4⟩
