/-! Lines that aren't done, the reference's side -/
theorem byR10 {B : Nat → Nat} {n q : Nat} : q < n ∨ (byR B n q = 10 ∧ isS 10 = false ∧ isN 10 = false ∧ blk 10 = false) := by
  by_cases z : q < n
  · exact Or.inl z
  · exact Or.inr ⟨byR_out (by omega), by decide, by decide, by decide⟩
theorem sF_self (d : vmD) (o f : Nat) : sF d o f (gF d o f) = d := by
  refine D_ext (fun x => ?_) (fun _ => rfl) (fun _ => rfl) (fun _ => rfl)
  by_cases e : x = o
  · subst e
    rw [gF_sF]
    funext k
    by_cases z : k = f
    · subst z
      rw [u1f_eq]
    · rw [u1f_ne _ _ z]
  · rw [gF_sF_ne _ _ _ e]
theorem any57 {B : Nat → Nat} {n q : Nat} (hO : SrcOk B n) (hq : q ≤ n) (Q : Int64 → vmD → Prop) : ∀ (k m : Nat) (r : vmD), q + m + k = sc isN B n (q + m) + k ∨ True → sc isN B n (q + m) - (q + m) = k → q + m ≤ n → SrcR B n r → gF r 42 2 = nI (q + m) → Q (if 8 < sc isN B n (q + m) - q then 0 else lN (wdN B q (sc isN B n (q + m) - q))) (sF r 42 2 (nI (sc isN B n (q + m)))) → ∃ f, MO_anyName_57 Q f (if m ≤ 8 then lN (wdN B q m) else 0) (nI m) r := by
  have hn := hO.1
  intro k
  induction k with
  | zero =>
    intro m r _ hk hm hr h2 hQ
    have hs := sc_le (P := isN) (B := B) hm
    have e : sc isN B n (q + m) = q + m := by omega
    have hnot : isN (byR B n (q + m)) = false := by
      have := sc_at (P := isN) (B := B) hm
      rw [e] at this
      rcases this with z | z
      · rw [byR_out z]
        decide
      · rcases byR10 (B := B) (n := n) (q := q + m) with y | y
        · rw [byR_in y]
          exact z
        · rw [y.1]
          exact y.2.2.1
    rw [e] at hQ
    have es : sF r 42 2 (nI (q + m)) = r := by
      rw [← h2]
      exact sF_self r 42 2
    rw [es, show q + m - q = m by omega] at hQ
    have hb := byR_lt hO (q + m)
    obtain ⟨y1, y2⟩ := (isN_R hb).mpr hnot
    refine ⟨1, ?_⟩
    unfold MO_anyName_57
    rw [h2, atR hO hr (by omega), sta_e, y1, if_pos rfl, h2, atR hO hr (by omega), MO_isDigit_e, y2, if_pos rfl]
    by_cases z : 8 < m
    · rw [if_pos (show (8 : Int32) < nI m from nI_lt (a := 8) z (by omega))]
      rw [if_pos z] at hQ
      exact hQ
    · rw [if_neg (show ¬ (8 : Int32) < nI m from nI_nlt (a := 8) (by omega) (by omega))]
      rw [if_neg z] at hQ
      rw [if_pos (by omega)]
      exact hQ
  | succ k ih =>
    intro m r _ hk hm hr h2 hQ
    have hs := sc_le (P := isN) (B := B) hm
    have hlt : q + m < n := by omega
    have hin := sc_in (P := isN) (B := B) hm (q + m) (Nat.le_refl _) (by omega)
    have hy := sc_yes (P := isN) (B := B) (n := n) hlt hin
    have hb := hO.2 (q + m)
    have M1 : ModR [2, 4] [] r (sF r 42 2 (nI (q + (m + 1)))) := (ModR.refl _ _ r).sF (by decide) _
    have e2 : q + m + 1 = q + (m + 1) := by omega
    rw [e2] at hy
    have hq2 : Q (if 8 < sc isN B n (q + (m + 1)) - q then 0 else lN (wdN B q (sc isN B n (q + (m + 1)) - q))) (sF (sF r 42 2 (nI (q + (m + 1)))) 42 2 (nI (sc isN B n (q + (m + 1))))) := by
      rw [sF_same]
      rw [← hy]
      exact hQ
    obtain ⟨f, hf⟩ := ih (m + 1) (sF r 42 2 (nI (q + (m + 1)))) (Or.inr trivial) (by rw [← hy]; omega) (by omega) (hr.mod M1 (by decide) (by decide)) (by rw [gF_sF, u1f_eq]) hq2
    have s87 : MO_anyName_87 (MO_anyName_57 Q f) (if m ≤ 8 then lN (wdN B q m) else 0) (nI m) r Q := by
      have s115 : ∀ w : Int64, w = (if m + 1 ≤ 8 then lN (wdN B q (m + 1)) else 0) → MO_anyName_115 (MO_anyName_57 Q f) (nI m) w r Q := by
        intro w hw
        subst hw
        unfold MO_anyName_115
        refine bnd_iff.mpr (bnd_iff.mpr ?_)
        rw [h2, nI_p1, nI_p1, e2]
        exact hf
      unfold MO_anyName_87
      by_cases z : m < 8
      · rw [if_pos (show nI m < (8 : Int32) from nI_lt (b := 8) z (by omega)), h2, atR hO hr (by omega), byR_in hlt, MO_capital_e, cap_b _ hb]
        refine s115 _ ?_
        have hc : capN (B (q + m)) < 256 := by
          unfold capN
          split <;> omega
        rw [if_pos (by omega), if_pos (by omega)]
        exact word_step (wdN B q m) (capN (B (q + m))) hc
      · rw [if_neg (show ¬ nI m < (8 : Int32) from nI_nlt (b := 8) (by omega) (by omega))]
        exact s115 _ (by rw [if_neg (by omega)])
    have hbR := byR_lt hO (q + m)
    have hyes : isN (byR B n (q + m)) = true := by
      rw [byR_in hlt]
      exact hin
    refine ⟨f + 1, ?_⟩
    unfold MO_anyName_57
    rw [h2, atR hO hr (by omega), sta_e]
    by_cases y : staV (nI (byR B n (q + m))) = 0
    · have y2 : ¬ MO_isDigit_v (nI (byR B n (q + m))) = 0 := fun w => by
        have := (isN_R hbR).mp ⟨y, w⟩
        rw [hyes] at this
        cases this
      rw [if_pos y, h2, atR hO hr (by omega), MO_isDigit_e, if_neg y2]
      exact s87
    · rw [if_neg y]
      exact s87
theorem anyR {B : Nat → Nat} {n : Nat} (hO : SrcOk B n) (Q : Int64 → vmD → Prop) : ∀ p, p ≤ n → ∀ r : vmD, SrcR B n r → gF r 42 2 = nI p → Q (wdA B n (sc blk B n p)) (sF (sF r 42 4 (nI (sc blk B n p))) 42 2 (nI (nmE B n (sc blk B n p)))) → MO_anyName r Q := by
  have hn := hO.1
  intro p hp r hr h2 hQ
  show ∃ m, MO_anyName_0 Q m r
  revert r
  refine sc_ind (P := blk) (B := B) (n := n) (fun p => ∀ r : vmD, SrcR B n r → gF r 42 2 = nI p → Q (wdA B n (sc blk B n p)) (sF (sF r 42 4 (nI (sc blk B n p))) 42 2 (nI (nmE B n (sc blk B n p)))) → ∃ m, MO_anyName_0 Q m r) (fun p hp e => ?_) (fun p hp e ih => ?_) p hp
  · intro r hr h2 hQ
    rw [sc_no e] at hQ
    have hb := byR_lt hO p
    have hbl : blk (byR B n p) = false := by
      rcases byR10 (B := B) (n := n) (q := p) with y | y
      · rw [byR_in y]
        exact e.resolve_left (by omega)
      · rw [y.1]
        exact y.2.2.2
    obtain ⟨r1, hr1⟩ : ∃ r1, r1 = sF r 42 4 (nI p) := ⟨_, rfl⟩
    have M1 : ModR [2, 4] [] r r1 := by
      rw [hr1]
      exact (ModR.refl _ _ r).sF (by decide) _
    have hS1 := hr.mod M1 (by decide) (by decide)
    have h21 : gF r1 42 2 = nI p := by
      rw [hr1, gF_sF, u1f_ne _ _ (by decide)]
      exact h2
    rw [← hr1] at hQ
    by_cases z : isS (byR B n p) = true
    · have eN : nmE B n p = sc isN B n p := if_pos z
      unfold wdA at hQ
      rw [eN] at hQ
      obtain ⟨f, hf⟩ := any57 (q := p) hO hp Q (sc isN B n p - p) 0 r1 (Or.inr trivial) rfl hp hS1 h21 hQ
      refine ⟨1, ?_⟩
      unfold MO_anyName_0
      rw [h2, atR hO hr (by omega), MO_isBlank_e, blR_b _ hb, hbl, if_neg Bool.false_ne_true, if_pos rfl]
      refine bnd_iff.mpr ?_
      rw [h2, ← hr1, h21, atR hO hS1 (by omega), sta_e, sta_b _ hb, if_pos z, if_neg (by decide)]
      exact ⟨f, hf⟩
    · have eN : nmE B n p = p := if_neg z
      unfold wdA at hQ
      rw [eN, Nat.sub_self, if_neg (by omega)] at hQ
      have es : sF r1 42 2 (nI p) = r1 := by
        rw [← h21]
        exact sF_self r1 42 2
      rw [es] at hQ
      refine ⟨1, ?_⟩
      unfold MO_anyName_0
      rw [h2, atR hO hr (by omega), MO_isBlank_e, blR_b _ hb, hbl, if_neg Bool.false_ne_true, if_pos rfl]
      refine bnd_iff.mpr ?_
      rw [h2, ← hr1, h21, atR hO hS1 (by omega), sta_e, sta_b _ hb, if_neg z, if_pos rfl]
      exact hQ
  · intro r hr h2 hQ
    rw [sc_yes hp e] at hQ
    have M1 : ModR [2, 4] [] r (sF r 42 2 (nI (p + 1))) := (ModR.refl _ _ r).sF (by decide) _
    obtain ⟨m, hm⟩ := ih (sF r 42 2 (nI (p + 1))) (hr.mod M1 (by decide) (by decide)) (by rw [gF_sF, u1f_eq]) (by
      rw [sF_comm r 42 _ _ (show ¬ (2 : Nat) = 4 by decide), sF_same]
      exact hQ)
    refine ⟨m + 1, ?_⟩
    unfold MO_anyName_0
    rw [h2, atR hO hr (by omega), byR_in hp, MO_isBlank_e, blR_b _ (hO.2 p), e, if_pos rfl, if_neg (by decide)]
    refine bnd_iff.mpr ?_
    rw [h2, nI_p1]
    exact hm
theorem wdA_w {B : Nat → Nat} {n q c i0 : Nat} (hO : SrcOk B n) (hq : q ≤ n) (hne : ¬ nmE B n q = q) (hc : c < 2 ^ 63) (hp : 0 < c) (hi : ¬ idN (kNF 12 c) = 0) (h0 : ¬ i0 = 0) (ht : ∀ i, i < 107 → (kK (tabN i) = 0 ∨ (lg_cmp (wId i) (lN c) = 0 ↔ i = i0))) : lg_cmp (wdA B n q) (lN c) = 0 ↔ idN (kyA B n q) = i0 := by
  have lq := nmE_le (B := B) hq
  have hS : isS (byR B n q) = true := Decidable.byContradiction fun z => hne (if_neg z)
  have eN : nmE B n q = sc isN B n q := if_pos hS
  obtain ⟨m, hm⟩ : ∃ m, m = nmE B n q - q := ⟨_, rfl⟩
  have hN : ∀ i, i < m → isN (B (q + i)) = true := fun i hi => sc_in (P := isN) (B := B) hq (q + i) (by omega) (by rw [← eN]; omega)
  have n0 : ¬ lg_cmp 0 (lN c) = 0 := by
    rw [lg_cmp_eq]
    intro z
    have := (pk_lEQ (a := 0) (b := c) (by omega) hc).mp z
    omega
  unfold wdA kyA
  rw [← hm]
  by_cases z12 : 12 < m
  · rw [if_pos (by omega), if_pos z12]
    have : idN 0 = 0 := if_pos rfl
    rw [this]
    exact ⟨fun z => absurd z n0, fun z => absurd z.symm h0⟩
  · rw [if_neg z12]
    have hg := goodK_key hO.2 (show 1 ≤ m by omega) (show m ≤ 12 by omega) hN
    have e : (if 8 < m then (0 : Int64) else lN (wdN B q m)) = wOfK (keyD B q m) := by
      unfold wOfK
      by_cases z8 : 8 < m
      · have hb := key_big (B := B) (q := q) hO.2 (m - 1) (fun i hi => hN i (by omega))
        rw [show m - 1 + 1 = m by omega] at hb
        have hpw : 38 ^ 8 ≤ 38 ^ (m - 1) := Nat.pow_le_pow_right (by omega) (by omega)
        rw [if_pos z8, if_neg (by omega)]
      · have hlt : keyD B q m < 38 ^ 8 := Nat.lt_of_lt_of_le (keyD_lt B q _) (Nat.pow_le_pow_right (by omega) (by omega))
        rw [if_neg z8, if_pos hlt, wNF_key hO.2 m 12 (by omega) hN]
    rw [e]
    exact wEq hg (by omega) hp hi h0 ht
/-- the reference's state between lines -/
def BtR (B : Nat → Nat) (n : Nat) (r : vmD) (N : Nt) (sec : Bool) (h : Nat) (cs : Cs) (P : Pt) : Prop := SrcOk B n ∧ SrcR B n r ∧ FnR r N ∧ gF r 42 20 = nI h ∧ gF r 42 42 = kb sec ∧ gF r 42 8 = 0 ∧ CsR r cs ∧ PtR sec r P
theorem BtR.mod {B : Nat → Nat} {n : Nat} {F A : List Nat} {r r' : vmD} {N : Nt} {sec : Bool} {h : Nat} {cs : Cs} {P : Pt} (hB : BtR B n r N sec h cs P) (M : ModR F A r r') (h8 : gF r' 42 8 = 0) (hF : ¬ 1 ∈ F ∧ ¬ 13 ∈ F ∧ ¬ 20 ∈ F ∧ ¬ 42 ∈ F ∧ ¬ 45 ∈ F ∧ ¬ 39 ∈ F ∧ ¬ 40 ∈ F) (hA : ¬ 43 ∈ A ∧ ¬ 44 ∈ A ∧ ¬ 45 ∈ A ∧ ¬ 46 ∈ A ∧ ¬ 56 ∈ A ∧ ¬ 57 ∈ A ∧ ¬ 58 ∈ A) : BtR B n r' N sec h cs P := by
  obtain ⟨a, b, c, d, e, g, i, j⟩ := hB
  obtain ⟨f1, f2, f4, f5, f6, f7, f8⟩ := hF
  obtain ⟨a1, a2, a3, a4, a5, a6, a7⟩ := hA
  refine ⟨a, b.mod M f1 a1, ?_, ?_, ?_, h8, i.mod M f6 a6 a7, ?_⟩
  · unfold FnR at c ⊢
    rw [M.2.1 13 f2, M.2.2.1 44 a2, M.2.2.1 45 a3, M.2.2.1 46 a4]
    exact c
  · rw [M.2.1 20 f4]
    exact d
  · rw [M.2.1 42 f5]
    exact e
  · unfold PtR at j ⊢
    rw [M.2.1 39 f7, M.2.1 40 f8, M.2.2.1 56 a5]
    exact j
theorem sc_e {B : Nat → Nat} {n p e q : Nat} {P : Nat → Bool} (hl : lineEnd B n p e) (h1 : p ≤ q) (h2 : q ≤ e) (hP : ∀ b, P b = true → ¬ b = 10) : q ≤ sc P B n q ∧ sc P B n q ≤ e := by
  have hq : q ≤ n := Nat.le_trans h2 hl.2.1
  have hs := sc_le (P := P) (B := B) hq
  refine ⟨hs.1, Decidable.byContradiction fun z => ?_⟩
  have hlt : e < n := by omega
  exact hP _ (sc_in (P := P) (B := B) hq e h2 (by omega)) (hl.2.2.2 hlt)
theorem nmE_e {B : Nat → Nat} {n p e q : Nat} (hl : lineEnd B n p e) (h1 : p ≤ q) (h2 : q ≤ e) : q ≤ nmE B n q ∧ nmE B n q ≤ e := by
  unfold nmE
  split
  · exact sc_e hl h1 h2 isN_10
  · exact ⟨Nat.le_refl _, h2⟩
/-- IF, ELSE, ENDIF at a place, or none -/
def rwF (w q : Nat) (cs : Cs) : Fo := if isR w = true ∧ ¬ alw w cs = true then some (7, q) else none
def rwC (w : Nat) (cs : Cs) : Cs := if isR w = true then pas w false cs else cs
theorem s77R {B : Nat → Nat} {n : Nat} {r : vmD} {N : Nt} {sec : Bool} {h : Nat} {cs : Cs} {P : Pt} (hB : BtR B n r N sec h cs P) {W : Int64} {w q : Nat} (q104 : lg_cmp W 18758 = 0 ↔ w = 104) (q105 : lg_cmp W 1162629957 = 0 ↔ w = 105) (q106 : lg_cmp W 297665841478 = 0 ↔ w = 106) : ∃ r' b, (∀ Q : Int32 → vmD → Prop, Q b r' → MO_skipLine_77 W (nI q) r Q) ∧ ModR [8, 9, 45] [57, 58] r r' ∧ OutR (rwF w q cs) b r' (BtR B n r' N sec h (rwC w cs) P) := by
  obtain ⟨hO, hSr, hN, h20, h42, h8, hC, hP⟩ := id hB
  obtain ⟨c1, c2, c3, c4⟩ := id hC
  have keep : ∀ r' : vmD, ModR [8, 9, 45] [57, 58] r r' → gF r' 42 8 = 0 → CsR r' (rwC w cs) → BtR B n r' N sec h (rwC w cs) P := by
    intro r' M g8 gC
    refine ⟨hO, hSr.mod M (by decide) (by decide), ?_, ?_, ?_, g8, gC, ?_⟩
    · unfold FnR at hN ⊢
      rw [M.2.1 13 (by decide), M.2.2.1 44 (by decide), M.2.2.1 45 (by decide), M.2.2.1 46 (by decide)]
      exact hN
    · rw [M.2.1 20 (by decide)]
      exact h20
    · rw [M.2.1 42 (by decide)]
      exact h42
    · unfold PtR at hP ⊢
      rw [M.2.1 39 (by decide), M.2.1 40 (by decide), M.2.2.1 56 (by decide)]
      exact hP
  by_cases w4 : w = 104
  · have zr : isR w = true := isR_w.mpr (Or.inl w4)
    have ea : alw w cs = decide (cs.length < 8) := if_pos w4
    by_cases z8 : cs.length < 8
    · have e1 : rwF w q cs = none := if_neg (fun v => v.2 (ea.trans (decide_eq_true z8)))
      have e2 : rwC w cs = (false, false) :: cs := (if_pos zr).trans (if_pos w4)
      rw [e1]
      have M2 : ModR [8, 9, 45] [57, 58] r (sF (sA (sA r 57 cs.length (kb false)) 58 cs.length (kb false)) 42 45 (nI (cs.length + 1))) := (((ModR.refl _ _ r).sA (by decide) _ _).sA (by decide) _ _).sF (by decide) _
      refine ⟨_, 1, fun Q hQ => ?_, M2, Or.inl ⟨rfl, rfl, keep _ M2 ?_ ?_⟩⟩
      · unfold MO_skipLine_77
        rw [if_pos (q104.mpr w4), c1, if_neg (show ¬ nI cs.length = 8 from fun v => by have := (nI_eq (b := 8) (by omega) (by omega)).mp v; omega)]
        refine ⟨nI_in (by omega) (by omega), bnd_iff.mpr ?_⟩
        rw [gF_sA, c1]
        refine ⟨nI_in (by omega) (by omega), bnd_iff.mpr (bnd_iff.mpr ?_)⟩
        rw [gF_sA, gF_sA, c1, nI_clamp (by omega), nI_p1]
        exact hQ
      · rw [gF_sF, u1f_ne _ _ (by decide), gF_sA, gF_sA]
        exact h8
      · rw [e2]
        refine ⟨?_, ?_, ⟨?_, ?_⟩, ⟨?_, ?_⟩⟩
        · rw [gF_sF, u1f_eq]
          rfl
        · rw [List.length_cons]
          omega
        · show gA _ 57 (cs.map (fun x => kb x.1)).length = kb false
          rw [List.length_map, gA_sF, gA_sA_ne _ _ _ (by decide), gA_sA, u1f_eq]
        · rw [gA_sF, gA_sA_ne _ _ _ (by decide), gA_sA]
          exact c3.upd _ (by rw [List.length_map]; exact Nat.le_refl _)
        · show gA _ 58 (cs.map (fun x => kb x.2)).length = kb false
          rw [List.length_map, gA_sF, gA_sA, u1f_eq]
        · rw [gA_sF, gA_sA, gA_sA_ne _ _ _ (by decide)]
          exact c4.upd _ (by rw [List.length_map]; exact Nat.le_refl _)
    · have e1 : rwF w q cs = some (7, q) := if_pos ⟨zr, by rw [ea, decide_eq_false z8]; exact Bool.false_ne_true⟩
      obtain ⟨r', E, f, M, -⟩ := wrgR h8 7 q
      refine ⟨r', 0, fun Q hQ => ?_, M.mono (by decide) (by decide), Or.inr ⟨_, e1, rfl, f⟩⟩
      unfold MO_skipLine_77
      rw [if_pos (q104.mpr w4), c1, if_pos (show nI cs.length = 8 by rw [show cs.length = 8 by omega]; rfl)]
      exact E _ ⟨Or.inl rfl, hQ⟩
  · by_cases w56 : w = 105 ∨ w = 106
    · have zr : isR w = true := isR_w.mpr (Or.inr w56)
      obtain ⟨r', b, E, M, H⟩ := trnR (p := q) (W := W) hC h8 w56 q105 true ([] : List Tk) 0 (fun v => Bool.noConfusion v) false
      have hb := H.b01
      have e2 : rwC w cs = pas w false cs := if_pos zr
      have e1 : rwF w q cs = (if alw w cs = true then (if true = true then none else endF ([] : List Tk) 0) else some (7, q)) := by
        unfold rwF
        by_cases y : alw w cs = true
        · rw [if_neg (fun v => v.2 y), if_pos y]
          rfl
        · rw [if_pos ⟨zr, y⟩, if_neg y]
      rw [e1]
      refine ⟨r', b, fun Q hQ => ?_, M, ?_⟩
      · have e152 : MO_skipLine_152 W (nI q) r Q := by
          unfold MO_skipLine_152
          exact E _ ⟨hb, hQ⟩
        unfold MO_skipLine_77
        rw [if_neg (fun v => w4 (q104.mp v))]
        by_cases w5 : w = 105
        · rw [if_pos (q105.mpr w5)]
          exact e152
        · rw [if_neg (fun v => w5 (q105.mp v)), if_pos (q106.mpr (by omega))]
          exact e152
      · rcases H with ⟨f1, f2, f3, f4⟩ | H
        · exact Or.inl ⟨f1, f2, keep r' M f4 (by rw [e2]; exact f3)⟩
        · exact Or.inr H
    · have zr : ¬ isR w = true := fun v => by
        have := isR_w.mp v
        omega
      have e1 : rwF w q cs = none := if_neg (fun v => zr v.1)
      have e2 : rwC w cs = cs := if_neg zr
      rw [e1, e2]
      refine ⟨r, 1, fun Q hQ => ?_, ModR.refl _ _ _, Or.inl ⟨rfl, rfl, hB⟩⟩
      unfold MO_skipLine_77
      rw [if_neg (fun v => w4 (q104.mp v)), if_neg (fun v => w56 (Or.inl (q105.mp v))), if_neg (fun v => w56 (Or.inr (q106.mp v)))]
      exact hQ
theorem skpR {B : Nat → Nat} {n p e : Nat} {r : vmD} {N : Nt} {sec : Bool} {h : Nat} {cs : Cs} {P : Pt} (hB : BtR B n r N sec h cs P) (h2 : gF r 42 2 = nI p) (hl : lineEnd B n p e) : ∃ r' b, (∀ Q : Int32 → vmD → Prop, Q b r' → MO_skipLine r Q) ∧ ModR GRF GRA r r' ∧ OutR (skF B n p cs) b r' (BtR B n r' N sec h (skC B n p cs) P ∧ ∃ q, gF r' 42 2 = nI q ∧ p ≤ q ∧ q ≤ e) := by
  obtain ⟨hO, hSr, hN, h20, h42, h8, hC, hP⟩ := id hB
  have hn := hO.1
  have hen := hl.2.1
  have hpe := hl.1
  obtain ⟨a, ha⟩ : ∃ a, a = sc blk B n p := ⟨_, rfl⟩
  have la := sc_e hl (Nat.le_refl p) hpe blk_10
  rw [← ha] at la
  obtain ⟨b, hb⟩ : ∃ b, b = nmE B n a := ⟨_, rfl⟩
  have lb := nmE_e hl (q := a) (by omega) la.2
  rw [← hb] at lb
  obtain ⟨d, hd⟩ : ∃ d, d = sc blk B n b := ⟨_, rfl⟩
  have ld := sc_e hl (q := b) (by omega) lb.2 blk_10
  rw [← hd] at ld
  obtain ⟨r1, hr1⟩ : ∃ r1, r1 = sF (sF r 42 4 (nI a)) 42 2 (nI b) := ⟨_, rfl⟩
  have M1 : ModR [2, 4] [] r r1 := by
    rw [hr1]
    exact ((ModR.refl _ _ r).sF (by decide) _).sF (by decide) _
  have M1' : ModR GRF GRA r r1 := M1.mono (by decide) (by decide)
  have g2 : gF r1 42 2 = nI b := by rw [hr1, gF_sF, u1f_eq]
  have g4 : gF r1 42 4 = nI a := by rw [hr1, gF_sF, u1f_ne _ _ (by decide), gF_sF, u1f_eq]
  have h81 : gF r1 42 8 = 0 := by
    rw [M1.2.1 8 (by decide)]
    exact h8
  have hB1 : BtR B n r1 N sec h cs P := hB.mod M1 h81 (by decide) (by decide)
  have cab : nI b = nI a ↔ b = a := nI_eq (by omega) (by omega)
  have start : ∀ Q : Int32 → vmD → Prop, (if b = a then Q 1 r1 else (∃ m, MO_skipLine_29 Q m (wdA B n a) (nI a) (nI b) r1)) → MO_skipLine r Q := by
    intro Q hQ
    unfold MO_skipLine
    refine anyR hO _ p (by omega) r hSr h2 ?_
    rw [← ha, ← hb, ← hr1, g2, g4]
    by_cases z : b = a
    · rw [if_pos z] at hQ
      rw [if_pos (cab.mpr z)]
      exact hQ
    · rw [if_neg z] at hQ
      rw [if_neg (fun v => z (cab.mp v))]
      exact bnd_iff.mpr (bnd_iff.mpr hQ)
  by_cases z : b = a
  · have er : rlP B n p = none := by
      unfold rlP
      rw [← ha, ← hb, if_pos z]
    have e1 : skF B n p cs = none := by unfold skF; rw [er]
    have e2 : skC B n p cs = cs := by unfold skC; rw [er]
    rw [e1, e2]
    refine ⟨r1, 1, fun Q hQ => start Q ?_, M1', Or.inl ⟨rfl, rfl, hB1, b, g2, by omega, lb.2⟩⟩
    rw [if_pos z]
    exact hQ
  · have start : ∀ Q : Int32 → vmD → Prop, (∃ m, MO_skipLine_29 Q m (wdA B n a) (nI a) (nI b) r1) → MO_skipLine r Q := fun Q hQ => start Q (by rw [if_neg z]; exact hQ)
    have hS1 := hB1.2.1
    -- blanks behind the first name
    have loop : ∀ (Q : Int32 → vmD → Prop), (if byR B n d = 58 then (MO_anyName (sF r1 42 2 (nI (d + 1))) fun r_16 d_15 => bnd (gF d_15 42 4) fun x3_17 => MO_skipLine_77 r_16 x3_17 d_15 Q) else MO_skipLine_77 (wdA B n a) (nI a) r1 Q) → ∃ m, MO_skipLine_29 Q m (wdA B n a) (nI a) (nI b) r1 := by
      intro Q
      rw [hd]
      refine sc_ind (P := blk) (B := B) (n := n) (fun x => (if byR B n (sc blk B n x) = 58 then (MO_anyName (sF r1 42 2 (nI (sc blk B n x + 1))) fun r_16 d_15 => bnd (gF d_15 42 4) fun x3_17 => MO_skipLine_77 r_16 x3_17 d_15 Q) else MO_skipLine_77 (wdA B n a) (nI a) r1 Q) → ∃ m, MO_skipLine_29 Q m (wdA B n a) (nI a) (nI x) r1) (fun x hx e => ?_) (fun x hx e ih => ?_) b (by omega)
      · intro hQ
        rw [sc_no e] at hQ
        have hbl : blk (byR B n x) = false := by
          rcases byR10 (B := B) (n := n) (q := x) with y | y
          · rw [byR_in y]
            exact e.resolve_left (by omega)
          · rw [y.1]
            exact y.2.2.2
        have hbx := byR_lt hO x
        have c58 : nI (byR B n x) = 58 ↔ byR B n x = 58 := nI_eq (b := 58) (by omega) (by omega)
        refine ⟨1, ?_⟩
        unfold MO_skipLine_29
        rw [atR hO hS1 (by omega), MO_isBlank_e, blR_b _ hbx, hbl, if_neg Bool.false_ne_true, if_pos rfl, atR hO hS1 (by omega)]
        by_cases y : byR B n x = 58
        · rw [if_pos y] at hQ
          rw [if_pos (c58.mpr y), nI_p1]
          exact bnd_iff.mpr hQ
        · rw [if_neg y] at hQ
          rw [if_neg (fun v => y (c58.mp v))]
          exact hQ
      · intro hQ
        rw [sc_yes hx e] at hQ
        obtain ⟨m, hm⟩ := ih hQ
        refine ⟨m + 1, ?_⟩
        unfold MO_skipLine_29
        rw [atR hO hS1 (by omega), byR_in hx, MO_isBlank_e, blR_b _ (hO.2 x), e, if_pos rfl, if_neg (by decide)]
        refine bnd_iff.mpr ?_
        rw [nI_p1]
        exact hm
    by_cases y : byR B n d = 58
    · have hdn : d < n := in_of (by rw [y]; omega)
      have hde : d < e := by
        have : ¬ d = e := fun v => by
          have := hl.at
          rw [← v, y] at this
          omega
        omega
      obtain ⟨g, hg⟩ : ∃ g, g = sc blk B n (d + 1) := ⟨_, rfl⟩
      have lg := sc_e hl (q := d + 1) (by omega) (by omega) blk_10
      rw [← hg] at lg
      have lk := nmE_e hl (q := g) (by omega) lg.2
      have M2 : ModR [2, 4] [] r1 (sF r1 42 2 (nI (d + 1))) := (ModR.refl _ _ r1).sF (by decide) _
      obtain ⟨r2, hr2⟩ : ∃ r2, r2 = sF (sF (sF r1 42 2 (nI (d + 1))) 42 4 (nI g)) 42 2 (nI (nmE B n g)) := ⟨_, rfl⟩
      have M3 : ModR [2, 4] [] r1 r2 := by
        rw [hr2]
        exact (M2.sF (by decide) _).sF (by decide) _
      have k2 : gF r2 42 2 = nI (nmE B n g) := by rw [hr2, gF_sF, u1f_eq]
      have k4 : gF r2 42 4 = nI g := by rw [hr2, gF_sF, u1f_ne _ _ (by decide), gF_sF, u1f_eq]
      have h82 : gF r2 42 8 = 0 := by
        rw [M3.2.1 8 (by decide)]
        exact h81
      have hB2 : BtR B n r2 N sec h cs P := hB1.mod M3 h82 (by decide) (by decide)
      have start : ∀ Q : Int32 → vmD → Prop, MO_skipLine_77 (wdA B n g) (nI g) r2 Q → MO_skipLine r Q := by
        intro Q hQ
        refine start Q (loop Q ?_)
        rw [if_pos y]
        refine anyR hO _ (d + 1) (by omega) _ (hS1.mod M2 (by decide) (by decide)) (by rw [gF_sF, u1f_eq]) ?_
        rw [← hg, ← hr2]
        refine bnd_iff.mpr ?_
        rw [k4]
        exact hQ
      have M12 : ModR GRF GRA r r2 := M1'.trans (M3.mono (by decide) (by decide))
      by_cases x : nmE B n g = g
      · have er : rlP B n p = none := by
          unfold rlP
          rw [← ha, ← hb, if_neg z, ← hd, if_pos y, ← hg, if_pos x]
        have e1 : skF B n p cs = none := by unfold skF; rw [er]
        have e2 : skC B n p cs = cs := by unfold skC; rw [er]
        rw [e1, e2]
        refine ⟨r2, 1, fun Q hQ => start Q ?_, M12, Or.inl ⟨rfl, rfl, hB2, _, k2, by omega, lk.2⟩⟩
        have ew : wdA B n g = 0 := by
          unfold wdA
          rw [x, Nat.sub_self]
          rfl
        rw [ew]
        unfold MO_skipLine_77
        rw [if_neg (by decide), if_neg (by decide), if_neg (by decide)]
        exact hQ
      · have er : rlP B n p = some g := by
          unfold rlP
          rw [← ha, ← hb, if_neg z, ← hd, if_pos y, ← hg, if_neg x]
        have e1 : skF B n p cs = rwF (idN (kyA B n g)) g cs := by unfold skF; rw [er]; rfl
        have e2 : skC B n p cs = rwC (idN (kyA B n g)) cs := by unfold skC; rw [er]; rfl
        rw [e1, e2]
        obtain ⟨r3, b3, E3, M4, H3⟩ := s77R hB2 (W := wdA B n g) (w := idN (kyA B n g)) (q := g) (wdA_w (c := 18758) hO (by omega) x (by decide) (by decide) tWi.2.2.2.2.2.1 (by decide) tW104) (wdA_w (c := 1162629957) hO (by omega) x (by decide) (by decide) tWi.2.2.2.2.2.2.1 (by decide) tW105) (wdA_w (c := 297665841478) hO (by omega) x (by decide) (by decide) tWi.2.2.2.2.2.2.2 (by decide) tW106)
        refine ⟨r3, b3, fun Q hQ => start Q (E3 Q hQ), M12.trans (M4.mono (by decide) (by decide)), ?_⟩
        rcases H3 with ⟨f1, f2, f3⟩ | H3
        · exact Or.inl ⟨f1, f2, f3, nmE B n g, by rw [M4.2.1 2 (by decide)]; exact k2, by omega, lk.2⟩
        · exact Or.inr H3
    · have er : rlP B n p = some a := by
        unfold rlP
        rw [← ha, ← hb, if_neg z, ← hd, if_neg y]
      have e1 : skF B n p cs = rwF (idN (kyA B n a)) a cs := by unfold skF; rw [er]; rfl
      have e2 : skC B n p cs = rwC (idN (kyA B n a)) cs := by unfold skC; rw [er]; rfl
      rw [e1, e2]
      have x : ¬ nmE B n a = a := by rw [← hb]; exact z
      obtain ⟨r3, b3, E3, M4, H3⟩ := s77R hB1 (W := wdA B n a) (w := idN (kyA B n a)) (q := a) (wdA_w (c := 18758) hO (by omega) x (by decide) (by decide) tWi.2.2.2.2.2.1 (by decide) tW104) (wdA_w (c := 1162629957) hO (by omega) x (by decide) (by decide) tWi.2.2.2.2.2.2.1 (by decide) tW105) (wdA_w (c := 297665841478) hO (by omega) x (by decide) (by decide) tWi.2.2.2.2.2.2.2 (by decide) tW106)
      refine ⟨r3, b3, fun Q hQ => start Q (loop Q ?_), M1'.trans (M4.mono (by decide) (by decide)), ?_⟩
      · rw [if_neg y]
        exact E3 Q hQ
      · rcases H3 with ⟨f1, f2, f3⟩ | H3
        · exact Or.inl ⟨f1, f2, f3, b, by rw [M4.2.1 2 (by decide)]; exact g2, by omega, lb.2⟩
        · exact Or.inr H3
