/-! What is put: octets one behind the other -/
def wrD (D : Nat → Int32) (h : Nat) : List Int32 → Nat → Int32
  | [] => D
  | x :: l => wrD (u1f D h (x &&& 255)) (h + 1) l
def ptL (h : Nat) (l : List Int32) (P : Pt) : Pt := (wrD P.1 h l, P.2.1 + l.length, if P.2.1 = 0 ∧ 0 < l.length then h else P.2.2)
theorem ptL_nil (h : Nat) (P : Pt) : ptL h [] P = P := by
  unfold ptL
  rw [if_neg (fun q => Nat.lt_irrefl _ q.2)]
  rfl
theorem wrD_app : ∀ (l1 l2 : List Int32) (D : Nat → Int32) (h : Nat), wrD D h (l1 ++ l2) = wrD (wrD D h l1) (h + l1.length) l2 := by
  intro l1
  induction l1 with
  | nil => intro l2 D h; rfl
  | cons x l ih =>
    intro l2 D h
    show wrD (u1f D h (x &&& 255)) (h + 1) (l ++ l2) = wrD (wrD (u1f D h (x &&& 255)) (h + 1) l) (h + (l.length + 1)) l2
    rw [ih, show h + 1 + l.length = h + (l.length + 1) by omega]
theorem ptL_app (l1 l2 : List Int32) (h : Nat) (P : Pt) : ptL h (l1 ++ l2) P = ptL (h + l1.length) l2 (ptL h l1 P) := by
  unfold ptL
  rw [wrD_app, List.length_append]
  dsimp only
  have e : (if P.2.1 = 0 ∧ 0 < l1.length + l2.length then h else P.2.2) = (if P.2.1 + l1.length = 0 ∧ 0 < l2.length then h + l1.length else if P.2.1 = 0 ∧ 0 < l1.length then h else P.2.2) := by
    by_cases a : P.2.1 = 0
    · by_cases b : 0 < l1.length
      · rw [if_pos ⟨a, by omega⟩, if_neg (by omega), if_pos ⟨a, b⟩]
      · have b0 : l1.length = 0 := by omega
        by_cases c : 0 < l2.length
        · rw [if_pos ⟨a, by omega⟩, if_pos ⟨by omega, c⟩, b0]
          rfl
        · rw [if_neg (by omega), if_neg (by omega), if_neg (by omega)]
    · rw [if_neg (fun q => a q.1), if_neg (by omega), if_neg (fun q => a q.1)]
  rw [e, Nat.add_assoc]
abbrev PF : List (Nat × Nat) := [(20, 12), (20, 13)]
theorem cntC {c : vmD} {P : Pt} (h12 : gF c 20 12 = nI P.2.1) (hp : P.2.1 < 2 ^ 31) (a k : Nat) (Q : vmD → Prop) : Forger_count (nI a) (nI k) c Q = Q (sF (if P.2.1 = 0 then sF c 20 13 (nI a) else c) 20 12 (nI (P.2.1 + k))) := by
  unfold Forger_count
  rw [h12]
  have e : nI P.2.1 = 0 ↔ P.2.1 = 0 := nI_eq (b := 0) hp (by omega)
  by_cases z : P.2.1 = 0
  · rw [if_pos (e.mpr z), if_pos z]
    refine (propext bnd_iff).trans ?_
    unfold Forger_count_12
    refine (propext bnd_iff).trans ?_
    rw [gF_sF, u1f_ne _ _ (by decide), h12, nI_add]
  · rw [if_neg (fun q => z (e.mp q)), if_neg z]
    unfold Forger_count_12
    refine (propext bnd_iff).trans ?_
    rw [h12, nI_add]
theorem put1C {c : vmD} {P : Pt} (hP : PtC c P) {a : Nat} (ha : a < 65536) (hp : P.2.1 < 2 ^ 30) (x : Int32) : ∃ c', (∀ Q : vmD → Prop, Q c' → Memory_store (nI a) x c fun d_3 => Forger_count (nI a) 1 d_3 Q) ∧ PtC c' (ptL a [x] P) ∧ ModC PF [2] [] c c' := by
  obtain ⟨h1, h2, h3⟩ := hP
  have e65 : nI a &&& 65535 = nI a := wrd.and ⟨a, ha, rfl⟩
  obtain ⟨c1, hc1⟩ : ∃ c1, c1 = sA c 2 a ((Int8.toInt32 (Int32.toInt8 x)).toInt8.toInt32) := ⟨_, rfl⟩
  have M1 : ModC PF [2] [] c c1 := by
    rw [hc1]
    exact (ModC.refl _ _ _ c).sA (by decide) _ _
  have g12 : gF c1 20 12 = nI P.2.1 := by
    rw [hc1, gF_sA]
    exact h2
  have e1 : ∀ d : vmD, (if P.2.1 = 0 then sF d 20 13 (nI a) else d) = d ∨ (if P.2.1 = 0 then sF d 20 13 (nI a) else d) = sF d 20 13 (nI a) := by
    intro d
    split
    · exact Or.inr rfl
    · exact Or.inl rfl
  refine ⟨sF (if P.2.1 = 0 then sF c1 20 13 (nI a) else c1) 20 12 (nI (P.2.1 + 1)), fun Q hQ => ?_, ⟨?_, ?_, ?_⟩, ?_⟩
  · unfold Memory_store
    rw [e65]
    refine ⟨nI_in ha (by omega), bnd_iff.mpr ?_⟩
    rw [nI_clamp (by omega), ← hc1]
    have := cntC g12 (by omega) a 1 Q
    rw [show nI 1 = 1 from rfl] at this
    dsimp only
    rw [this]
    exact hQ
  · intro b hb
    have hA : gA (sF (if P.2.1 = 0 then sF c1 20 13 (nI a) else c1) 20 12 (nI (P.2.1 + 1))) 2 = gA c1 2 := by
      rcases e1 c1 with e | e
      · rw [e]
        simp only [gA_sA, gA_sA_ne, gA_sF, gA_sG, gA_sL, gF_sA, gF_sF, gF_sF_ne, gF_sG, gF_sL, gG_sA, gG_sF, gG_sL, gG_sGe, gG_sG_ne, gL_sA, gL_sF, gL_sG, gL_sLe, gL_sL_ne, u1f_eq, u1f_ne, bnd_iff, not_false_eq_true]
      · rw [e]
        simp only [gA_sA, gA_sA_ne, gA_sF, gA_sG, gA_sL, gF_sA, gF_sF, gF_sF_ne, gF_sG, gF_sL, gG_sA, gG_sF, gG_sL, gG_sGe, gG_sG_ne, gL_sA, gL_sF, gL_sG, gL_sLe, gL_sL_ne, u1f_eq, u1f_ne, bnd_iff, not_false_eq_true]
    rw [hA, hc1, gA_sA]
    show u1f P.1 a (x &&& 255) b = _
    by_cases z : b = a
    · subst z
      rw [u1f_eq, u1f_eq, bp_b2]
    · rw [u1f_ne _ _ z, u1f_ne _ _ z]
      exact h1 b hb
  · rw [gF_sF, u1f_eq]
    rfl
  · show gF (sF (if P.2.1 = 0 then sF c1 20 13 (nI a) else c1) 20 12 (nI (P.2.1 + 1))) 20 13 = nI (if P.2.1 = 0 ∧ 0 < [x].length then a else P.2.2)
    rw [gF_sF, u1f_ne _ _ (by decide)]
    by_cases z : P.2.1 = 0
    · rw [if_pos z, if_pos ⟨z, Nat.zero_lt_one⟩, gF_sF, u1f_eq]
    · rw [if_neg z, if_neg (fun q => z q.1), hc1, gF_sA]
      exact h3
  · refine ModC.sF ?_ (by decide) _
    rcases e1 c1 with e | e
    · rw [e]
      exact M1
    · rw [e]
      exact M1.sF (by decide) _
/-- the octets of a number -/
def numO (k : Nat) (v : Int32) : List Int32 := if k = 0 then [] else if k = 1 then [v] else [v, v >>> ((8 : Int32) &&& 31)]
def ptW (wh h : Nat) (l : List Int32) (P : Pt) : Pt := if wh = 3 then ptL h l P else P
theorem ptW_app (wh : Nat) (l1 l2 : List Int32) (h : Nat) (P : Pt) : ptW wh h (l1 ++ l2) P = ptW wh (h + l1.length) l2 (ptW wh h l1 P) := by
  unfold ptW
  split
  · exact ptL_app _ _ _ _
  · rfl
theorem ptW_nil (wh h : Nat) (P : Pt) : ptW wh h [] P = P := by
  unfold ptW
  split
  · exact ptL_nil _ _
  · rfl
theorem w3 {c : vmD} {wh : Nat} (h9 : gF c 20 9 = nI wh) (hw : wh < 4) : gF c 20 9 = 3 ↔ wh = 3 := by
  rw [h9]
  exact nI_eq (b := 3) (by omega) (by omega)
theorem numPC {c : vmD} {P : Pt} (hP : PtC c P) {wh : Nat} (h9 : gF c 20 9 = nI wh) (hw : wh < 4) {a k : Nat} (hk : k ≤ 2) (ha : wh = 3 → a + k ≤ 65536) (hp : P.2.1 < 2 ^ 29) (v : Int32) : ∃ c', (∀ Q : vmD → Prop, Q c' → Forger_putNumber (nI a) (nI k) v c Q) ∧ PtC c' (ptW wh a (numO k v) P) ∧ ModC PF [2] [] c c' ∧ (¬ wh = 3 → gA c' 2 = gA c 2) := by
  by_cases z : wh = 3
  · have ha := ha z
    have e9 : ∀ d, ModC PF [2] [] c d → gF d 20 9 = 3 := by
      intro d M
      rw [M.1 20 9 (by decide)]
      exact (w3 h9 hw).mpr z
    have eP : ptW wh a (numO k v) P = ptL a (numO k v) P := if_pos z
    rw [eP]
    have s0 : v >>> (((8 : Int32) * 0) &&& 31) = v := by
      rw [show (((8 : Int32) * 0) &&& 31) = 0 by decide]
      exact Int32.shiftRight_zero
    have s1 : v >>> (((8 : Int32) * (0 + 1)) &&& 31) = v >>> ((8 : Int32) &&& 31) := by
      rw [show (((8 : Int32) * (0 + 1)) &&& 31) = (8 : Int32) &&& 31 by decide]
    have r : k = 0 ∨ k = 1 ∨ k = 2 := by omega
    rcases r with rfl | rfl | rfl
    · refine ⟨c, fun Q hQ => ⟨1, ?_⟩, by rw [show numO 0 v = [] from rfl, ptL_nil]; exact hP, ModC.refl _ _ _ c, fun q => absurd z q⟩
      unfold Forger_putNumber_3
      rw [if_pos (e9 c (ModC.refl _ _ _ c)), if_neg (by decide)]
      exact hQ
    · obtain ⟨c1, E1, P1, M1⟩ := put1C hP (a := a) (by omega) (by omega) v
      refine ⟨c1, fun Q hQ => ⟨2, ?_⟩, P1, M1, fun q => absurd z q⟩
      unfold Forger_putNumber_3
      rw [if_pos (e9 c (ModC.refl _ _ _ c)), if_pos (by decide), Int32.add_zero, s0]
      refine E1 _ (bnd_iff.mpr ?_)
      unfold Forger_putNumber_3
      rw [if_pos (e9 c1 M1), if_neg (by decide)]
      exact hQ
    · obtain ⟨c1, E1, P1, M1⟩ := put1C hP (a := a) (by omega) (by omega) v
      have hp1 : (ptL a [v] P).2.1 < 2 ^ 30 := by
        show P.2.1 + 1 < 2 ^ 30
        omega
      obtain ⟨c2, E2, P2, M2⟩ := put1C P1 (a := a + 1) (by omega) hp1 (v >>> ((8 : Int32) &&& 31))
      have e2 : ptL a (numO 2 v) P = ptL (a + 1) [v >>> ((8 : Int32) &&& 31)] (ptL a [v] P) := ptL_app [v] [v >>> ((8 : Int32) &&& 31)] a P
      refine ⟨c2, fun Q hQ => ⟨3, ?_⟩, by rw [e2]; exact P2, M1.trans M2, fun q => absurd z q⟩
      unfold Forger_putNumber_3
      rw [if_pos (e9 c (ModC.refl _ _ _ c)), if_pos (by decide), Int32.add_zero, s0]
      refine E1 _ (bnd_iff.mpr ?_)
      unfold Forger_putNumber_3
      rw [if_pos (e9 c1 M1), if_pos (by decide), s1, show nI a + (0 + 1) = nI (a + 1) from nI_p1 a]
      refine E2 _ (bnd_iff.mpr ?_)
      unfold Forger_putNumber_3
      rw [if_pos (e9 c2 (M1.trans M2)), if_neg (by decide)]
      exact hQ
  · have eP : ptW wh a (numO k v) P = P := if_neg z
    rw [eP]
    refine ⟨c, fun Q hQ => ⟨1, ?_⟩, hP, ModC.refl _ _ _ c, fun _ => rfl⟩
    unfold Forger_putNumber_3
    rw [if_neg (fun q => z ((w3 h9 hw).mp q))]
    exact hQ
theorem lgc_lt {a b : Nat} (ha : a < 2 ^ 63) (hb : b < 2 ^ 63) : lg_cmp (lN a) (lN b) < 0 ↔ a < b := by
  unfold lg_cmp
  by_cases z : b < a
  · rw [if_pos (show lN a > lN b from (pk_lLT hb ha).mpr z)]
    exact ⟨fun w => absurd w (by decide), fun w => absurd w (by omega)⟩
  · rw [if_neg (show ¬ lN a > lN b from fun q => z ((pk_lLT hb ha).mp q))]
    by_cases e : a = b
    · rw [if_pos (show lN a = lN b by rw [e])]
      exact ⟨fun w => absurd w (by decide), fun w => absurd w (by omega)⟩
    · rw [if_neg (show ¬ lN a = lN b from fun q => e ((pk_lEQ ha hb).mp q))]
      exact ⟨fun _ => by omega, fun _ => by decide⟩
/-- a TEXT -/
def txL (B : Nat → Nat) (p : Nat) : Nat → List Int32
  | 0 => []
  | v + 1 => nI (B p) :: txL B (p + 1) v
theorem txL_len (B : Nat → Nat) : ∀ (v p : Nat), (txL B p v).length = v := by
  intro v
  induction v with
  | zero => intro p; rfl
  | succ v ih =>
    intro p
    show (txL B (p + 1) v).length + 1 = v + 1
    rw [ih]
theorem tokF_4 {B : Nat → Nat} {n q : Nat} (h : (tokF B n q).1 = 4) : ∃ v, tokF B n q = (4, q + v + 2, v) ∧ q + v + 2 ≤ n := by
  unfold tokF at h ⊢
  split at h
  · cases h
  · split at h
    · rcases nameK_1 B n q with e | e <;> omega
    · split at h
      · rcases numK_1 B n q q 10 with e | e <;> omega
      · split at h
        · rename_i c1 c2 c3 c4
          rw [if_neg c1, if_neg c2, if_neg c3, if_pos c4]
          unfold texK at h ⊢
          by_cases g : byR B n (sc txtB B n (q + 1)) = 34
          · rw [if_pos g]
            have hq : q < n := by
              by_cases w : q < n
              · exact w
              · rw [byR_out (by omega)] at c4
                omega
            have hs := sc_le (P := txtB) (B := B) (n := n) (p := q + 1) (by omega)
            have hlt : sc txtB B n (q + 1) < n := by
              by_cases w : sc txtB B n (q + 1) < n
              · exact w
              · rw [byR_out (by omega)] at g
                omega
            refine ⟨sc txtB B n (q + 1) - q - 1, ?_, by omega⟩
            rw [show q + (sc txtB B n (q + 1) - q - 1) + 2 = sc txtB B n (q + 1) + 1 by omega]
          · rw [if_neg g] at h
            cases h
        · split at h
          · rcases numK_1 B n q (q + 1) 16 with e | e <;> omega
          · split at h
            · rcases numK_1 B n q (q + 1) 2 with e | e <;> omega
            · split at h
              · rcases quoK_1 B n q with e | e <;> omega
              · split at h
                · split at h
                  · rename_i a b
                    dsimp only at h
                    rcases a with a | a <;> omega
                  · cases h
                · split at h
                  · rename_i a
                    dsimp only at h
                    rw [h] at a
                    exact absurd a (by decide)
                  · cases h
theorem text_tk {B : Nat → Nat} {n : Nat} {T : List Tk} (hL : Lx B n T) {t : Nat} (ht : t < T.length) (hk : (tk T t).1 = 4) : (tk T t).2.2.1 = plaT T t + (tk T t).2.2.2 + 2 ∧ plaT T t + (tk T t).2.2.2 + 2 ≤ n := by
  have e := (hL.2.2 t ht).2.2.2.2.1 (by omega)
  unfold tkA at e
  have e1 : (tokF B n (sc blk B n (tk T t).2.1)).1 = (tk T t).1 := congrArg (fun z => z.1) e
  rw [hk] at e1
  have e2 : sc blk B n (tk T t).2.1 = (tk T t).2.1 := by
    have := congrArg (fun z => z.2.1) e
    dsimp only at this
    rw [e1, if_neg (by omega)] at this
    exact this
  have e3 : (tokF B n (tk T t).2.1).2.1 = (tk T t).2.2.1 := by
    have := congrArg (fun z => z.2.2.1) e
    dsimp only at this
    rw [e1, if_neg (by omega), e2] at this
    exact this
  have e4 : (tokF B n (tk T t).2.1).2.2 = (tk T t).2.2.2 := by
    have := congrArg (fun z => z.2.2.2) e
    dsimp only at this
    rw [e2] at this
    exact this
  rw [e2] at e1
  obtain ⟨v, g1, g2⟩ := tokF_4 e1
  rw [g1] at e3 e4
  dsimp only at e3 e4
  unfold plaT
  omega
theorem txtPC {B : Nat → Nat} {n : Nat} {c : vmD} {T : List Tk} {P : Pt} (hO : SrcOk B n) (hS : SrcC B n c) (hT : TkC c T) (hL : Lx B n T) (hP : PtC c P) {wh : Nat} (h9 : gF c 20 9 = nI wh) (hw : wh < 4) {t : Nat} (ht : t < T.length) (hk : (tk T t).1 = 4) {a : Nat} (ha : wh = 3 → a + (tk T t).2.2.2 ≤ 65536) (hp : P.2.1 < 2 ^ 28) : ∃ c', (∀ Q : vmD → Prop, Q c' → Forger_putText (nI a) (nI t) c Q) ∧ PtC c' (ptW wh a (txL B (plaT T t + 1) (tk T t).2.2.2) P) ∧ ModC PF [2] [] c c' ∧ (¬ wh = 3 → gA c' 2 = gA c 2) := by
  have hTl := hL.2.1
  have hn := hO.1
  obtain ⟨-, g2⟩ := text_tk hL ht hk
  have hlt : ∀ i : Nat, i < 2 ^ 31 → (lg_cmp (Int32.toInt64 (nI i)) (lN (tk T t).2.2.2) < 0 ↔ i < (tk T t).2.2.2) := by
    intro i hi
    rw [nI_l hi]
    exact lgc_lt (by omega) (by omega)
  have key : ∀ (m i : Nat) (d : vmD) (P1 : Pt), i + m = (tk T t).2.2.2 → ModC PF [2] [] c d → PtC d P1 → P1.2.1 ≤ P.2.1 + i → ∃ c', (∀ Q : vmD → Prop, Q c' → ∃ f, Forger_putText_14 Q f (nI a) (nI t) (nI (plaT T t + 1)) (nI i) d) ∧ PtC c' (ptW wh (a + i) (txL B (plaT T t + 1 + i) m) P1) ∧ ModC PF [2] [] c c' ∧ (¬ wh = 3 → gA c' 2 = gA d 2) := by
    intro m
    induction m with
    | zero =>
      intro i d P1 hi M hP1 hb
      refine ⟨d, fun Q hQ => ⟨1, ?_⟩, ?_, M, fun _ => rfl⟩
      · unfold Forger_putText_14
        rw [valueC (hT.mod M (by decide) (by decide) (by decide) (by decide)) (by omega), if_neg (fun w => by have := (hlt i (by omega)).mp w; omega)]
        exact hQ
      · rw [show txL B (plaT T t + 1 + i) 0 = [] from rfl, ptW_nil]
        exact hP1
    | succ m ih =>
      intro i d P1 hi M hP1 hb
      have hSd : SrcC B n d := by
        unfold SrcC at hS ⊢
        rw [M.1 9 1 (by decide), M.2.1 10 (by decide)]
        exact hS
      have h9d : gF d 20 9 = nI wh := by
        rw [M.1 20 9 (by decide)]
        exact h9
      obtain ⟨d1, E1, Q1, M1, W1⟩ := numPC hP1 h9d hw (a := a + i) (k := 1) (by omega) (fun z => by have := ha z; omega) (by omega) (nI (B (plaT T t + 1 + i)))
      have hb1 : (ptW wh (a + i) (numO 1 (nI (B (plaT T t + 1 + i)))) P1).2.1 ≤ P.2.1 + (i + 1) := by
        unfold ptW
        split
        · show P1.2.1 + 1 ≤ P.2.1 + (i + 1)
          omega
        · omega
      obtain ⟨c', E2, Q2, M2, W2⟩ := ih (i + 1) d1 _ (by omega) (M.trans M1) Q1 hb1
      refine ⟨c', fun Q hQ => ?_, ?_, M2, fun w => (W2 w).trans (W1 w)⟩
      · obtain ⟨f, hf⟩ := E2 Q hQ
        refine ⟨f + 1, ?_⟩
        unfold Forger_putText_14
        rw [valueC (hT.mod M (by decide) (by decide) (by decide) (by decide)) (by omega), if_pos ((hlt i (by omega)).mpr (by omega)), show nI (plaT T t + 1) + nI i = nI (plaT T t + 1 + i) from nI_add _ _, atC hO hSd (by omega)]
        have e : byC B n (plaT T t + 1 + i) = nI (B (plaT T t + 1 + i)) := if_pos (by omega)
        rw [e, show nI a + nI i = nI (a + i) from nI_add _ _]
        refine E1 _ (bnd_iff.mpr ?_)
        rw [nI_p1]
        exact hf
      · have e : ptW wh (a + i) (txL B (plaT T t + 1 + i) (m + 1)) P1 = ptW wh (a + (i + 1)) (txL B (plaT T t + 1 + (i + 1)) m) (ptW wh (a + i) (numO 1 (nI (B (plaT T t + 1 + i)))) P1) := ptW_app wh [nI (B (plaT T t + 1 + i))] (txL B (plaT T t + 1 + i + 1) m) (a + i) P1
        rw [e]
        exact Q2
  obtain ⟨c', E, R, M, W⟩ := key (tk T t).2.2.2 0 c P (by omega) (ModC.refl _ _ _ c) hP (by omega)
  refine ⟨c', fun Q hQ => ?_, R, M, W⟩
  unfold Forger_putText
  rw [placeC hT (by omega)]
  refine bnd_iff.mpr ?_
  rw [nI_p1]
  exact E Q hQ
