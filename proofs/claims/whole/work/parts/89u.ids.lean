/-! The tokens of a line; reserved names; the names that are told -/
def tk (T : List Tk) (t : Nat) : Tk := T.getD t (0, 0, 0, 0)
theorem tk_in {T : List Tk} {t : Nat} (h : t < T.length) : tk T t = T[t] := by
  unfold tk
  rw [List.getD_eq_getElem?_getD, List.getElem?_eq_getElem h]
  rfl
theorem tk_out {T : List Tk} {t : Nat} (h : T.length ≤ t) : tk T t = (0, 0, 0, 0) := by
  unfold tk
  rw [List.getD_eq_getElem?_getD, List.getElem?_eq_none h]
  rfl
theorem kindC {c : vmD} {T : List Tk} (h : TkC c T) {t : Nat} (ht : t < 2 ^ 31) (Q : Int32 → vmD → Prop) : Tokens_kind (nI t) c Q = Q (nI (tk T t).1) c := by
  obtain ⟨h1, h2, h3⟩ := h
  unfold Tokens_kind
  rw [if_neg (nI_pos ht), h1]
  by_cases e : t < T.length
  · rw [if_pos (nI_lt e (by omega)), if_pos (show nI t < 6001 from nI_lt (b := 6001) (by omega) (by omega)), tA (nI_in (by omega) (by omega)), tk_in e]
    refine (propext bnd_iff).trans ?_
    rw [nI_clamp (by omega), (h3 t e).1]
  · rw [if_neg (nI_nlt (by omega) ht), tk_out (by omega)]
    rfl
theorem placeC {c : vmD} {T : List Tk} (h : TkC c T) {t : Nat} (ht : t < 2 ^ 31) (Q : Int32 → vmD → Prop) : Tokens_place (nI t) c Q = Q (nI (tk T t).2.1) c := by
  obtain ⟨h1, h2, h3⟩ := h
  unfold Tokens_place
  rw [if_neg (nI_pos ht), h1]
  by_cases e : t < T.length
  · rw [if_pos (nI_lt e (by omega)), if_pos (show nI t < 6001 from nI_lt (b := 6001) (by omega) (by omega)), tA (nI_in (by omega) (by omega)), tk_in e]
    refine (propext bnd_iff).trans ?_
    rw [nI_clamp (by omega), (h3 t e).2.1]
  · rw [if_neg (nI_nlt (by omega) ht), tk_out (by omega)]
    rfl
theorem valueC {c : vmD} {T : List Tk} (h : TkC c T) {t : Nat} (ht : t < 2 ^ 31) (Q : Int64 → vmD → Prop) : Tokens_value (nI t) c Q = Q (lN (tk T t).2.2.2) c := by
  obtain ⟨h1, h2, h3⟩ := h
  unfold Tokens_value Tokens_value_30
  rw [if_neg (nI_pos ht), h1]
  by_cases e : t < T.length
  · rw [if_pos (nI_lt e (by omega)), if_pos (show nI t < 6001 from nI_lt (b := 6001) (by omega) (by omega)), tA (nI_in (by omega) (by omega)), tk_in e]
    refine (propext bnd_iff).trans ?_
    rw [nI_clamp (by omega), (h3 t e).2.2]
  · rw [if_neg (nI_nlt (by omega) ht), tk_out (by omega)]
    rfl
/-- a key of a name -/
def goodK (K : Nat) : Prop := 0 < K ∧ K < 38 ^ 12 ∧ (K < 38 ^ 8 → kNF 12 (wNF 12 K) = K ∧ wNF 12 K < 2 ^ 64)
def idG (K : Nat) : Nat → Nat → Nat
  | 0, _ => 0
  | f + 1, i => if kK (tabN i) = K then i else idG K f (i + 1)
def idN (K : Nat) : Nat := if K = 0 then 0 else idG K 106 1
/-- what a name's token says -/
def nmTok (B : Nat → Nat) (n : Nat) (t : Tk) : Prop := goodK t.2.2.2 ∧ (idN t.2.2.2 = 0 → ∃ m, 1 ≤ m ∧ m ≤ 12 ∧ t.2.2.1 = t.2.1 + m ∧ t.2.1 + m ≤ n ∧ (∀ i, i < m → isN (B (t.2.1 + i)) = true) ∧ t.2.2.2 = keyD B t.2.1 m)
/-- the chain of a line's tokens -/
def Lx (B : Nat → Nat) (n : Nat) (T : List Tk) : Prop := 0 < T.length ∧ T.length ≤ 6001 ∧ ∀ t, t < T.length →
  ((tk T t).1 ≤ 1 ↔ t + 1 = T.length) ∧ (tk T t).2.2.1 ≤ n ∧ (t + 1 < T.length → tk T (t + 1) = tkA B n (tk T t).2.2.1 ∧ (tk T t).2.1 < (tk T (t + 1)).2.1) ∧ ((tk T t).1 ≤ 1 → tkA B n (tk T t).2.2.1 = tk T t) ∧ (¬ (tk T t).1 = 0 → tkA B n (tk T t).2.1 = tk T t) ∧ (tk T t).2.1 ≤ n ∧ (tk T t).1 < 128 ∧ ((tk T t).1 = 3 → (tk T t).2.2.2 < 65536) ∧ ((tk T t).1 = 2 → nmTok B n (tk T t))
theorem idG_spec (K : Nat) : ∀ f i, (idG K f i = 0 ∧ ∀ j, i ≤ j → j < i + f → ¬ kK (tabN j) = K) ∨ (i ≤ idG K f i ∧ idG K f i < i + f ∧ kK (tabN (idG K f i)) = K) := by
  intro f
  induction f with
  | zero => intro i; exact Or.inl ⟨rfl, fun j h1 h2 => absurd h1 (by omega)⟩
  | succ f ih =>
    intro i
    unfold idG
    by_cases e : kK (tabN i) = K
    · rw [if_pos e]
      exact Or.inr ⟨Nat.le_refl _, by omega, e⟩
    · rw [if_neg e]
      rcases ih (i + 1) with ⟨h1, h2⟩ | ⟨h1, h2, h3⟩
      · refine Or.inl ⟨h1, fun j a b => ?_⟩
        by_cases q : j = i
        · rw [q]
          exact e
        · exact h2 j (by omega) (by omega)
      · exact Or.inr ⟨by omega, by omega, h3⟩
theorem idN_lt (K : Nat) : idN K < 107 := by
  unfold idN
  split
  · omega
  · rcases idG_spec K 106 1 with ⟨h, -⟩ | ⟨-, h, -⟩ <;> omega
theorem idN_k {K : Nat} (h : ¬ idN K = 0) : kK (tabN (idN K)) = K := by
  unfold idN at h ⊢
  split
  · rename_i e
    rw [if_pos e] at h
    exact absurd rfl h
  · rename_i e
    rw [if_neg e] at h
    rcases idG_spec K 106 1 with ⟨h1, -⟩ | ⟨-, -, h3⟩
    · exact absurd h1 h
    · exact h3
theorem idOfC {c : vmD} (hC : CC c) {K : Nat} (hK : K < 2 ^ 63) (Q : Int32 → vmD → Prop) (hQ : Q (nI (idN K)) c) : Names_idOf (lN K) c Q := by
  unfold Names_idOf
  by_cases e : K = 0
  · subst e
    rw [if_neg (by decide)]
    exact hQ
  · rw [if_pos (by rw [lg_cmp_gt]; exact (pk_lLT (a := 0) (by omega) hK).mpr (by omega))]
    unfold idN at hQ
    rw [if_neg e] at hQ
    have key : ∀ f i, i + f = 107 → Q (nI (idG K f i)) c → ∃ m, Names_idOf_8 Q m (lN K) (nI i) c := by
      intro f
      induction f with
      | zero =>
        intro i hi hq
        refine ⟨1, ?_⟩
        unfold Names_idOf_8
        rw [if_neg (show ¬ nI i < 107 from nI_nlt (b := 107) (by omega) (by omega))]
        exact hq
      | succ f ih =>
        intro i hi hq
        have ht := tabN_ok i (by omega)
        have h63 : kK (tabN i) < 2 ^ 63 := Nat.lt_trans ht.2.1 (pow38 _ ht.2.2.2)
        have hiff : lg_cmp (tabN i) (lN K) = 0 ↔ kK (tabN i) = K := by
          rw [lg_cmp_eq]
          rw [show (tabN i = lN K) = (lN (kK (tabN i)) = lN K) by rw [← ht.1]]
          exact pk_lEQ h63 hK
        have hlt : nI i < 107 := nI_lt (b := 107) (by omega) (by omega)
        unfold idG at hq
        by_cases q : kK (tabN i) = K
        · rw [if_pos q] at hq
          refine ⟨1, ?_⟩
          unfold Names_idOf_8
          rw [if_pos hlt]
          refine ⟨nI_in (by omega) (by omega), bnd_iff.mpr ?_⟩
          rw [nI_clamp (by omega), hC.1 i (by omega), if_pos (hiff.mpr q)]
          exact hq
        · rw [if_neg q] at hq
          obtain ⟨m, hm⟩ := ih (i + 1) (by omega) hq
          refine ⟨m + 1, ?_⟩
          unfold Names_idOf_8
          rw [if_pos hlt]
          refine ⟨nI_in (by omega) (by omega), bnd_iff.mpr ?_⟩
          rw [nI_clamp (by omega), hC.1 i (by omega), if_neg (fun z => q (hiff.mp z))]
          refine bnd_iff.mpr ?_
          rw [nI_p1]
          exact hm
    exact key 106 1 rfl hQ
theorem noW {K : Nat} (hg : goodK K) (h0 : idN K = 0) (c : Nat) (hc : c < 2 ^ 64) (hp : 0 < c) (hi : ¬ idN (kNF 12 c) = 0) : ¬ lg_cmp (wOfK K) (lN c) = 0 := by
  rw [lg_cmp_eq]
  intro e
  unfold wOfK at e
  by_cases h8 : K < 38 ^ 8
  · rw [if_pos h8] at e
    obtain ⟨g1, g2⟩ := hg.2.2 h8
    have := lN_inj64 g2 hc e
    rw [this] at g1
    rw [g1] at hi
    exact hi h0
  · rw [if_neg h8] at e
    have := lN_inj64 (a := 0) (b := c) (by omega) hc e
    omega
/-- the word of a reserved name -/
def wId (i : Nat) : Int64 := wOfK (kK (tabN i))
theorem wId_k {K : Nat} (h : ¬ idN K = 0) : wOfK K = wId (idN K) := by
  unfold wId
  rw [idN_k h]
set_option maxRecDepth 8000 in
def MO_isRegister_v (x1 : Int64) : Int32 :=
  if (lg_cmp x1 65) = 0 then
  (1)
  else
  (if (lg_cmp x1 66) = 0 then
  (1)
  else
  (if (lg_cmp x1 67) = 0 then
  (1)
  else
  (if (lg_cmp x1 68) = 0 then
  (1)
  else
  (if (lg_cmp x1 69) = 0 then
  (1)
  else
  (if (lg_cmp x1 72) = 0 then
  (1)
  else
  (if (lg_cmp x1 76) = 0 then
  (1)
  else
  (if (lg_cmp x1 73) = 0 then
  (1)
  else
  (if (lg_cmp x1 82) = 0 then
  (1)
  else
  (if (lg_cmp x1 16710) = 0 then
  (1)
  else
  (if (lg_cmp x1 4277799) = 0 then
  (1)
  else
  (if (lg_cmp x1 16963) = 0 then
  (1)
  else
  (if (lg_cmp x1 17477) = 0 then
  (1)
  else
  (if (lg_cmp x1 18508) = 0 then
  (1)
  else
  (if (lg_cmp x1 21328) = 0 then
  (1)
  else
  (if (lg_cmp x1 18776) = 0 then
  (1)
  else
  (if (lg_cmp x1 18777) = 0 then
  (1)
  else
  (if (lg_cmp x1 20058) = 0 then
  (1)
  else
  (if (lg_cmp x1 90) = 0 then
  (1)
  else
  (if (lg_cmp x1 20035) = 0 then
  (1)
  else
  (if (lg_cmp x1 20559) = 0 then
  (1)
  else
  (if (lg_cmp x1 20549) = 0 then
  (1)
  else
  (if (lg_cmp x1 80) = 0 then
  (1)
  else
  (if (lg_cmp x1 77) = 0 then
  (1)
  else
  (0))))))))))))))))))))))))
set_option maxRecDepth 8000 in
theorem MO_isRegister_e (x1 : Int64) (d : vmD) (Q : Int32 → vmD → Prop) : MO_isRegister x1 d Q = Q (MO_isRegister_v x1) d := by
  have hq : ∀ (p : Prop) [Decidable p] (a b : Int32), Q (if p then a else b) d = if p then Q a d else Q b d := by
    intro p _ a b
    split <;> rfl
  simp only [MO_isRegister, MO_isRegister_v, bnd_iff, hq]
set_option maxRecDepth 8000 in
theorem MO_isRegister_0 {K : Nat} (hg : goodK K) (h0 : idN K = 0) : MO_isRegister_v (wOfK K) = (0) := by
  unfold MO_isRegister_v
  rw [if_neg (show ¬ lg_cmp (wOfK K) 65 = 0 from noW hg h0 65 (by decide) (by decide) (by decide +kernel)), if_neg (show ¬ lg_cmp (wOfK K) 66 = 0 from noW hg h0 66 (by decide) (by decide) (by decide +kernel)), if_neg (show ¬ lg_cmp (wOfK K) 67 = 0 from noW hg h0 67 (by decide) (by decide) (by decide +kernel)), if_neg (show ¬ lg_cmp (wOfK K) 68 = 0 from noW hg h0 68 (by decide) (by decide) (by decide +kernel)), if_neg (show ¬ lg_cmp (wOfK K) 69 = 0 from noW hg h0 69 (by decide) (by decide) (by decide +kernel)), if_neg (show ¬ lg_cmp (wOfK K) 72 = 0 from noW hg h0 72 (by decide) (by decide) (by decide +kernel)), if_neg (show ¬ lg_cmp (wOfK K) 76 = 0 from noW hg h0 76 (by decide) (by decide) (by decide +kernel)), if_neg (show ¬ lg_cmp (wOfK K) 73 = 0 from noW hg h0 73 (by decide) (by decide) (by decide +kernel)), if_neg (show ¬ lg_cmp (wOfK K) 82 = 0 from noW hg h0 82 (by decide) (by decide) (by decide +kernel)), if_neg (show ¬ lg_cmp (wOfK K) 16710 = 0 from noW hg h0 16710 (by decide) (by decide) (by decide +kernel)), if_neg (show ¬ lg_cmp (wOfK K) 4277799 = 0 from noW hg h0 4277799 (by decide) (by decide) (by decide +kernel)), if_neg (show ¬ lg_cmp (wOfK K) 16963 = 0 from noW hg h0 16963 (by decide) (by decide) (by decide +kernel)), if_neg (show ¬ lg_cmp (wOfK K) 17477 = 0 from noW hg h0 17477 (by decide) (by decide) (by decide +kernel)), if_neg (show ¬ lg_cmp (wOfK K) 18508 = 0 from noW hg h0 18508 (by decide) (by decide) (by decide +kernel)), if_neg (show ¬ lg_cmp (wOfK K) 21328 = 0 from noW hg h0 21328 (by decide) (by decide) (by decide +kernel)), if_neg (show ¬ lg_cmp (wOfK K) 18776 = 0 from noW hg h0 18776 (by decide) (by decide) (by decide +kernel)), if_neg (show ¬ lg_cmp (wOfK K) 18777 = 0 from noW hg h0 18777 (by decide) (by decide) (by decide +kernel)), if_neg (show ¬ lg_cmp (wOfK K) 20058 = 0 from noW hg h0 20058 (by decide) (by decide) (by decide +kernel)), if_neg (show ¬ lg_cmp (wOfK K) 90 = 0 from noW hg h0 90 (by decide) (by decide) (by decide +kernel)), if_neg (show ¬ lg_cmp (wOfK K) 20035 = 0 from noW hg h0 20035 (by decide) (by decide) (by decide +kernel)), if_neg (show ¬ lg_cmp (wOfK K) 20559 = 0 from noW hg h0 20559 (by decide) (by decide) (by decide +kernel)), if_neg (show ¬ lg_cmp (wOfK K) 20549 = 0 from noW hg h0 20549 (by decide) (by decide) (by decide +kernel)), if_neg (show ¬ lg_cmp (wOfK K) 80 = 0 from noW hg h0 80 (by decide) (by decide) (by decide +kernel)), if_neg (show ¬ lg_cmp (wOfK K) 77 = 0 from noW hg h0 77 (by decide) (by decide) (by decide +kernel))]
set_option maxRecDepth 8000 in
def MO_isStatement_v (x1 : Int64) : Int32 :=
  if (lg_cmp x1 5198407) = 0 then
  (1)
  else
  (if (lg_cmp x1 17474) = 0 then
  (1)
  else
  (if (lg_cmp x1 17495) = 0 then
  (1)
  else
  (if (lg_cmp x1 17491) = 0 then
  (1)
  else
  (if (lg_cmp x1 18758) = 0 then
  (1)
  else
  (if (lg_cmp x1 1162629957) = 0 then
  (1)
  else
  (if (lg_cmp x1 297665841478) = 0 then
  (1)
  else
  (0)))))))
set_option maxRecDepth 8000 in
theorem MO_isStatement_e (x1 : Int64) (d : vmD) (Q : Int32 → vmD → Prop) : MO_isStatement x1 d Q = Q (MO_isStatement_v x1) d := by
  have hq : ∀ (p : Prop) [Decidable p] (a b : Int32), Q (if p then a else b) d = if p then Q a d else Q b d := by
    intro p _ a b
    split <;> rfl
  simp only [MO_isStatement, MO_isStatement_v, bnd_iff, hq]
set_option maxRecDepth 8000 in
theorem MO_isStatement_0 {K : Nat} (hg : goodK K) (h0 : idN K = 0) : MO_isStatement_v (wOfK K) = (0) := by
  unfold MO_isStatement_v
  rw [if_neg (show ¬ lg_cmp (wOfK K) 5198407 = 0 from noW hg h0 5198407 (by decide) (by decide) (by decide +kernel)), if_neg (show ¬ lg_cmp (wOfK K) 17474 = 0 from noW hg h0 17474 (by decide) (by decide) (by decide +kernel)), if_neg (show ¬ lg_cmp (wOfK K) 17495 = 0 from noW hg h0 17495 (by decide) (by decide) (by decide +kernel)), if_neg (show ¬ lg_cmp (wOfK K) 17491 = 0 from noW hg h0 17491 (by decide) (by decide) (by decide +kernel)), if_neg (show ¬ lg_cmp (wOfK K) 18758 = 0 from noW hg h0 18758 (by decide) (by decide) (by decide +kernel)), if_neg (show ¬ lg_cmp (wOfK K) 1162629957 = 0 from noW hg h0 1162629957 (by decide) (by decide) (by decide +kernel)), if_neg (show ¬ lg_cmp (wOfK K) 297665841478 = 0 from noW hg h0 297665841478 (by decide) (by decide) (by decide +kernel))]
set_option maxRecDepth 8000 in
def MO_plain_v (x1 : Int64) : Int32 :=
  if (lg_cmp x1 5132112) = 0 then
  (0)
  else
  (if (lg_cmp x1 1380729665) = 0 then
  (7)
  else
  (if (lg_cmp x1 1381122881) = 0 then
  (15)
  else
  (if (lg_cmp x1 5393473) = 0 then
  (23)
  else
  (if (lg_cmp x1 5395009) = 0 then
  (31)
  else
  (if (lg_cmp x1 4473153) = 0 then
  (39)
  else
  (if (lg_cmp x1 4411468) = 0 then
  (47)
  else
  (if (lg_cmp x1 5456710) = 0 then
  (55)
  else
  (if (lg_cmp x1 4408134) = 0 then
  (63)
  else
  (if (lg_cmp x1 1212238932) = 0 then
  (118)
  else
  (if (lg_cmp x1 4544600) = 0 then
  (217)
  else
  (if (lg_cmp x1 17481) = 0 then
  (243)
  else
  (if (lg_cmp x1 17737) = 0 then
  (251)
  else
  (if (lg_cmp x1 5129543) = 0 then
  (324)
  else
  (if (lg_cmp x1 1380275278) = 0 then
  (325)
  else
  (if (lg_cmp x1 1380275273) = 0 then
  (333)
  else
  (if (lg_cmp x1 5395012) = 0 then
  (359)
  else
  (if (lg_cmp x1 5393476) = 0 then
  (367)
  else
  (if (lg_cmp x1 4998217) = 0 then
  (416)
  else
  (if (lg_cmp x1 4411465) = 0 then
  (417)
  else
  (if (lg_cmp x1 4804169) = 0 then
  (418)
  else
  (if (lg_cmp x1 1330992201) = 0 then
  (419)
  else
  (if (lg_cmp x1 4998212) = 0 then
  (424)
  else
  (if (lg_cmp x1 4411460) = 0 then
  (425)
  else
  (if (lg_cmp x1 4804164) = 0 then
  (426)
  else
  (if (lg_cmp x1 1330992196) = 0 then
  (427)
  else
  (if (lg_cmp x1 1279543634) = 0 then
  (432)
  else
  (if (lg_cmp x1 1129335122) = 0 then
  (433)
  else
  (if (lg_cmp x1 1229867346) = 0 then
  (434)
  else
  (if (lg_cmp x1 1330923858) = 0 then
  (435)
  else
  (if (lg_cmp x1 1279542354) = 0 then
  (440)
  else
  (if (lg_cmp x1 1129333842) = 0 then
  (441)
  else
  (if (lg_cmp x1 1229866066) = 0 then
  (442)
  else
  (if (lg_cmp x1 1330922578) = 0 then
  (443)
  else
  ((-1)))))))))))))))))))))))))))))))))))
set_option maxRecDepth 8000 in
theorem MO_plain_e (x1 : Int64) (d : vmD) (Q : Int32 → vmD → Prop) : MO_plain x1 d Q = Q (MO_plain_v x1) d := by
  have hq : ∀ (p : Prop) [Decidable p] (a b : Int32), Q (if p then a else b) d = if p then Q a d else Q b d := by
    intro p _ a b
    split <;> rfl
  simp only [MO_plain, MO_plain_v, bnd_iff, hq]
set_option maxRecDepth 8000 in
theorem MO_plain_0 {K : Nat} (hg : goodK K) (h0 : idN K = 0) : MO_plain_v (wOfK K) = (-1) := by
  unfold MO_plain_v
  rw [if_neg (show ¬ lg_cmp (wOfK K) 5132112 = 0 from noW hg h0 5132112 (by decide) (by decide) (by decide +kernel)), if_neg (show ¬ lg_cmp (wOfK K) 1380729665 = 0 from noW hg h0 1380729665 (by decide) (by decide) (by decide +kernel)), if_neg (show ¬ lg_cmp (wOfK K) 1381122881 = 0 from noW hg h0 1381122881 (by decide) (by decide) (by decide +kernel)), if_neg (show ¬ lg_cmp (wOfK K) 5393473 = 0 from noW hg h0 5393473 (by decide) (by decide) (by decide +kernel)), if_neg (show ¬ lg_cmp (wOfK K) 5395009 = 0 from noW hg h0 5395009 (by decide) (by decide) (by decide +kernel)), if_neg (show ¬ lg_cmp (wOfK K) 4473153 = 0 from noW hg h0 4473153 (by decide) (by decide) (by decide +kernel)), if_neg (show ¬ lg_cmp (wOfK K) 4411468 = 0 from noW hg h0 4411468 (by decide) (by decide) (by decide +kernel)), if_neg (show ¬ lg_cmp (wOfK K) 5456710 = 0 from noW hg h0 5456710 (by decide) (by decide) (by decide +kernel)), if_neg (show ¬ lg_cmp (wOfK K) 4408134 = 0 from noW hg h0 4408134 (by decide) (by decide) (by decide +kernel)), if_neg (show ¬ lg_cmp (wOfK K) 1212238932 = 0 from noW hg h0 1212238932 (by decide) (by decide) (by decide +kernel)), if_neg (show ¬ lg_cmp (wOfK K) 4544600 = 0 from noW hg h0 4544600 (by decide) (by decide) (by decide +kernel)), if_neg (show ¬ lg_cmp (wOfK K) 17481 = 0 from noW hg h0 17481 (by decide) (by decide) (by decide +kernel)), if_neg (show ¬ lg_cmp (wOfK K) 17737 = 0 from noW hg h0 17737 (by decide) (by decide) (by decide +kernel)), if_neg (show ¬ lg_cmp (wOfK K) 5129543 = 0 from noW hg h0 5129543 (by decide) (by decide) (by decide +kernel)), if_neg (show ¬ lg_cmp (wOfK K) 1380275278 = 0 from noW hg h0 1380275278 (by decide) (by decide) (by decide +kernel)), if_neg (show ¬ lg_cmp (wOfK K) 1380275273 = 0 from noW hg h0 1380275273 (by decide) (by decide) (by decide +kernel)), if_neg (show ¬ lg_cmp (wOfK K) 5395012 = 0 from noW hg h0 5395012 (by decide) (by decide) (by decide +kernel)), if_neg (show ¬ lg_cmp (wOfK K) 5393476 = 0 from noW hg h0 5393476 (by decide) (by decide) (by decide +kernel)), if_neg (show ¬ lg_cmp (wOfK K) 4998217 = 0 from noW hg h0 4998217 (by decide) (by decide) (by decide +kernel)), if_neg (show ¬ lg_cmp (wOfK K) 4411465 = 0 from noW hg h0 4411465 (by decide) (by decide) (by decide +kernel)), if_neg (show ¬ lg_cmp (wOfK K) 4804169 = 0 from noW hg h0 4804169 (by decide) (by decide) (by decide +kernel)), if_neg (show ¬ lg_cmp (wOfK K) 1330992201 = 0 from noW hg h0 1330992201 (by decide) (by decide) (by decide +kernel)), if_neg (show ¬ lg_cmp (wOfK K) 4998212 = 0 from noW hg h0 4998212 (by decide) (by decide) (by decide +kernel)), if_neg (show ¬ lg_cmp (wOfK K) 4411460 = 0 from noW hg h0 4411460 (by decide) (by decide) (by decide +kernel)), if_neg (show ¬ lg_cmp (wOfK K) 4804164 = 0 from noW hg h0 4804164 (by decide) (by decide) (by decide +kernel)), if_neg (show ¬ lg_cmp (wOfK K) 1330992196 = 0 from noW hg h0 1330992196 (by decide) (by decide) (by decide +kernel)), if_neg (show ¬ lg_cmp (wOfK K) 1279543634 = 0 from noW hg h0 1279543634 (by decide) (by decide) (by decide +kernel)), if_neg (show ¬ lg_cmp (wOfK K) 1129335122 = 0 from noW hg h0 1129335122 (by decide) (by decide) (by decide +kernel)), if_neg (show ¬ lg_cmp (wOfK K) 1229867346 = 0 from noW hg h0 1229867346 (by decide) (by decide) (by decide +kernel)), if_neg (show ¬ lg_cmp (wOfK K) 1330923858 = 0 from noW hg h0 1330923858 (by decide) (by decide) (by decide +kernel)), if_neg (show ¬ lg_cmp (wOfK K) 1279542354 = 0 from noW hg h0 1279542354 (by decide) (by decide) (by decide +kernel)), if_neg (show ¬ lg_cmp (wOfK K) 1129333842 = 0 from noW hg h0 1129333842 (by decide) (by decide) (by decide +kernel)), if_neg (show ¬ lg_cmp (wOfK K) 1229866066 = 0 from noW hg h0 1229866066 (by decide) (by decide) (by decide +kernel)), if_neg (show ¬ lg_cmp (wOfK K) 1330922578 = 0 from noW hg h0 1330922578 (by decide) (by decide) (by decide +kernel))]
set_option maxRecDepth 8000 in
def MO_isMany_v (x1 : Int64) : Int32 :=
  if (lg_cmp x1 17752) = 0 then
  (1)
  else
  (if (lg_cmp x1 1145720410) = 0 then
  (1)
  else
  (if (lg_cmp x1 19026) = 0 then
  (1)
  else
  (if (lg_cmp x1 19524) = 0 then
  (1)
  else
  (if (lg_cmp x1 4804163) = 0 then
  (1)
  else
  (if (lg_cmp x1 4474179) = 0 then
  (1)
  else
  (if (lg_cmp x1 4277316) = 0 then
  (1)
  else
  (if (lg_cmp x1 4277315) = 0 then
  (1)
  else
  (if (lg_cmp x1 5461314) = 0 then
  (1)
  else
  (if (lg_cmp x1 5456451) = 0 then
  (1)
  else
  (if (lg_cmp x1 4279876) = 0 then
  (1)
  else
  (if (lg_cmp x1 5787474) = 0 then
  (1)
  else
  (if (lg_cmp x1 20306) = 0 then
  (1)
  else
  (if (lg_cmp x1 17232) = 0 then
  (1)
  else
  (if (lg_cmp x1 5391700) = 0 then
  (1)
  else
  (if (lg_cmp x1 5263184) = 0 then
  (1)
  else
  (if (lg_cmp x1 1347769160) = 0 then
  (1)
  else
  (if (lg_cmp x1 19024) = 0 then
  (1)
  else
  (if (lg_cmp x1 1128352844) = 0 then
  (1)
  else
  (if (lg_cmp x1 5395284) = 0 then
  (1)
  else
  (if (lg_cmp x1 5199188) = 0 then
  (1)
  else
  (if (lg_cmp x1 18766) = 0 then
  (1)
  else
  (if (lg_cmp x1 5393475) = 0 then
  (1)
  else
  (if (lg_cmp x1 5395011) = 0 then
  (1)
  else
  (if (lg_cmp x1 21068) = 0 then
  (1)
  else
  (if (lg_cmp x1 21074) = 0 then
  (1)
  else
  (if (lg_cmp x1 5459009) = 0 then
  (1)
  else
  (if (lg_cmp x1 5460545) = 0 then
  (1)
  else
  (if (lg_cmp x1 5460556) = 0 then
  (1)
  else
  (if (lg_cmp x1 4344148) = 0 then
  (1)
  else
  (if (lg_cmp x1 5391699) = 0 then
  (1)
  else
  (if (lg_cmp x1 5457236) = 0 then
  (1)
  else
  (if (lg_cmp x1 18765) = 0 then
  (1)
  else
  (0)))))))))))))))))))))))))))))))))
set_option maxRecDepth 8000 in
theorem MO_isMany_e (x1 : Int64) (d : vmD) (Q : Int32 → vmD → Prop) : MO_isMany x1 d Q = Q (MO_isMany_v x1) d := by
  have hq : ∀ (p : Prop) [Decidable p] (a b : Int32), Q (if p then a else b) d = if p then Q a d else Q b d := by
    intro p _ a b
    split <;> rfl
  simp only [MO_isMany, MO_isMany_v, bnd_iff, hq]
set_option maxRecDepth 8000 in
theorem MO_isMany_0 {K : Nat} (hg : goodK K) (h0 : idN K = 0) : MO_isMany_v (wOfK K) = (0) := by
  unfold MO_isMany_v
  rw [if_neg (show ¬ lg_cmp (wOfK K) 17752 = 0 from noW hg h0 17752 (by decide) (by decide) (by decide +kernel)), if_neg (show ¬ lg_cmp (wOfK K) 1145720410 = 0 from noW hg h0 1145720410 (by decide) (by decide) (by decide +kernel)), if_neg (show ¬ lg_cmp (wOfK K) 19026 = 0 from noW hg h0 19026 (by decide) (by decide) (by decide +kernel)), if_neg (show ¬ lg_cmp (wOfK K) 19524 = 0 from noW hg h0 19524 (by decide) (by decide) (by decide +kernel)), if_neg (show ¬ lg_cmp (wOfK K) 4804163 = 0 from noW hg h0 4804163 (by decide) (by decide) (by decide +kernel)), if_neg (show ¬ lg_cmp (wOfK K) 4474179 = 0 from noW hg h0 4474179 (by decide) (by decide) (by decide +kernel)), if_neg (show ¬ lg_cmp (wOfK K) 4277316 = 0 from noW hg h0 4277316 (by decide) (by decide) (by decide +kernel)), if_neg (show ¬ lg_cmp (wOfK K) 4277315 = 0 from noW hg h0 4277315 (by decide) (by decide) (by decide +kernel)), if_neg (show ¬ lg_cmp (wOfK K) 5461314 = 0 from noW hg h0 5461314 (by decide) (by decide) (by decide +kernel)), if_neg (show ¬ lg_cmp (wOfK K) 5456451 = 0 from noW hg h0 5456451 (by decide) (by decide) (by decide +kernel)), if_neg (show ¬ lg_cmp (wOfK K) 4279876 = 0 from noW hg h0 4279876 (by decide) (by decide) (by decide +kernel)), if_neg (show ¬ lg_cmp (wOfK K) 5787474 = 0 from noW hg h0 5787474 (by decide) (by decide) (by decide +kernel)), if_neg (show ¬ lg_cmp (wOfK K) 20306 = 0 from noW hg h0 20306 (by decide) (by decide) (by decide +kernel)), if_neg (show ¬ lg_cmp (wOfK K) 17232 = 0 from noW hg h0 17232 (by decide) (by decide) (by decide +kernel)), if_neg (show ¬ lg_cmp (wOfK K) 5391700 = 0 from noW hg h0 5391700 (by decide) (by decide) (by decide +kernel)), if_neg (show ¬ lg_cmp (wOfK K) 5263184 = 0 from noW hg h0 5263184 (by decide) (by decide) (by decide +kernel)), if_neg (show ¬ lg_cmp (wOfK K) 1347769160 = 0 from noW hg h0 1347769160 (by decide) (by decide) (by decide +kernel)), if_neg (show ¬ lg_cmp (wOfK K) 19024 = 0 from noW hg h0 19024 (by decide) (by decide) (by decide +kernel)), if_neg (show ¬ lg_cmp (wOfK K) 1128352844 = 0 from noW hg h0 1128352844 (by decide) (by decide) (by decide +kernel)), if_neg (show ¬ lg_cmp (wOfK K) 5395284 = 0 from noW hg h0 5395284 (by decide) (by decide) (by decide +kernel)), if_neg (show ¬ lg_cmp (wOfK K) 5199188 = 0 from noW hg h0 5199188 (by decide) (by decide) (by decide +kernel)), if_neg (show ¬ lg_cmp (wOfK K) 18766 = 0 from noW hg h0 18766 (by decide) (by decide) (by decide +kernel)), if_neg (show ¬ lg_cmp (wOfK K) 5393475 = 0 from noW hg h0 5393475 (by decide) (by decide) (by decide +kernel)), if_neg (show ¬ lg_cmp (wOfK K) 5395011 = 0 from noW hg h0 5395011 (by decide) (by decide) (by decide +kernel)), if_neg (show ¬ lg_cmp (wOfK K) 21068 = 0 from noW hg h0 21068 (by decide) (by decide) (by decide +kernel)), if_neg (show ¬ lg_cmp (wOfK K) 21074 = 0 from noW hg h0 21074 (by decide) (by decide) (by decide +kernel)), if_neg (show ¬ lg_cmp (wOfK K) 5459009 = 0 from noW hg h0 5459009 (by decide) (by decide) (by decide +kernel)), if_neg (show ¬ lg_cmp (wOfK K) 5460545 = 0 from noW hg h0 5460545 (by decide) (by decide) (by decide +kernel)), if_neg (show ¬ lg_cmp (wOfK K) 5460556 = 0 from noW hg h0 5460556 (by decide) (by decide) (by decide +kernel)), if_neg (show ¬ lg_cmp (wOfK K) 4344148 = 0 from noW hg h0 4344148 (by decide) (by decide) (by decide +kernel)), if_neg (show ¬ lg_cmp (wOfK K) 5391699 = 0 from noW hg h0 5391699 (by decide) (by decide) (by decide +kernel)), if_neg (show ¬ lg_cmp (wOfK K) 5457236 = 0 from noW hg h0 5457236 (by decide) (by decide) (by decide +kernel)), if_neg (show ¬ lg_cmp (wOfK K) 18765 = 0 from noW hg h0 18765 (by decide) (by decide) (by decide +kernel))]
set_option maxRecDepth 8000 in
def MO_register8_v (x1 : Int64) : Int32 :=
  if (lg_cmp x1 66) = 0 then
  (0)
  else
  (if (lg_cmp x1 67) = 0 then
  (1)
  else
  (if (lg_cmp x1 68) = 0 then
  (2)
  else
  (if (lg_cmp x1 69) = 0 then
  (3)
  else
  (if (lg_cmp x1 72) = 0 then
  (4)
  else
  (if (lg_cmp x1 76) = 0 then
  (5)
  else
  (if (lg_cmp x1 65) = 0 then
  (7)
  else
  ((-1))))))))
set_option maxRecDepth 8000 in
theorem MO_register8_e (x1 : Int64) (d : vmD) (Q : Int32 → vmD → Prop) : MO_register8 x1 d Q = Q (MO_register8_v x1) d := by
  have hq : ∀ (p : Prop) [Decidable p] (a b : Int32), Q (if p then a else b) d = if p then Q a d else Q b d := by
    intro p _ a b
    split <;> rfl
  simp only [MO_register8, MO_register8_v, bnd_iff, hq]
set_option maxRecDepth 8000 in
theorem MO_register8_0 {K : Nat} (hg : goodK K) (h0 : idN K = 0) : MO_register8_v (wOfK K) = (-1) := by
  unfold MO_register8_v
  rw [if_neg (show ¬ lg_cmp (wOfK K) 66 = 0 from noW hg h0 66 (by decide) (by decide) (by decide +kernel)), if_neg (show ¬ lg_cmp (wOfK K) 67 = 0 from noW hg h0 67 (by decide) (by decide) (by decide +kernel)), if_neg (show ¬ lg_cmp (wOfK K) 68 = 0 from noW hg h0 68 (by decide) (by decide) (by decide +kernel)), if_neg (show ¬ lg_cmp (wOfK K) 69 = 0 from noW hg h0 69 (by decide) (by decide) (by decide +kernel)), if_neg (show ¬ lg_cmp (wOfK K) 72 = 0 from noW hg h0 72 (by decide) (by decide) (by decide +kernel)), if_neg (show ¬ lg_cmp (wOfK K) 76 = 0 from noW hg h0 76 (by decide) (by decide) (by decide +kernel)), if_neg (show ¬ lg_cmp (wOfK K) 65 = 0 from noW hg h0 65 (by decide) (by decide) (by decide +kernel))]
set_option maxRecDepth 8000 in
def MO_pair_v (x1 : Int64) : Int32 :=
  if (lg_cmp x1 16963) = 0 then
  (0)
  else
  (if (lg_cmp x1 17477) = 0 then
  (1)
  else
  (if (lg_cmp x1 18508) = 0 then
  (2)
  else
  (if (lg_cmp x1 21328) = 0 then
  (3)
  else
  ((-1)))))
set_option maxRecDepth 8000 in
theorem MO_pair_e (x1 : Int64) (d : vmD) (Q : Int32 → vmD → Prop) : MO_pair x1 d Q = Q (MO_pair_v x1) d := by
  have hq : ∀ (p : Prop) [Decidable p] (a b : Int32), Q (if p then a else b) d = if p then Q a d else Q b d := by
    intro p _ a b
    split <;> rfl
  simp only [MO_pair, MO_pair_v, bnd_iff, hq]
set_option maxRecDepth 8000 in
theorem MO_pair_0 {K : Nat} (hg : goodK K) (h0 : idN K = 0) : MO_pair_v (wOfK K) = (-1) := by
  unfold MO_pair_v
  rw [if_neg (show ¬ lg_cmp (wOfK K) 16963 = 0 from noW hg h0 16963 (by decide) (by decide) (by decide +kernel)), if_neg (show ¬ lg_cmp (wOfK K) 17477 = 0 from noW hg h0 17477 (by decide) (by decide) (by decide +kernel)), if_neg (show ¬ lg_cmp (wOfK K) 18508 = 0 from noW hg h0 18508 (by decide) (by decide) (by decide +kernel)), if_neg (show ¬ lg_cmp (wOfK K) 21328 = 0 from noW hg h0 21328 (by decide) (by decide) (by decide +kernel))]
set_option maxRecDepth 8000 in
def MO_index_v (x1 : Int64) : Int32 :=
  if (lg_cmp x1 18776) = 0 then
  (1)
  else
  (if (lg_cmp x1 18777) = 0 then
  (2)
  else
  ((-1)))
set_option maxRecDepth 8000 in
theorem MO_index_e (x1 : Int64) (d : vmD) (Q : Int32 → vmD → Prop) : MO_index x1 d Q = Q (MO_index_v x1) d := by
  have hq : ∀ (p : Prop) [Decidable p] (a b : Int32), Q (if p then a else b) d = if p then Q a d else Q b d := by
    intro p _ a b
    split <;> rfl
  simp only [MO_index, MO_index_v, bnd_iff, hq]
set_option maxRecDepth 8000 in
theorem MO_index_0 {K : Nat} (hg : goodK K) (h0 : idN K = 0) : MO_index_v (wOfK K) = (-1) := by
  unfold MO_index_v
  rw [if_neg (show ¬ lg_cmp (wOfK K) 18776 = 0 from noW hg h0 18776 (by decide) (by decide) (by decide +kernel)), if_neg (show ¬ lg_cmp (wOfK K) 18777 = 0 from noW hg h0 18777 (by decide) (by decide) (by decide +kernel))]
set_option maxRecDepth 8000 in
def MO_condition_v (x1 : Int64) : Int32 :=
  if (lg_cmp x1 20058) = 0 then
  (0)
  else
  (if (lg_cmp x1 90) = 0 then
  (1)
  else
  (if (lg_cmp x1 20035) = 0 then
  (2)
  else
  (if (lg_cmp x1 67) = 0 then
  (3)
  else
  (if (lg_cmp x1 20559) = 0 then
  (4)
  else
  (if (lg_cmp x1 20549) = 0 then
  (5)
  else
  (if (lg_cmp x1 80) = 0 then
  (6)
  else
  (if (lg_cmp x1 77) = 0 then
  (7)
  else
  ((-1)))))))))
set_option maxRecDepth 8000 in
theorem MO_condition_e (x1 : Int64) (d : vmD) (Q : Int32 → vmD → Prop) : MO_condition x1 d Q = Q (MO_condition_v x1) d := by
  have hq : ∀ (p : Prop) [Decidable p] (a b : Int32), Q (if p then a else b) d = if p then Q a d else Q b d := by
    intro p _ a b
    split <;> rfl
  simp only [MO_condition, MO_condition_v, bnd_iff, hq]
set_option maxRecDepth 8000 in
theorem MO_condition_0 {K : Nat} (hg : goodK K) (h0 : idN K = 0) : MO_condition_v (wOfK K) = (-1) := by
  unfold MO_condition_v
  rw [if_neg (show ¬ lg_cmp (wOfK K) 20058 = 0 from noW hg h0 20058 (by decide) (by decide) (by decide +kernel)), if_neg (show ¬ lg_cmp (wOfK K) 90 = 0 from noW hg h0 90 (by decide) (by decide) (by decide +kernel)), if_neg (show ¬ lg_cmp (wOfK K) 20035 = 0 from noW hg h0 20035 (by decide) (by decide) (by decide +kernel)), if_neg (show ¬ lg_cmp (wOfK K) 67 = 0 from noW hg h0 67 (by decide) (by decide) (by decide +kernel)), if_neg (show ¬ lg_cmp (wOfK K) 20559 = 0 from noW hg h0 20559 (by decide) (by decide) (by decide +kernel)), if_neg (show ¬ lg_cmp (wOfK K) 20549 = 0 from noW hg h0 20549 (by decide) (by decide) (by decide +kernel)), if_neg (show ¬ lg_cmp (wOfK K) 80 = 0 from noW hg h0 80 (by decide) (by decide) (by decide +kernel)), if_neg (show ¬ lg_cmp (wOfK K) 77 = 0 from noW hg h0 77 (by decide) (by decide) (by decide +kernel))]
set_option maxRecDepth 8000 in
def MO_alone_v (x1 : Int64) : Int32 :=
  if (lg_cmp x1 5461314) = 0 then
  (16)
  else
  (if (lg_cmp x1 4279876) = 0 then
  (32)
  else
  (if (lg_cmp x1 5787474) = 0 then
  (40)
  else
  (if (lg_cmp x1 20306) = 0 then
  (48)
  else
  (if (lg_cmp x1 17232) = 0 then
  (56)
  else
  ((-1))))))
set_option maxRecDepth 8000 in
theorem MO_alone_e (x1 : Int64) (d : vmD) (Q : Int32 → vmD → Prop) : MO_alone x1 d Q = Q (MO_alone_v x1) d := by
  have hq : ∀ (p : Prop) [Decidable p] (a b : Int32), Q (if p then a else b) d = if p then Q a d else Q b d := by
    intro p _ a b
    split <;> rfl
  simp only [MO_alone, MO_alone_v, bnd_iff, hq]
set_option maxRecDepth 8000 in
theorem MO_alone_0 {K : Nat} (hg : goodK K) (h0 : idN K = 0) : MO_alone_v (wOfK K) = (-1) := by
  unfold MO_alone_v
  rw [if_neg (show ¬ lg_cmp (wOfK K) 5461314 = 0 from noW hg h0 5461314 (by decide) (by decide) (by decide +kernel)), if_neg (show ¬ lg_cmp (wOfK K) 4279876 = 0 from noW hg h0 4279876 (by decide) (by decide) (by decide +kernel)), if_neg (show ¬ lg_cmp (wOfK K) 5787474 = 0 from noW hg h0 5787474 (by decide) (by decide) (by decide +kernel)), if_neg (show ¬ lg_cmp (wOfK K) 20306 = 0 from noW hg h0 20306 (by decide) (by decide) (by decide +kernel)), if_neg (show ¬ lg_cmp (wOfK K) 17232 = 0 from noW hg h0 17232 (by decide) (by decide) (by decide +kernel))]
set_option maxRecDepth 8000 in
def MO_shiftOf_v (x1 : Int64) : Int32 :=
  if (lg_cmp x1 5393475) = 0 then
  (0)
  else
  (if (lg_cmp x1 5395011) = 0 then
  (8)
  else
  (if (lg_cmp x1 21068) = 0 then
  (16)
  else
  (if (lg_cmp x1 21074) = 0 then
  (24)
  else
  (if (lg_cmp x1 5459009) = 0 then
  (32)
  else
  (if (lg_cmp x1 5460545) = 0 then
  (40)
  else
  (if (lg_cmp x1 5460556) = 0 then
  (56)
  else
  ((-1))))))))
set_option maxRecDepth 8000 in
theorem MO_shiftOf_e (x1 : Int64) (d : vmD) (Q : Int32 → vmD → Prop) : MO_shiftOf x1 d Q = Q (MO_shiftOf_v x1) d := by
  have hq : ∀ (p : Prop) [Decidable p] (a b : Int32), Q (if p then a else b) d = if p then Q a d else Q b d := by
    intro p _ a b
    split <;> rfl
  simp only [MO_shiftOf, MO_shiftOf_v, bnd_iff, hq]
set_option maxRecDepth 8000 in
theorem MO_shiftOf_0 {K : Nat} (hg : goodK K) (h0 : idN K = 0) : MO_shiftOf_v (wOfK K) = (-1) := by
  unfold MO_shiftOf_v
  rw [if_neg (show ¬ lg_cmp (wOfK K) 5393475 = 0 from noW hg h0 5393475 (by decide) (by decide) (by decide +kernel)), if_neg (show ¬ lg_cmp (wOfK K) 5395011 = 0 from noW hg h0 5395011 (by decide) (by decide) (by decide +kernel)), if_neg (show ¬ lg_cmp (wOfK K) 21068 = 0 from noW hg h0 21068 (by decide) (by decide) (by decide +kernel)), if_neg (show ¬ lg_cmp (wOfK K) 21074 = 0 from noW hg h0 21074 (by decide) (by decide) (by decide +kernel)), if_neg (show ¬ lg_cmp (wOfK K) 5459009 = 0 from noW hg h0 5459009 (by decide) (by decide) (by decide +kernel)), if_neg (show ¬ lg_cmp (wOfK K) 5460545 = 0 from noW hg h0 5460545 (by decide) (by decide) (by decide +kernel)), if_neg (show ¬ lg_cmp (wOfK K) 5460556 = 0 from noW hg h0 5460556 (by decide) (by decide) (by decide +kernel))]
def resV (W : Int64) : Int32 := if MO_isRegister_v W = 0 then (if MO_isStatement_v W = 0 then (if MO_plain_v W < 0 then (if MO_isMany_v W = 0 then (if lg_cmp W 4542805 = 0 then 1 else 0) else 1) else 1) else 1) else 1
theorem res_e (W : Int64) (d : vmD) (Q : Int32 → vmD → Prop) : MO_isReserved W d Q = Q (resV W) d := by
  unfold MO_isReserved resV
  rw [MO_isRegister_e]
  split
  · rw [MO_isStatement_e]
    split
    · rw [MO_plain_e]
      split
      · rw [MO_isMany_e]
        split
        · split <;> rfl
        · rfl
      · rfl
    · rfl
  · rfl
theorem res_i : ∀ i, i < 107 → (kK (tabN i) = 0 ∨ resV (wId i) = 1) := by decide +kernel
theorem idN_p {K : Nat} (h : ¬ idN K = 0) : ¬ kK (tabN (idN K)) = 0 := by
  rw [idN_k h]
  intro e
  rw [e] at h
  exact h rfl
theorem res_K {K : Nat} (hg : goodK K) : resV (wOfK K) = if idN K = 0 then 0 else 1 := by
  by_cases h : idN K = 0
  · rw [if_pos h]
    unfold resV
    rw [MO_isRegister_0 hg h, if_pos rfl, MO_isStatement_0 hg h, if_pos rfl, MO_plain_0 hg h, if_pos (by decide), MO_isMany_0 hg h, if_pos rfl, if_neg (show ¬ lg_cmp (wOfK K) 4542805 = 0 from noW hg h 4542805 (by decide) (by decide) (by decide +kernel))]
  · rw [if_neg h, wId_k h]
    exact (res_i (idN K) (idN_lt K)).resolve_left (idN_p h)
