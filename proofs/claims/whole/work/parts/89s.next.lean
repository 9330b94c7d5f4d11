/-! The reference's next token -/
def ModR (F A : List Nat) (r r' : vmD) : Prop := (∀ o, ¬ o = 42 → gF r' o = gF r o) ∧ (∀ f, ¬ f ∈ F → gF r' 42 f = gF r 42 f) ∧ (∀ o, ¬ o ∈ A → gA r' o = gA r o) ∧ (gL r' = gL r) ∧ (∀ o, ¬ o = 42 → gG r' o = gG r o) ∧ (∀ f, ¬ f = 7 → gG r' 42 f = gG r 42 f)
theorem ModR.refl (F A : List Nat) (r : vmD) : ModR F A r r := ⟨fun _ _ => rfl, fun _ _ => rfl, fun _ _ => rfl, rfl, fun _ _ => rfl, fun _ _ => rfl⟩
theorem ModR.trans {F A : List Nat} {r r' r'' : vmD} (h : ModR F A r r') (g : ModR F A r' r'') : ModR F A r r'' := ⟨fun o q => (g.1 o q).trans (h.1 o q), fun o q => (g.2.1 o q).trans (h.2.1 o q), fun o q => (g.2.2.1 o q).trans (h.2.2.1 o q), g.2.2.2.1.trans h.2.2.2.1, fun o q => (g.2.2.2.2.1 o q).trans (h.2.2.2.2.1 o q), fun o q => (g.2.2.2.2.2 o q).trans (h.2.2.2.2.2 o q)⟩
theorem ModR.mono {F A F' A' : List Nat} {r r' : vmD} (h : ModR F A r r') (hF : ∀ f, f ∈ F → f ∈ F') (hA : ∀ f, f ∈ A → f ∈ A') : ModR F' A' r r' := ⟨h.1, fun o q => h.2.1 o (fun z => q (hF o z)), fun o q => h.2.2.1 o (fun z => q (hA o z)), h.2.2.2.1, h.2.2.2.2.1, h.2.2.2.2.2⟩
theorem ModR.sF {F A : List Nat} {r r' : vmD} (h : ModR F A r r') {f : Nat} (hf : f ∈ F) (v : Int32) : ModR F A r (sF r' 42 f v) := by
  refine h.trans ⟨fun o q => gF_sF_ne _ _ _ q, fun o q => ?_, fun _ _ => rfl, rfl, fun _ _ => rfl, fun _ _ => rfl⟩
  rw [gF_sF, u1f_ne _ _ (fun z => q (by rw [z]; exact hf))]
theorem ModR.sA {F A : List Nat} {r r' : vmD} (h : ModR F A r r') {o : Nat} (ho : o ∈ A) (j : Nat) (v : Int32) : ModR F A r (sA r' o j v) := by
  refine h.trans ⟨fun _ _ => rfl, fun _ _ => rfl, fun x q => gA_sA_ne _ _ _ (fun z => q (z ▸ ho)), rfl, fun _ _ => rfl, fun _ _ => rfl⟩
theorem ModR.sG {F A : List Nat} {r r' : vmD} (h : ModR F A r r') (v : Int64) : ModR F A r (sG r' 42 7 v) := by
  refine h.trans ⟨fun _ _ => rfl, fun _ _ => rfl, fun _ _ => rfl, rfl, fun o q => gG_sG_ne _ _ _ q, fun f q => ?_⟩
  rw [gG_sGe, u1f_ne _ _ q]
theorem SrcR.mod {B : Nat → Nat} {n : Nat} {F A : List Nat} {r r' : vmD} (hr : SrcR B n r) (h : ModR F A r r') (h1 : ¬ 1 ∈ F) (h2 : ¬ 43 ∈ A) : SrcR B n r' := by
  unfold SrcR at hr ⊢
  rw [h.2.1 1 h1, h.2.2.1 43 h2]
  exact hr
abbrev LF : List Nat := [2, 3, 4, 5, 6]
/-- a word out of a key -/
def capD (d : Nat) : Nat := if d = 0 then 39 else if d = 37 then 95 else if d < 27 then 64 + d else 21 + d
def wNF : Nat → Nat → Nat
  | 0, _ => 0
  | f + 1, K => if K = 0 then 0 else wNF f (K / 38) * 256 + capD (K % 38)
def wOfK (K : Nat) : Int64 := if K < 38 ^ 8 then lN (wNF 12 K) else 0
def kNF : Nat → Nat → Nat
  | 0, _ => 0
  | f + 1, W => if W = 0 then 0 else kNF f (W / 256) * 38 + dgC (W % 256)
def wdN (B : Nat → Nat) (q : Nat) : Nat → Nat
  | 0 => 0
  | m + 1 => wdN B q m * 256 + capN (B (q + m))
theorem nm_b : ∀ b, b < 256 → isN b = true → 0 < dgC b ∧ dgC b < 38 ∧ capD (dgC b) = capN b ∧ dgC (capN b) = dgC b ∧ capN b < 128 ∧ 0 < capN b := by decide +kernel
theorem keyD_s {B : Nat → Nat} {q m : Nat} (hB : ∀ i, B i < 256) (h : isN (B (q + m)) = true) : keyD B q (m + 1) = keyD B q m * 38 + dgC (B (q + m)) := by
  show keyD B q m * 38 + _ = _
  rw [if_neg (by have := nm_b _ (hB (q + m)) h; omega)]
theorem wNF_key {B : Nat → Nat} {q : Nat} (hB : ∀ i, B i < 256) : ∀ m f, m ≤ f → (∀ i, i < m → isN (B (q + i)) = true) → wNF f (keyD B q m) = wdN B q m := by
  intro m
  induction m with
  | zero =>
    intro f _ _
    cases f with
    | zero => rfl
    | succ f => rfl
  | succ m ih =>
    intro f hf hN
    obtain ⟨f, rfl⟩ : ∃ f', f = f' + 1 := ⟨f - 1, by omega⟩
    obtain ⟨d1, d2, d3, -⟩ := nm_b _ (hB (q + m)) (hN m (by omega))
    rw [keyD_s hB (hN m (by omega))]
    show (if _ then _ else _) = wdN B q m * 256 + capN (B (q + m))
    rw [if_neg (by omega), show (keyD B q m * 38 + dgC (B (q + m))) / 38 = keyD B q m by omega, show (keyD B q m * 38 + dgC (B (q + m))) % 38 = dgC (B (q + m)) by omega, ih f (by omega) (fun i hi => hN i (by omega)), d3]
theorem kNF_word {B : Nat → Nat} {q : Nat} (hB : ∀ i, B i < 256) : ∀ m f, m ≤ f → (∀ i, i < m → isN (B (q + i)) = true) → kNF f (wdN B q m) = keyD B q m := by
  intro m
  induction m with
  | zero =>
    intro f _ _
    cases f with
    | zero => rfl
    | succ f => rfl
  | succ m ih =>
    intro f hf hN
    obtain ⟨f, rfl⟩ : ∃ f', f = f' + 1 := ⟨f - 1, by omega⟩
    obtain ⟨d1, d2, d3, d4, d5, d6⟩ := nm_b _ (hB (q + m)) (hN m (by omega))
    rw [keyD_s hB (hN m (by omega))]
    show (if wdN B q m * 256 + capN (B (q + m)) = 0 then _ else kNF f ((wdN B q m * 256 + capN (B (q + m))) / 256) * 38 + dgC ((wdN B q m * 256 + capN (B (q + m))) % 256)) = _
    rw [if_neg (by omega), show (wdN B q m * 256 + capN (B (q + m))) / 256 = wdN B q m by omega, show (wdN B q m * 256 + capN (B (q + m))) % 256 = capN (B (q + m)) by omega, ih f (by omega) (fun i hi => hN i (by omega)), d4]
theorem wdN_lt (B : Nat → Nat) (q : Nat) (hB : ∀ i, B i < 256) : ∀ m, wdN B q m < 256 ^ m := by
  intro m
  induction m with
  | zero => exact Nat.lt_succ_self 0
  | succ m ih =>
    show wdN B q m * 256 + capN (B (q + m)) < 256 ^ (m + 1)
    have : capN (B (q + m)) < 256 := by
      have := hB (q + m)
      unfold capN
      split <;> omega
    rw [Nat.pow_succ]
    omega
theorem lN_inj64 {a b : Nat} (ha : a < 2 ^ 64) (hb : b < 2 ^ 64) (h : lN a = lN b) : a = b := by
  have e : (lN a).toBitVec.toNat = (lN b).toBitVec.toNat := by rw [h]
  have e2 : ∀ n, n < 2 ^ 64 → (lN n).toBitVec.toNat = n := fun n hn => Nat.mod_eq_of_lt hn
  rw [e2 a ha, e2 b hb] at e
  exact e
theorem word_step (W b : Nat) (hb : b < 256) : (lN W <<< ((Int32.toInt64 (8 : Int32)) &&& 63)) ||| (Int32.toInt64 (nI b)) = lN (W * 256 + b) := by
  rw [nI_l (by omega)]
  apply Int64.toBitVec_inj.mp
  have e8 : (lN W <<< ((Int32.toInt64 (8 : Int32)) &&& 63)).toBitVec = (lN W).toBitVec <<< (8 : Nat) := by
    rw [Int64.toBitVec_shiftLeft]
    rfl
  rw [Int64.toBitVec_or, e8]
  have hW : (lN W).toBitVec = BitVec.ofNat 64 W := rfl
  have hb2 : (lN b).toBitVec = BitVec.ofNat 64 b := rfl
  have hs : (lN (W * 256 + b)).toBitVec = BitVec.ofNat 64 (W * 256 + b) := rfl
  rw [hW, hb2, hs]
  apply BitVec.eq_of_toNat_eq
  rw [BitVec.toNat_or, BitVec.toNat_shiftLeft, BitVec.toNat_ofNat, BitVec.toNat_ofNat, BitVec.toNat_ofNat, Nat.mod_eq_of_lt (show b < 2 ^ 64 by omega), Nat.shiftLeft_eq]
  have e1 : W % 2 ^ 64 * 2 ^ 8 % 2 ^ 64 = 2 ^ 8 * (W * 256 % 2 ^ 64 / 256) := by omega
  rw [e1, ← Nat.two_pow_add_eq_or_of_lt (show b < 2 ^ 8 by omega)]
  omega
/-- the token from a place on, as the reference has it -/
def tkA (B : Nat → Nat) (n p : Nat) : Tk := ((tokF B n (sc blk B n p)).1, (if (tokF B n (sc blk B n p)).1 = 0 then sc nlB B n (sc blk B n p) else sc blk B n p), (if (tokF B n (sc blk B n p)).1 ≤ 1 then sc blk B n p else (tokF B n (sc blk B n p)).2.1), (tokF B n (sc blk B n p)).2.2)
def rkd (k : Nat) : Int32 := if k = 0 then 1 else if k = 1 then 0 else if k = 2 then 2 else if k = 3 then 3 else if k = 4 then 4 else 5
def rvl (k : Nat) : Int32 := if k = 60 then 300 else if k = 62 then 301 else nI k
def CurR (r : vmD) (t : Tk) : Prop := gF r 42 3 = rkd t.1 ∧ gF r 42 4 = nI t.2.1 ∧ gF r 42 2 = nI t.2.2.1 ∧ gF r 42 5 = nI t.2.2.1 ∧ (t.1 = 3 → gF r 42 6 = nI t.2.2.2) ∧ (4 < t.1 → gF r 42 6 = rvl t.1) ∧ gG r 42 7 = (if t.1 = 2 then wOfK t.2.2.2 else 0)
/-- where a name's loop ends -/
theorem isN_R {b : Nat} (hb : b < 256) : (staV (nI b) = 0 ∧ MO_isDigit_v (nI b) = 0) ↔ isN b = false := by
  rw [sta_b b hb, isd_b b hb, isN_SD b hb]
  cases isS b <;> cases isD b <;> simp <;> decide
theorem name5 {B : Nat → Nat} {n : Nat} (h : SrcOk B n) {r : vmD} (hr : SrcR B n r) {q : Nat} (hq : gF r 42 2 = nI q) (Q : vmD → Prop) : ∀ p, p ≤ n → q ≤ p → (∀ e, e = sc isN B n p → (if (12 : Int32) < nI (e - q) then Q r else ∃ m, MO_name_59 Q m (nI e) (nI (e - q)) (nI q) (sF r 42 3 2))) → ∃ m, MO_name_5 Q m (nI p) r := by
  have hn := h.1
  refine sc_ind (P := isN) (B := B) (n := n) _ (fun p hp e => ?_) (fun p hp e ih => ?_)
  · rw [sc_no e]
    intro hqp hQ
    have hb := byR_lt h p
    have hN : isN (byR B n p) = false := by
      by_cases z : p < n
      · rw [byR_in z]
        exact e.resolve_left (by omega)
      · rw [byR_out (by omega)]
        decide
    obtain ⟨s1, s2⟩ := (isN_R hb).mpr hN
    refine ⟨1, ?_⟩
    unfold MO_name_5
    rw [atR h hr (by omega), sta_e, s1, if_pos rfl, atR h hr (by omega), MO_isDigit_e, s2, if_pos rfl]
    refine bnd_iff.mpr ?_
    rw [hq, pk_sub hqp]
    have := hQ p rfl
    by_cases z : (12 : Int32) < nI (p - q)
    · rw [if_pos z] at this ⊢
      exact this
    · rw [if_neg z] at this ⊢
      refine bnd_iff.mpr (bnd_iff.mpr ?_)
      rw [gF_sF, u1f_ne _ _ (by decide), hq]
      exact this
  · rw [sc_yes hp e]
    intro hqp hQ
    obtain ⟨m, hm⟩ := ih (by omega) hQ
    have hb := byR_lt h p
    have hN : ¬ (staV (nI (byR B n p)) = 0 ∧ MO_isDigit_v (nI (byR B n p)) = 0) := by
      rw [isN_R hb, byR_in hp, e]
      exact Bool.noConfusion
    refine ⟨m + 1, ?_⟩
    unfold MO_name_5
    have go : MO_name_29 (MO_name_5 Q m) (nI p) r Q := by
      unfold MO_name_29
      refine bnd_iff.mpr ?_
      rw [nI_p1]
      exact hm
    rw [atR h hr (by omega), sta_e]
    by_cases s1 : staV (nI (byR B n p)) = 0
    · rw [if_pos s1, atR h hr (by omega), MO_isDigit_e, if_neg (fun z => hN ⟨s1, z⟩)]
      exact go
    · rw [if_neg s1]
      exact go
theorem name59 {B : Nat → Nat} {n : Nat} (h : SrcOk B n) {q e : Nat} (hqe : q ≤ e) (he : e ≤ n) (h8 : e - q ≤ 8) : ∀ f m (r : vmD) (Q : vmD → Prop), SrcR B n r → m + f = e - q → gG r 42 7 = lN (wdN B q m) → (∀ r', ModR LF [] r r' → gF r' = gF r → gG r' 42 7 = lN (wdN B q (e - q)) → MO_name_98 (nI e) r' Q) → ∃ j, MO_name_59 Q j (nI e) (nI (e - q)) (nI (q + m)) r := by
  have hn := h.1
  intro f
  induction f with
  | zero =>
    intro m r Q hr hm hw hQ
    refine ⟨1, ?_⟩
    unfold MO_name_59
    rw [if_neg (nI_nlt (by omega) (by omega))]
    exact hQ r (ModR.refl _ _ _) rfl (by rw [hw, show m = e - q by omega])
  | succ f ih =>
    intro m r Q hr hm hw hQ
    have hb := h.2 (q + m)
    have hc : capN (B (q + m)) < 256 := by
      unfold capN
      split <;> omega
    have M : ModR LF [] r (sG r 42 7 (lN (wdN B q (m + 1)))) := (ModR.refl LF [] r).sG _
    obtain ⟨j, hj⟩ := ih (m + 1) (sG r 42 7 (lN (wdN B q (m + 1)))) Q (hr.mod M (by decide) (by decide)) (by omega) (by rw [gG_sGe, u1f_eq]) (fun r' h1 h2 h3 => hQ r' (M.trans h1) h2 h3)
    refine ⟨j + 1, ?_⟩
    unfold MO_name_59
    rw [if_pos (nI_lt (by omega) (by omega)), if_neg (show ¬ (8 : Int32) < nI (e - q) from nI_nlt (a := 8) (by omega) (by omega)), atR h hr (by omega), byR_in (by omega), MO_capital_e, cap_b _ hb, hw, word_step _ _ hc]
    refine bnd_iff.mpr (bnd_iff.mpr ?_)
    rw [nI_p1]
    exact hj
theorem key_big {B : Nat → Nat} {q : Nat} (hB : ∀ i, B i < 256) : ∀ m, (∀ i, i < m + 1 → isN (B (q + i)) = true) → 38 ^ m ≤ keyD B q (m + 1) := by
  intro m
  induction m with
  | zero =>
    intro hN
    have := nm_b _ (hB (q + 0)) (hN 0 (by omega))
    rw [keyD_s hB (hN 0 (by omega))]
    show 1 ≤ _
    omega
  | succ m ih =>
    intro hN
    have := ih (fun i hi => hN i (by omega))
    rw [keyD_s hB (hN (m + 1) (by omega)), Nat.pow_succ]
    omega
theorem sc_nmb {B : Nat → Nat} {n q : Nat} (hq : q ≤ n) : ∀ i, i < sc isN B n q - q → isN (B (q + i)) = true := fun i hi => sc_in hq (q + i) (by omega) (by omega)
/-- a name -/
theorem nameR {B : Nat → Nat} {n : Nat} (h : SrcOk B n) {r : vmD} (hr : SrcR B n r) {q : Nat} (hq : q < n) (hS : isS (byR B n q) = true) (h2 : gF r 42 2 = nI q) (h3 : gF r 42 3 = 0) (h4 : gF r 42 4 = nI q) (h7 : gG r 42 7 = 0) : ∃ r', (∀ Q : vmD → Prop, Q r' → MO_name r Q) ∧ ModR LF [] r r' ∧ gF r' 42 3 = rkd (nameK B n q).1 ∧ gF r' 42 4 = nI q ∧ gF r' 42 2 = nI (if (nameK B n q).1 ≤ 1 then q else (nameK B n q).2.1) ∧ gG r' 42 7 = (if (nameK B n q).1 = 2 then wOfK (nameK B n q).2.2 else 0) := by
  have hn := h.1
  have hN := isS_N _ hS
  rw [byR_in hq] at hN
  have hs := sc_le (P := isN) (B := B) (show q ≤ n by omega)
  have hy := sc_yes (P := isN) (B := B) (n := n) hq hN
  have hs1 := sc_le (P := isN) (B := B) (show q + 1 ≤ n by omega)
  have start : ∀ Q : vmD → Prop, (if (12 : Int32) < nI (sc isN B n q - q) then Q r else ∃ m, MO_name_59 Q m (nI (sc isN B n q)) (nI (sc isN B n q - q)) (nI q) (sF r 42 3 2)) → MO_name r Q := by
    intro Q hQ
    unfold MO_name
    refine bnd_iff.mpr ?_
    rw [h2]
    exact name5 h hr h2 Q q (by omega) (Nat.le_refl _) (fun e he => by rw [he]; exact hQ)
  unfold nameK
  by_cases c12 : 12 < sc isN B n q - q
  · rw [if_pos c12]
    refine ⟨r, fun Q hQ => start Q ?_, ModR.refl _ _ _, h3, h4, h2, h7⟩
    rw [if_pos (show (12 : Int32) < nI (sc isN B n q - q) from nI_lt (a := 12) c12 (by omega))]
    exact hQ
  rw [if_neg c12]
  have n12 : ¬ (12 : Int32) < nI (sc isN B n q - q) := nI_nlt (a := 12) (by omega) (by omega)
  have M0 : ModR LF [] r (sF r 42 3 2) := (ModR.refl LF [] r).sF (by decide) _
  have hmN := sc_nmb (B := B) (show q ≤ n by omega)
  by_cases c8 : 8 < sc isN B n q - q
  · have e2 : ¬ sc isN B n q = q + 2 := by omega
    rw [if_neg (fun z => e2 z.1)]
    have M1 := M0.sF (f := 2) (by decide) (nI (sc isN B n q))
    refine ⟨_, fun Q hQ => start Q ?_, M1, ?_, ?_, ?_, ?_⟩
    · rw [if_neg n12]
      refine ⟨1, ?_⟩
      unfold MO_name_59
      rw [if_pos (nI_lt (by omega) (by omega)), if_pos (show (8 : Int32) < nI (sc isN B n q - q) from nI_lt (a := 8) c8 (by omega))]
      unfold MO_name_98
      have w0 : gG (sF r 42 3 2) 42 7 = 0 := h7
      rw [w0, if_neg (by decide)]
      exact bnd_iff.mpr hQ
    · rw [gF_sF, u1f_ne _ _ (by decide), gF_sF, u1f_eq]
      rfl
    · rw [gF_sF, u1f_ne _ _ (by decide), gF_sF, u1f_ne _ _ (by decide), h4]
    · rw [gF_sF, u1f_eq]
      rfl
    · show gG r 42 7 = _
      rw [h7]
      show _ = wOfK (keyD B q (sc isN B n q - q))
      unfold wOfK
      have hb := key_big (B := B) (q := q) h.2 (sc isN B n q - q - 1) (fun i hi => hmN i (by omega))
      rw [show sc isN B n q - q - 1 + 1 = sc isN B n q - q by omega] at hb
      have hp : 38 ^ 8 ≤ 38 ^ (sc isN B n q - q - 1) := Nat.pow_le_pow_right (by omega) (by omega)
      rw [if_neg (by omega)]
  · have key0 : ∀ Q : vmD → Prop, (∀ r', ModR LF [] (sF r 42 3 2) r' → gF r' = gF (sF r 42 3 2) → gG r' 42 7 = lN (wdN B q (sc isN B n q - q)) → MO_name_98 (nI (sc isN B n q)) r' Q) → MO_name r Q := by
      intro Q hQ
      refine start Q ?_
      rw [if_neg n12]
      exact name59 h hs.1 hs.2 (by omega) (sc isN B n q - q) 0 (sF r 42 3 2) Q (hr.mod M0 (by decide) (by decide)) (by omega) h7 hQ
    obtain ⟨r1, hr1⟩ : ∃ r1 : vmD, r1 = sG (sF r 42 3 2) 42 7 (lN (wdN B q (sc isN B n q - q))) := ⟨_, rfl⟩
    have hw64 : wdN B q (sc isN B n q - q) < 2 ^ 64 := Nat.lt_of_lt_of_le (wdN_lt B q h.2 _) (Nat.le_trans (Nat.pow_le_pow_right (by omega) (show sc isN B n q - q ≤ 8 by omega)) (by decide))
    have hK : wNF 12 (keyD B q (sc isN B n q - q)) = wdN B q (sc isN B n q - q) := wNF_key h.2 _ 12 (by omega) hmN
    have hKi : kNF 12 (wdN B q (sc isN B n q - q)) = keyD B q (sc isN B n q - q) := kNF_word h.2 _ 12 (by omega) hmN
    have hK8 : keyD B q (sc isN B n q - q) < 38 ^ 8 := Nat.lt_of_lt_of_le (keyD_lt B q _) (Nat.pow_le_pow_right (by omega) (by omega))
    have hAF : lN (wdN B q (sc isN B n q - q)) = 16710 ↔ keyD B q (sc isN B n q - q) = 44 := by
      constructor
      · intro z
        have := lN_inj64 (b := 16710) hw64 (by omega) z
        rw [← hKi, this]
        decide
      · intro z
        rw [← hK, z]
        decide
    have hm2 : keyD B q (sc isN B n q - q) = 44 → sc isN B n q = q + 2 := by
      intro z
      have l1 := keyD_lt B q (sc isN B n q - q)
      have l2 := key_big (B := B) (q := q) h.2 (sc isN B n q - q - 1) (fun i hi => hmN i (by omega))
      rw [show sc isN B n q - q - 1 + 1 = sc isN B n q - q by omega, z] at l2
      rw [z] at l1
      have a1 : ¬ sc isN B n q - q ≤ 1 := by
        intro w
        have : 38 ^ (sc isN B n q - q) ≤ 38 ^ 1 := Nat.pow_le_pow_right (by omega) w
        omega
      have a2 : ¬ 3 ≤ sc isN B n q - q := by
        intro w
        have : 38 ^ 2 ≤ 38 ^ (sc isN B n q - q - 1) := Nat.pow_le_pow_right (by omega) (by omega)
        omega
      omega
    -- the state when the loop is through: only the word has changed
    have same : ∀ r', ModR LF [] (sF r 42 3 2) r' → gF r' = gF (sF r 42 3 2) → gG r' 42 7 = lN (wdN B q (sc isN B n q - q)) → r' = r1 := by
      intro r' m1 m2 m3
      rw [hr1]
      refine D_ext (fun o => by rw [m2]; rfl) (fun o => ?_) (fun o => by rw [m1.2.2.1 o (by simp)]; rfl) (fun o => by rw [m1.2.2.2.1]; rfl)
      by_cases e : o = 42
      · subst e
        rw [gG_sGe]
        funext f
        by_cases e2 : f = 7
        · subst e2
          rw [u1f_eq, m3]
        · rw [u1f_ne _ _ e2, m1.2.2.2.2.2 f e2]
      · rw [gG_sG_ne _ _ _ e, m1.2.2.2.2.1 o e]
    have M1 : ModR LF [] r r1 := by rw [hr1]; exact M0.sG _
    have f3 : gF r1 42 3 = 2 := by rw [hr1, gF_sG, gF_sF, u1f_eq]
    have f4 : gF r1 42 4 = nI q := by rw [hr1, gF_sG, gF_sF, u1f_ne _ _ (by decide), h4]
    have w7 : gG r1 42 7 = lN (wdN B q (sc isN B n q - q)) := by rw [hr1, gG_sGe, u1f_eq]
    have S1 := hr.mod M1 (by decide) (by decide)
    by_cases c44 : keyD B q (sc isN B n q - q) = 44 ∧ byR B n (sc isN B n q) = 39
    · obtain ⟨c44, c39⟩ := c44
      have e2 := hm2 c44
      have e44 : keyD B q 2 = 44 := by rw [← c44, e2]; congr 1; omega
      rw [if_pos (show sc isN B n q = q + 2 ∧ keyD B q 2 = 44 ∧ byR B n (q + 2) = 39 from ⟨e2, e44, by rw [← e2]; exact c39⟩)]
      refine ⟨sF (sG r1 42 7 4277799) 42 2 (nI (q + 3)), fun Q hQ => key0 Q (fun r' m1 m2 m3 => ?_), (M1.sG _).sF (by decide) _, ?_, ?_, ?_, ?_⟩
      · rw [same r' m1 m2 m3]
        unfold MO_name_98
        rw [w7, if_pos ((lg_cmp_eq _ _).mpr (hAF.mpr c44)), atR h S1 (by omega), c39, if_pos (show nI 39 = 39 from rfl)]
        refine bnd_iff.mpr (bnd_iff.mpr (bnd_iff.mpr ?_))
        rw [e2, nI_p1]
        exact hQ
      · rw [gF_sF, u1f_ne _ _ (by decide), gF_sG, f3]
        rfl
      · rw [gF_sF, u1f_ne _ _ (by decide), gF_sG, f4]
      · rw [gF_sF, u1f_eq]
        rfl
      · rw [gG_sF, gG_sGe, u1f_eq]
        show (4277799 : Int64) = wOfK 1672
        decide
    · rw [if_neg (show ¬ (sc isN B n q = q + 2 ∧ keyD B q 2 = 44 ∧ byR B n (q + 2) = 39) from fun z => c44 ⟨by rw [z.1, show q + 2 - q = 2 by omega]; exact z.2.1, by rw [z.1]; exact z.2.2⟩)]
      refine ⟨sF r1 42 2 (nI (sc isN B n q)), fun Q hQ => key0 Q (fun r' m1 m2 m3 => ?_), M1.sF (by decide) _, ?_, ?_, ?_, ?_⟩
      · rw [same r' m1 m2 m3]
        have fin : MO_name_129 (nI (sc isN B n q)) r1 Q := by
          unfold MO_name_129
          exact bnd_iff.mpr hQ
        unfold MO_name_98
        by_cases z : keyD B q (sc isN B n q - q) = 44
        · rw [w7, if_pos ((lg_cmp_eq _ _).mpr (hAF.mpr z)), atR h S1 (by omega), if_neg (show ¬ nI (byR B n (sc isN B n q)) = 39 from fun w => c44 ⟨z, (nI_e (byR_lt h _) (show 39 < 256 by omega)).mp w⟩)]
          exact fin
        · rw [w7, if_neg (fun w => z (hAF.mp ((lg_cmp_eq _ _).mp w)))]
          exact fin
      · rw [gF_sF, u1f_ne _ _ (by decide), f3]
        rfl
      · rw [gF_sF, u1f_ne _ _ (by decide), f4]
      · rw [gF_sF, u1f_eq]
        rfl
      · rw [gG_sF, w7]
        show _ = wOfK (keyD B q (sc isN B n q - q))
        unfold wOfK
        rw [if_pos hK8, hK]
/-- numbers -/
def wVv (base : Nat) (B : Nat → Nat) (p : Nat) : Nat → Nat
  | 0 => 0
  | m + 1 => if 65535 < wVv base B p m then wVv base B p m else wVv base B p m * base + wrN (B (p + m))
theorem wVv_min {base : Nat} (hb : 1 ≤ base) (B : Nat → Nat) (p : Nat) : ∀ m, min (wVv base B p m) 65536 = numV base B p m := by
  intro m
  induction m with
  | zero => rfl
  | succ m ih =>
    show min (if 65535 < wVv base B p m then wVv base B p m else wVv base B p m * base + wrN (B (p + m))) 65536 = min (numV base B p m * base + wrN (B (p + m))) 65536
    rw [← ih]
    by_cases e : 65535 < wVv base B p m
    · rw [if_pos e, Nat.min_eq_right (show 65536 ≤ wVv base B p m by omega)]
      have : 65536 * 1 ≤ 65536 * base := Nat.mul_le_mul_left _ hb
      omega
    · rw [if_neg e, Nat.min_eq_left (show wVv base B p m ≤ 65536 by omega)]
theorem wVv_le {base : Nat} (hb : base ≤ 16) (B : Nat → Nat) (p : Nat) : ∀ m, wVv base B p m ≤ 65535 * 16 + 99 := by
  intro m
  induction m with
  | zero => exact Nat.zero_le _
  | succ m ih =>
    show (if 65535 < wVv base B p m then wVv base B p m else wVv base B p m * base + wrN (B (p + m))) ≤ _
    split
    · exact ih
    · have h1 : wVv base B p m * base ≤ 65535 * 16 := Nat.mul_le_mul (by omega) hb
      have h2 := wr_16 (B (p + m))
      omega
theorem wr_R {B : Nat → Nat} {n : Nat} (h : SrcOk B n) {base p : Nat} (hb : base ≤ 16) : (worV (nI (byR B n p)) < nI base ↔ p < n ∧ wrB base (B p) = true) := by
  rw [wor_b _ (byR_lt h p)]
  have hw := wr_16 (byR B n p)
  rw [nI_ltI (by omega) (by omega)]
  unfold wrB
  rw [decide_eq_true_eq]
  constructor
  · intro z
    by_cases q : p < n
    · rw [byR_in q] at z
      exact ⟨q, z⟩
    · rw [byR_out (by omega), show wrN 10 = 99 by decide] at z
      omega
  · rintro ⟨z1, z2⟩
    rw [byR_in z1]
    exact z2
theorem digitsR {B : Nat → Nat} {n : Nat} (h : SrcOk B n) {r : vmD} (hr : SrcR B n r) {q p base : Nat} (hb : base ≤ 16) (hb1 : 1 ≤ base) (hp : p ≤ n) (h2 : gF r 42 2 = nI q) (h3 : gF r 42 3 = 0) (h4 : gF r 42 4 = nI q) : ∃ r', (∀ Q : vmD → Prop, Q r' → MO_digits (nI base) (nI p) r Q) ∧ ModR LF [] r r' ∧ gF r' 42 3 = rkd (numK B n q p base).1 ∧ gF r' 42 4 = nI q ∧ gF r' 42 2 = nI (if (numK B n q p base).1 ≤ 1 then q else (numK B n q p base).2.1) ∧ ((numK B n q p base).1 = 3 → gF r' 42 6 = nI (numK B n q p base).2.2) ∧ gG r' 42 7 = gG r 42 7 := by
  have hn := h.1
  have hs := sc_le (P := wrB base) (B := B) hp
  have stop : ¬ (sc (wrB base) B n p < n ∧ wrB base (B (sc (wrB base) B n p)) = true) := by
    rintro ⟨z1, z2⟩
    rcases sc_at (P := wrB base) (B := B) hp with z | z
    · omega
    · rw [z2] at z
      cases z
  have key : ∀ (Q : vmD → Prop), (if nI (sc (wrB base) B n p) = nI p then Q r else if (65535 : Int32) < nI (wVv base B p (sc (wrB base) B n p - p)) then Q r else Q (sF (sF (sF r 42 3 3) 42 6 (nI (wVv base B p (sc (wrB base) B n p - p)))) 42 2 (nI (sc (wrB base) B n p)))) → MO_digits (nI base) (nI p) r Q := by
    intro Q hQ
    have loop : ∀ f m, p + m + f = sc (wrB base) B n p → ∃ j, MO_digits_5 Q j (nI base) (nI p) (nI (p + m)) (nI (wVv base B p m)) r := by
      intro f
      induction f with
      | zero =>
        intro m hm
        have e1 : p + m = sc (wrB base) B n p := by omega
        refine ⟨1, ?_⟩
        unfold MO_digits_5
        rw [atR h hr (by omega), wor_e, if_neg (fun z => stop (by rw [← e1]; exact (wr_R h hb).mp z))]
        rw [e1, show m = sc (wrB base) B n p - p by omega]
        by_cases c1 : nI (sc (wrB base) B n p) = nI p
        · rw [if_pos c1] at hQ ⊢
          exact hQ
        · rw [if_neg c1] at hQ ⊢
          by_cases c2 : (65535 : Int32) < nI (wVv base B p (sc (wrB base) B n p - p))
          · rw [if_pos c2] at hQ ⊢
            exact hQ
          · rw [if_neg c2] at hQ ⊢
            exact bnd_iff.mpr (bnd_iff.mpr (bnd_iff.mpr hQ))
      | succ f ih =>
        intro m hm
        obtain ⟨j, hj⟩ := ih (m + 1) (by omega)
        have hin := sc_in (P := wrB base) (B := B) hp (p + m) (by omega) (by omega)
        have hw := wr_16 (B (p + m))
        have hv := wVv_le hb B p m
        refine ⟨j + 1, ?_⟩
        unfold MO_digits_5
        rw [atR h hr (by omega), wor_e, if_pos ((wr_R h hb).mpr ⟨by omega, hin⟩)]
        have hj : MO_digits_5 Q j (nI base) (nI p) (nI (p + m + 1)) (nI (if 65535 < wVv base B p m then wVv base B p m else wVv base B p m * base + wrN (B (p + m)))) r := hj
        unfold MO_digits_44
        by_cases c : 65535 < wVv base B p m
        · rw [if_pos c] at hj
          rw [if_pos (show (65535 : Int32) < nI (wVv base B p m) from nI_lt (a := 65535) c (by omega))]
          refine bnd_iff.mpr ?_
          rw [nI_p1]
          exact hj
        · rw [if_neg c] at hj
          rw [if_neg (show ¬ (65535 : Int32) < nI (wVv base B p m) from nI_nlt (a := 65535) (by omega) (by omega)), atR h hr (by omega), wor_e]
          refine bnd_iff.mpr ?_
          rw [nI_p1, byR_in (by omega), wor_b _ (h.2 _), pk_mul, nI_add]
          exact hj
    have := loop (sc (wrB base) B n p - p) 0 (by omega)
    exact this
  have hm := wVv_min hb1 B p (sc (wrB base) B n p - p)
  have hv := wVv_le hb B p (sc (wrB base) B n p - p)
  unfold numK
  by_cases c : sc (wrB base) B n p = p ∨ 65536 ≤ numV base B p (sc (wrB base) B n p - p)
  · rw [if_pos c]
    refine ⟨r, fun Q hQ => key Q ?_, ModR.refl _ _ _, h3, h4, h2, fun z => absurd z (show ¬ (1 : Nat) = 3 by decide), rfl⟩
    by_cases c1 : sc (wrB base) B n p = p
    · rw [if_pos (by rw [c1])]
      exact hQ
    · rw [if_neg (fun z => c1 ((nI_eq (by omega) (by omega)).mp z)), if_pos (show (65535 : Int32) < nI (wVv base B p (sc (wrB base) B n p - p)) from nI_lt (a := 65535) (by have := c.resolve_left c1; omega) (by omega))]
      exact hQ
  · rw [if_neg c]
    have c1 : ¬ sc (wrB base) B n p = p := fun z => c (Or.inl z)
    have c2 : wVv base B p (sc (wrB base) B n p - p) = numV base B p (sc (wrB base) B n p - p) := by
      have : ¬ 65536 ≤ numV base B p (sc (wrB base) B n p - p) := fun z => c (Or.inr z)
      omega
    refine ⟨_, fun Q hQ => key Q ?_, (((ModR.refl LF [] r).sF (f := 3) (by decide) 3).sF (f := 6) (by decide) (nI (wVv base B p (sc (wrB base) B n p - p)))).sF (f := 2) (by decide) (nI (sc (wrB base) B n p)), ?_, ?_, ?_, fun _ => ?_, rfl⟩
    · rw [if_neg (fun z => c1 ((nI_eq (by omega) (by omega)).mp z)), if_neg (show ¬ (65535 : Int32) < nI (wVv base B p (sc (wrB base) B n p - p)) from nI_nlt (a := 65535) (by have : ¬ 65536 ≤ numV base B p (sc (wrB base) B n p - p) := fun z => c (Or.inr z); omega) (by omega))]
      exact hQ
    · rw [gF_sF, u1f_ne _ _ (by decide), gF_sF, u1f_ne _ _ (by decide), gF_sF, u1f_eq]
      rfl
    · rw [gF_sF, u1f_ne _ _ (by decide), gF_sF, u1f_ne _ _ (by decide), gF_sF, u1f_ne _ _ (by decide), h4]
    · rw [gF_sF, u1f_eq]
      rfl
    · rw [gF_sF, u1f_ne _ _ (by decide), gF_sF, u1f_eq, c2]
