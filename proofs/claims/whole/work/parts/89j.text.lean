/-! Texts: digits, and what the reference writes -/
def dgs : Nat → Nat → List Int32
  | 0, n => [nI (48 + n % 10)]
  | k + 1, n => nI (48 + n / 10 ^ (k + 1) % 10) :: dgs k n
def ndg (n : Nat) : Nat := if n < 10 then 0 else if n < 100 then 1 else if n < 1000 then 2 else if n < 10000 then 3 else 4
def decL (n : Nat) : List Int32 := dgs (ndg n) n
theorem dgs_len : ∀ k n, (dgs k n).length = k + 1 := by
  intro k
  induction k with
  | zero => intro n; rfl
  | succ k ih => intro n; show (dgs k n).length + 1 = _; rw [ih]
theorem ndg_4 (n : Nat) : ndg n ≤ 4 := by
  unfold ndg
  repeat' split
  all_goals omega
theorem decL_len (n : Nat) : (decL n).length ≤ 5 := by
  unfold decL
  rw [dgs_len]
  have := ndg_4 n
  omega
theorem dgs_oct : ∀ k n x, x ∈ dgs k n → oct x := by
  intro k
  induction k with
  | zero =>
    intro n x hx
    obtain rfl := List.mem_singleton.mp hx
    exact ⟨_, by omega, rfl⟩
  | succ k ih =>
    intro n x hx
    rcases List.mem_cons.mp hx with rfl | h
    · exact ⟨_, by omega, rfl⟩
    · exact ih n x h
theorem dig_e {n u : Nat} (hn : n < 2 ^ 31) (hu : 0 < u) (hu2 : u < 2 ^ 31) : (nI n / nI u) - (nI n / nI u) / 10 * 10 = nI (n / u % 10) := by
  rw [pk_div hn hu hu2]
  exact pk_rem (d := 10) (Nat.lt_of_le_of_lt (Nat.div_le_self _ _) hn) (by omega) (by omega)
theorem p10 : ∀ k, k ≤ 4 → 10 ^ k < 2 ^ 31 ∧ 0 < 10 ^ k := by decide
theorem p10d (k : Nat) (hk : k < 4) : nI (10 ^ (k + 1)) / 10 = nI (10 ^ k) := by
  have h := p10 (k + 1) (by omega)
  have := pk_div (a := 10 ^ (k + 1)) (d := 10) h.1 (by omega) (by omega)
  rw [show (10 : Int32) = nI 10 from rfl, this, Nat.pow_succ, Nat.mul_div_cancel _ (by omega)]
/-- what is written, in order; the number: 0 a sign, 1 n, 2 m, 3 e, 4 the distance -/
abbrev Tt : Type := Int32 × Nat
def rW : List Int32 → vmD → vmD
  | [], d => d
  | v :: l, d => rW l (sF (sA d 62 (gF d 42 66).toNatClampNeg v) 42 66 (gF d 42 66 + 1))
theorem rW_app (l1 l2 : List Int32) : ∀ d, rW (l1 ++ l2) d = rW l2 (rW l1 d) := by
  induction l1 with
  | nil => intro d; rfl
  | cons v l ih => intro d; exact ih _
theorem rW_gF (l : List Int32) : ∀ d f, ¬ f = 66 → gF (rW l d) 42 f = gF d 42 f := by
  induction l with
  | nil => intro d f _; rfl
  | cons v l ih =>
    intro d f hf
    show gF (rW l _) 42 f = _
    rw [ih _ f hf, gF_sF, u1f_ne _ _ hf, gF_sA]
theorem rW_gFx (l : List Int32) : ∀ d o, ¬ o = 42 → gF (rW l d) o = gF d o := by
  induction l with
  | nil => intro d o _; rfl
  | cons v l ih =>
    intro d o ho
    show gF (rW l _) o = _
    rw [ih _ o ho, gF_sF_ne _ _ _ ho, gF_sA]
theorem rW_gA (l : List Int32) : ∀ d o, ¬ o = 62 → gA (rW l d) o = gA d o := by
  induction l with
  | nil => intro d o _; rfl
  | cons v l ih =>
    intro d o ho
    show gA (rW l _) o = _
    rw [ih _ o ho, gA_sF, gA_sA_ne _ _ _ ho]
theorem rW_gG (l : List Int32) : ∀ d o, gG (rW l d) o = gG d o := by
  induction l with
  | nil => intro d o; rfl
  | cons v l ih => intro d o; exact ih _ o
theorem rW_gL (l : List Int32) : ∀ d o, gL (rW l d) o = gL d o := by
  induction l with
  | nil => intro d o; rfl
  | cons v l ih => intro d o; exact ih _ o
theorem rW_66 (l : List Int32) : ∀ d n, gF d 42 66 = nI n → gF (rW l d) 42 66 = nI (n + l.length) := by
  induction l with
  | nil => intro d n h; exact h
  | cons v l ih =>
    intro d n h
    show gF (rW l _) 42 66 = _
    rw [ih _ (n + 1) (by rw [gF_sF, u1f_eq, h, nI_1])]
    exact congrArg nI (by rw [List.length_cons]; omega)
/-- the row of what was written -/
theorem rW_62 (l : List Int32) : ∀ d n, gF d 42 66 = nI n → n + l.length < 2 ^ 31 → (∀ i, i < n → gA (rW l d) 62 i = gA d 62 i) ∧ ∀ i (h : i < l.length), gA (rW l d) 62 (n + i) = l[i] := by
  induction l with
  | nil => intro d n _ _; exact ⟨fun i _ => rfl, fun i h => absurd h (Nat.not_lt_zero _)⟩
  | cons v l ih =>
    intro d n h hl
    rw [List.length_cons] at hl
    obtain ⟨e1, e2⟩ := ih (sF (sA d 62 (gF d 42 66).toNatClampNeg v) 42 66 (gF d 42 66 + 1)) (n + 1) (by rw [gF_sF, u1f_eq, h, nI_1]) (by omega)
    have e0 : gA (sF (sA d 62 (gF d 42 66).toNatClampNeg v) 42 66 (gF d 42 66 + 1)) 62 = u1f (gA d 62) n v := by rw [gA_sF, gA_sA, h, nI_clamp (by omega)]
    refine ⟨fun i hi => ?_, fun i hi => ?_⟩
    · show gA (rW l _) 62 i = _
      rw [e1 i (by omega), e0, u1f_ne _ _ (by omega)]
    · show gA (rW l _) 62 (n + i) = _
      cases i with
      | zero => rw [e1 (n + 0) (by omega), e0, Nat.add_zero, u1f_eq]; rfl
      | succ i =>
        rw [List.length_cons] at hi
        rw [show n + (i + 1) = n + 1 + i by omega, e2 i (by omega)]
        rfl
def dstOk (x : Int32) : Prop := ∃ n, n ≤ 128 ∧ (x = nI n ∨ x = -(nI n))
def nearX (a : Int32) (d : vmD) : Int32 := ((a + gF d 42 63) + MO_signed_v (rb d (gF d 42 64))) &&& 65535
def absI (x : Int32) : Int32 := if x < 0 then -x else x
def inR (a : Int32) (d : vmD) : Tt → List Int32
  | (v, 0) => [v]
  | (_, 1) => decL (rb d (gF d 42 64)).toNatClampNeg
  | (_, 2) => decL (rw2 d (gF d 42 64)).toNatClampNeg
  | (_, 3) => decL (nearX a d).toNatClampNeg
  | (_, _) => (if gF d 42 62 < 0 then 45 else 43) :: decL (absI (gF d 42 62)).toNatClampNeg
def flR (a : Int32) (d : vmD) (L : List Tt) : List Int32 := L.flatMap (inR a d)
theorem flR_app (a : Int32) (d : vmD) (L1 L2 : List Tt) : flR a d (L1 ++ L2) = flR a d L1 ++ flR a d L2 := List.flatMap_append
theorem inR_rW (a : Int32) (l : List Int32) (d : vmD) (t : Tt) : inR a (rW l d) t = inR a d t := by
  have hrb : ∀ x, rb (rW l d) x = rb d x := fun x => by unfold rb; rw [rW_gA _ _ _ (by decide)]
  have hrw : ∀ x, rw2 (rW l d) x = rw2 d x := fun x => by unfold rw2; rw [hrb, hrb]
  have h2 := rW_gF l d 62 (by decide)
  have h3 := rW_gF l d 63 (by decide)
  have h4 := rW_gF l d 64 (by decide)
  unfold inR nearX
  rw [h2, h3, h4, hrb, hrw]
theorem flR_rW (a : Int32) (l : List Int32) (d : vmD) (L : List Tt) : flR a (rW l d) L = flR a d L := by
  unfold flR
  rw [show inR a (rW l d) = inR a d from funext (inR_rW a l d)]
/-- the state that a writer needs -/
def StW (d : vmD) (op ix : Int32) : Prop := gF d 42 61 = op ∧ gF d 42 60 = ix ∧ (∃ c : vmD, RMem (gA c 2) (gA d 55)) ∧ dstOk (gF d 42 62)
theorem StW.w {d : vmD} {op ix : Int32} (h : StW d op ix) {l : List Int32} {d' : vmD} (e : d' = rW l d) : StW d' op ix := by
  subst e
  obtain ⟨h1, h2, ⟨c, h3⟩, h4⟩ := h
  refine ⟨?_, ?_, ⟨c, ?_⟩, ?_⟩
  · rw [rW_gF _ _ _ (by decide), h1]
  · rw [rW_gF _ _ _ (by decide), h2]
  · rw [rW_gA _ _ _ (by decide)]; exact h3
  · rw [rW_gF _ _ _ (by decide)]; exact h4
def Wr (a : Int32) (P : (vmD → Prop) → Prop) (d : vmD) (L : List Tt) : Prop := ∀ (n : Nat) (Q : vmD → Prop), gF d 42 66 = nI n → n + (flR a d L).length ≤ 40 → Q (rW (flR a d L) d) → P Q
theorem wr_nil {a : Int32} {d : vmD} : Wr a (fun Q => Q d) d [] := fun _ _ _ _ h => h
theorem wr_seq {a : Int32} {P1 : (vmD → Prop) → Prop} {P2 : (vmD → Prop) → vmD → Prop} {d : vmD} {L1 L2 : List Tt} (h1 : Wr a P1 d L1) (h2 : ∀ d', d' = rW (flR a d L1) d → Wr a (fun Q => P2 Q d') d' L2) : Wr a (fun Q => P1 (fun d' => P2 Q d')) d (L1 ++ L2) := by
  intro n Q hn hl hQ
  rw [flR_app, List.length_append] at hl
  refine h1 n _ hn (by omega) ?_
  refine h2 _ rfl _ Q (rW_66 _ _ _ hn) ?_ ?_
  · rw [flR_rW]
    omega
  · rw [flR_rW, ← rW_app, ← flR_app]
    exact hQ
theorem wr_bnd {a : Int32} {α : Type} {x : α} {K : α → (vmD → Prop) → Prop} {d : vmD} {L : List Tt} (h : Wr a (K x) d L) : Wr a (fun Q => bnd x (fun y => K y Q)) d L := fun n Q hn hl hQ => bnd_iff.mpr (h n Q hn hl hQ)
theorem wr_ite {a : Int32} {p p' : Prop} [Decidable p] [Decidable p'] (e : p ↔ p') {A B : (vmD → Prop) → Prop} {d : vmD} {LA LB : List Tt} (h1 : p' → Wr a A d LA) (h2 : ¬ p' → Wr a B d LB) : Wr a (fun Q => if p then A Q else B Q) d (if p' then LA else LB) := by
  intro n Q hn hl hQ
  by_cases h : p'
  · rw [if_pos (e.mpr h)]
    rw [if_pos h] at hl hQ
    exact h1 h n Q hn hl hQ
  · rw [if_neg (fun q => h (e.mp q))]
    rw [if_neg h] at hl hQ
    exact h2 h n Q hn hl hQ
theorem wr_one (a : Int32) (d : vmD) (v : Int32) : Wr a (MO_one v d) d [(v, 0)] := by
  intro n Q hn hl hQ
  have hl : n + 1 ≤ 40 := hl
  unfold MO_one
  rw [hn]
  refine ⟨nI_in (by omega) (by omega), ?_⟩
  refine bnd_iff.mpr (bnd_iff.mpr ?_)
  have e : rW (flR a d [(v, 0)]) d = sF (sA d 62 (gF d 42 66).toNatClampNeg v) 42 66 (gF d 42 66 + 1) := rfl
  rw [e, hn] at hQ
  rw [gF_sA, hn]
  exact hQ
theorem wr_ones (a : Int32) (d : vmD) {P : (vmD → Prop) → Prop} {l : List Int32} {L : List Tt} (e : flR a d L = l) (h : ∀ (n : Nat) (Q : vmD → Prop), gF d 42 66 = nI n → n + l.length ≤ 40 → Q (rW l d) → P Q) : Wr a P d L := by
  intro n Q hn hl hQ
  rw [e] at hl hQ
  exact h n Q hn hl hQ
theorem one_eq {d : vmD} {n : Nat} (hn : gF d 42 66 = nI n) (h : n < 40) (v : Int32) (Q : vmD → Prop) (hQ : Q (rW [v] d)) : MO_one v d Q := wr_one 0 d v n Q hn (by show n + 1 ≤ 40; omega) hQ
/-- a long's signs -/
def sayB (t : Int64) (j : Nat) : Int32 := Int64.toInt32 ((t >>> ((Int32.toInt64 (nI (8 * j))) &&& 63)) &&& 255)
def sayF (t : Int64) : Nat → List Tt
  | 0 => []
  | j + 1 => (if (0 : Int32) < sayB t j then [(sayB t j, 0)] else []) ++ sayF t j
def sayT (t : Int64) : List Tt := sayF t 8
theorem wr_say (a : Int32) (t : Int64) : ∀ (d : vmD), Wr a (MO_say t d) d (sayT t) := by
  have key : ∀ (j : Nat) (d : vmD), j ≤ 8 → Wr a (fun Q => ∃ m, MO_say_3 Q m t (nI (8 * j) - 8) d) d (sayF t j) := by
    intro j
    induction j with
    | zero =>
      intro d _ n Q hn hl hQ
      refine ⟨1, ?_⟩
      unfold MO_say_3
      rw [if_pos (by decide)]
      exact hQ
    | succ j ih =>
      intro d hj n Q hn hl hQ
      have e8 : nI (8 * (j + 1)) - 8 = nI (8 * j) := by
        rw [show (8 : Int32) = nI 8 from rfl, pk_sub (by omega)]
        exact congrArg nI (by omega)
      unfold sayF at hl hQ
      rw [flR_app, List.length_append] at hl
      rw [flR_app, rW_app] at hQ
      have e9 : nI (8 * j) + (-8) = nI (8 * j) - 8 := (Int32.sub_eq_add_neg _ _).symm
      by_cases hb : (0 : Int32) < sayB t j
      · rw [if_pos hb] at hl hQ
        have e1 : flR a d [(sayB t j, 0)] = [sayB t j] := rfl
        rw [e1] at hl hQ
        rw [List.length_singleton] at hl
        obtain ⟨m, hm⟩ := ih (rW [sayB t j] d) (by omega) (n + 1) Q (rW_66 _ _ _ hn) (by rw [flR_rW]; omega) (by rw [flR_rW]; exact hQ)
        refine ⟨m + 1, ?_⟩
        unfold MO_say_3
        rw [e8, if_neg (nI_pos (by omega))]
        refine bnd_iff.mpr ?_
        show if (0 : Int32) < sayB t j then MO_one (sayB t j) d _ else _
        rw [if_pos hb]
        refine one_eq hn (by omega) _ _ ?_
        unfold MO_say_28
        refine bnd_iff.mpr ?_
        rw [e9]
        exact hm
      · rw [if_neg hb] at hl hQ
        obtain ⟨m, hm⟩ := ih d (by omega) n Q hn (by omega) hQ
        refine ⟨m + 1, ?_⟩
        unfold MO_say_3
        rw [e8, if_neg (nI_pos (by omega))]
        refine bnd_iff.mpr ?_
        show if (0 : Int32) < sayB t j then MO_one (sayB t j) d _ else _
        rw [if_neg hb]
        unfold MO_say_28
        refine bnd_iff.mpr ?_
        rw [e9]
        exact hm
  intro d n Q hn hl hQ
  have := key 8 d (by omega) n Q hn hl hQ
  unfold MO_say
  rw [show nI (8 * 8) - 8 = (56 : Int32) from by decide] at this
  exact this
/-- a number's digits -/
theorem num18 {x : Nat} (hx : x < 100000) : ∀ (k : Nat) (d : vmD) (n : Nat) (Q : vmD → Prop), k ≤ 4 → gF d 42 66 = nI n → n + (k + 1) ≤ 40 → Q (rW (dgs k x) d) → ∃ m, MO_number_18 Q m (nI x) (nI (10 ^ k)) d := by
  intro k
  induction k with
  | zero =>
    intro d n Q hk hn hl hQ
    refine ⟨2, ?_⟩
    unfold MO_number_18
    rw [show nI (10 ^ 0) = (1 : Int32) from rfl, if_pos (by decide)]
    refine ⟨by decide, ?_⟩
    rw [show ((48 : Int32) + ((nI x / 1) - (nI x / 1) / 10 * 10)) = nI (48 + x % 10) by
      have := dig_e (n := x) (u := 1) (by omega) (by omega) (by omega)
      rw [show nI 1 = (1 : Int32) from rfl, Nat.div_one] at this
      rw [this]
      exact nI_add 48 _]
    refine one_eq hn (by omega) _ _ (bnd_iff.mpr ?_)
    unfold MO_number_18
    rw [if_neg (by decide)]
    exact hQ
  | succ k ih =>
    intro d n Q hk hn hl hQ
    have hp := p10 (k + 1) hk
    obtain ⟨m, hm⟩ := ih (rW [nI (48 + x / 10 ^ (k + 1) % 10)] d) (n + 1) Q (by omega) (rW_66 _ _ _ hn) (by omega) hQ
    refine ⟨m + 1, ?_⟩
    unfold MO_number_18
    rw [if_pos (show (0 : Int32) < nI (10 ^ (k + 1)) from nI_lt (a := 0) hp.2 hp.1)]
    refine ⟨nI_ne0 hp.2 hp.1, ?_⟩
    rw [dig_e (n := x) (by omega) hp.2 hp.1, show (48 : Int32) + nI (x / 10 ^ (k + 1) % 10) = nI (48 + x / 10 ^ (k + 1) % 10) from nI_add 48 _]
    refine one_eq hn (by omega) _ _ (bnd_iff.mpr ?_)
    rw [p10d k (by omega)]
    exact hm
theorem ndg_up {x k : Nat} (hk : k < 4) (h : 9 < x / 10 ^ k) (hx : x < 100000) : k + 1 ≤ ndg x := by
  have hp := (p10 k (by omega)).2
  have h1 : 10 ^ k * 10 ≤ x := by
    have := Nat.mul_le_mul_left (10 ^ k) (show 10 ≤ x / 10 ^ k by omega)
    exact Nat.le_trans this (Nat.mul_div_le x _)
  rcases (show k = 0 ∨ k = 1 ∨ k = 2 ∨ k = 3 by omega) with rfl | rfl | rfl | rfl
  all_goals
    unfold ndg
    repeat' split
    all_goals omega
theorem ndg_dn {x k : Nat} (hk : k ≤ 4) (h : ¬ 9 < x / 10 ^ k) (hx : x < 100000) : ndg x ≤ k := by
  have hp := (p10 k (by omega)).2
  have h1 : x < 10 ^ k * 10 := by
    have := (Nat.div_lt_iff_lt_mul hp).mp (show x / 10 ^ k < 10 by omega)
    omega
  rcases (show k = 0 ∨ k = 1 ∨ k = 2 ∨ k = 3 ∨ k = 4 by omega) with rfl | rfl | rfl | rfl | rfl
  all_goals
    unfold ndg
    repeat' split
    all_goals omega
theorem num2 {x : Nat} (hx : x < 100000) : ∀ (q k : Nat) (d : vmD) (n : Nat) (Q : vmD → Prop), k + q = 4 → k ≤ ndg x → gF d 42 66 = nI n → n + (ndg x + 1) ≤ 40 → Q (rW (decL x) d) → ∃ m, MO_number_2 Q m (nI x) (nI (10 ^ k)) d := by
  intro q
  induction q with
  | zero =>
    intro k d n Q hk hk2 hn hl hQ
    obtain rfl : k = 4 := by omega
    have e4 : ndg x = 4 := by have := ndg_4 x; omega
    refine ⟨1, ?_⟩
    unfold MO_number_2
    refine ⟨by decide, ?_⟩
    rw [show nI x / nI (10 ^ 4) = nI (x / 10 ^ 4) from pk_div (by omega) (by omega) (by omega), if_neg (show ¬ (9 : Int32) < nI (x / 10 ^ 4) from nI_nlt (a := 9) (by omega) (by omega))]
    refine num18 hx 4 d n Q (by omega) hn (by omega) ?_
    unfold decL at hQ
    rw [e4] at hQ
    exact hQ
  | succ q ih =>
    intro k d n Q hk hk2 hn hl hQ
    have hp := p10 k (by omega)
    have ed : nI x / nI (10 ^ k) = nI (x / 10 ^ k) := pk_div (by omega) hp.2 hp.1
    have hlt : x / 10 ^ k < 2 ^ 31 := Nat.lt_of_le_of_lt (Nat.div_le_self _ _) (by omega)
    by_cases h9 : 9 < x / 10 ^ k
    · obtain ⟨m, hm⟩ := ih (k + 1) d n Q (by omega) (ndg_up (by omega) h9 hx) hn hl hQ
      refine ⟨m + 1, ?_⟩
      unfold MO_number_2
      refine ⟨nI_ne0 hp.2 hp.1, ?_⟩
      rw [ed, if_pos (show (9 : Int32) < nI (x / 10 ^ k) from nI_lt (a := 9) h9 hlt)]
      refine bnd_iff.mpr ?_
      rw [show nI (10 ^ k) * 10 = nI (10 ^ (k + 1)) from (pk_mul _ 10).trans (congrArg nI (Nat.pow_succ _ _).symm)]
      exact hm
    · have e4 : ndg x = k := Nat.le_antisymm (ndg_dn (by omega) h9 hx) hk2
      refine ⟨1, ?_⟩
      unfold MO_number_2
      refine ⟨nI_ne0 hp.2 hp.1, ?_⟩
      rw [ed, if_neg (show ¬ (9 : Int32) < nI (x / 10 ^ k) from nI_nlt (a := 9) (by omega) (by omega))]
      refine num18 hx k d n Q (by omega) hn (by omega) ?_
      unfold decL at hQ
      rw [e4] at hQ
      exact hQ
def nb5 (x : Int32) : Prop := ∃ n, n < 100000 ∧ x = nI n
theorem num_eq {x : Int32} (hx : nb5 x) (d : vmD) (n : Nat) (Q : vmD → Prop) (hn : gF d 42 66 = nI n) (hl : n + (decL x.toNatClampNeg).length ≤ 40) (hQ : Q (rW (decL x.toNatClampNeg) d)) : MO_number x d Q := by
  obtain ⟨m, hm, rfl⟩ := hx
  rw [nI_clamp (by omega)] at hl hQ
  unfold MO_number
  unfold decL at hl
  rw [dgs_len] at hl
  exact num2 hm 4 0 d n Q (by omega) (by omega) hn hl hQ
def litT (l : List Int32) : List Tt := l.map (fun v => (v, 0))
theorem flR_lit (a : Int32) (d : vmD) (l : List Int32) : flR a d (litT l) = l := by
  unfold flR litT
  induction l with
  | nil => rfl
  | cons v l ih =>
    rw [List.map_cons, List.flatMap_cons, ih]
    rfl
theorem wr_num (a : Int32) {x : Int32} (hx : nb5 x) (d : vmD) : Wr a (MO_number x d) d (litT (decL x.toNatClampNeg)) := wr_ones a d (flR_lit a d _) (fun n Q hn hl hQ => num_eq hx d n Q hn hl hQ)
theorem oct.nb {x : Int32} (h : oct x) : nb5 x := by
  obtain ⟨n, hn, rfl⟩ := h
  exact ⟨n, by omega, rfl⟩
theorem wrd.nb {x : Int32} (h : wrd x) : nb5 x := by
  obtain ⟨n, hn, rfl⟩ := h
  exact ⟨n, by omega, rfl⟩
theorem flR_1 (a : Int32) (d : vmD) (t : Tt) : flR a d [t] = inR a d t := List.append_nil _
theorem wr_n {a op ix : Int32} {d : vmD} (h : StW d op ix) : Wr a (MO_n d) d [(0, 1)] := by
  obtain ⟨-, -, ⟨c, h3⟩, -⟩ := h
  refine wr_ones a d (flR_1 a d _) (fun n Q hn hl hQ => ?_)
  unfold MO_n
  rw [peek_eq]
  exact num_eq (rb_oct h3 _).nb d n _ hn hl hQ
theorem wr_m {a op ix : Int32} {d : vmD} (h : StW d op ix) : Wr a (MO_m d) d [(0, 2)] := by
  obtain ⟨-, -, ⟨c, h3⟩, -⟩ := h
  refine wr_ones a d (flR_1 a d _) (fun n Q hn hl hQ => ?_)
  unfold MO_m
  rw [wide_eq]
  exact num_eq (rw_wrd h3 _).nb d n _ hn hl hQ
theorem wr_near {a op ix : Int32} {d : vmD} (h : StW d op ix) : Wr a (MO_near a d) d [(0, 3)] := by
  refine wr_ones a d (flR_1 a d _) (fun n Q hn hl hQ => ?_)
  unfold MO_near
  rw [peek_eq, MO_signed_e]
  exact num_eq (wrd_and _).nb d n _ hn hl hQ
theorem dst_nb {x : Int32} (h : dstOk x) : nb5 (absI x) := by
  obtain ⟨n, hn, rfl | rfl⟩ := h
  · unfold absI
    rw [if_neg (nI_pos (by omega))]
    exact ⟨n, by omega, rfl⟩
  · unfold absI
    by_cases e : n = 0
    · subst e
      exact ⟨0, by omega, by decide⟩
    · have hneg : ∀ k, k < 129 → k ≠ 0 → -(nI k) < 0 ∧ - -(nI k) = nI k := by decide +kernel
      obtain ⟨q1, q2⟩ := hneg n (by omega) e
      rw [if_pos q1, q2]
      exact ⟨n, by omega, rfl⟩
