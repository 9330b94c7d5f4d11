/-! The signs of SOURCE, on both sides -/
set_option maxRecDepth 4000 in
def Names_digitOf_58_v (x0 : Int32) : Int32 :=
  if x0 = 95 then
  (37)
  else
  (if x0 = 39 then
  (0)
  else
  ((-1)))
set_option maxRecDepth 4000 in
theorem Names_digitOf_58_e (x0 : Int32) (d : vmD) (Q : Int32 → vmD → Prop) : Names_digitOf_58 x0 d Q = Q (Names_digitOf_58_v x0) d := by
  have hq : ∀ (p : Prop) [Decidable p] (a b : Int32), Q (if p then a else b) d = if p then Q a d else Q b d := by
    intro p _ a b
    split <;> rfl
  simp only [Names_digitOf_58, Names_digitOf_58_v, bnd_iff, hq]
set_option maxRecDepth 4000 in
def Names_digitOf_38_v (x0 : Int32) : Int32 :=
  if x0 < 48 then
  (Names_digitOf_58_v x0 )
  else
  (if (57 : Int32) < x0 then
  (Names_digitOf_58_v x0 )
  else
  (((x0 - 48) + 27)))
set_option maxRecDepth 4000 in
theorem Names_digitOf_38_e (x0 : Int32) (d : vmD) (Q : Int32 → vmD → Prop) : Names_digitOf_38 x0 d Q = Q (Names_digitOf_38_v x0) d := by
  have hq : ∀ (p : Prop) [Decidable p] (a b : Int32), Q (if p then a else b) d = if p then Q a d else Q b d := by
    intro p _ a b
    split <;> rfl
  simp only [Names_digitOf_38, Names_digitOf_38_v, bnd_iff, hq, Names_digitOf_58_e]
set_option maxRecDepth 4000 in
def Names_digitOf_19_v (x0 : Int32) : Int32 :=
  if x0 < 97 then
  (Names_digitOf_38_v x0 )
  else
  (if (122 : Int32) < x0 then
  (Names_digitOf_38_v x0 )
  else
  (((x0 - 97) + 1)))
set_option maxRecDepth 4000 in
theorem Names_digitOf_19_e (x0 : Int32) (d : vmD) (Q : Int32 → vmD → Prop) : Names_digitOf_19 x0 d Q = Q (Names_digitOf_19_v x0) d := by
  have hq : ∀ (p : Prop) [Decidable p] (a b : Int32), Q (if p then a else b) d = if p then Q a d else Q b d := by
    intro p _ a b
    split <;> rfl
  simp only [Names_digitOf_19, Names_digitOf_19_v, bnd_iff, hq, Names_digitOf_38_e]
set_option maxRecDepth 4000 in
def Names_digitOf_v (x0 : Int32) : Int32 :=
  if x0 < 65 then
  (Names_digitOf_19_v x0 )
  else
  (if (90 : Int32) < x0 then
  (Names_digitOf_19_v x0 )
  else
  (((x0 - 65) + 1)))
set_option maxRecDepth 4000 in
theorem Names_digitOf_e (x0 : Int32) (d : vmD) (Q : Int32 → vmD → Prop) : Names_digitOf x0 d Q = Q (Names_digitOf_v x0) d := by
  have hq : ∀ (p : Prop) [Decidable p] (a b : Int32), Q (if p then a else b) d = if p then Q a d else Q b d := by
    intro p _ a b
    split <;> rfl
  simp only [Names_digitOf, Names_digitOf_v, bnd_iff, hq, Names_digitOf_19_e]
set_option maxRecDepth 4000 in
def Tokens_isBlank_v (x0 : Int32) : Int32 :=
  if x0 = 32 then
  (1)
  else
  (if x0 = 9 then
  (1)
  else
  (if x0 = 13 then
  (1)
  else
  (0)))
set_option maxRecDepth 4000 in
theorem Tokens_isBlank_e (x0 : Int32) (d : vmD) (Q : Int32 → vmD → Prop) : Tokens_isBlank x0 d Q = Q (Tokens_isBlank_v x0) d := by
  have hq : ∀ (p : Prop) [Decidable p] (a b : Int32), Q (if p then a else b) d = if p then Q a d else Q b d := by
    intro p _ a b
    split <;> rfl
  simp only [Tokens_isBlank, Tokens_isBlank_v, bnd_iff, hq]
set_option maxRecDepth 4000 in
def Tokens_beginsName_16_v (x1 : Int32) : Int32 :=
  if x1 = 37 then
  (1)
  else
  (0)
set_option maxRecDepth 4000 in
theorem Tokens_beginsName_16_e (x1 : Int32) (d : vmD) (Q : Int32 → vmD → Prop) : Tokens_beginsName_16 x1 d Q = Q (Tokens_beginsName_16_v x1) d := by
  have hq : ∀ (p : Prop) [Decidable p] (a b : Int32), Q (if p then a else b) d = if p then Q a d else Q b d := by
    intro p _ a b
    split <;> rfl
  simp only [Tokens_beginsName_16, Tokens_beginsName_16_v, bnd_iff, hq]
set_option maxRecDepth 4000 in
def Tokens_digitAt_29_v (x2 : Int32) : Int32 :=
  if x2 < 1 then
  ((-1))
  else
  (if (6 : Int32) < x2 then
  ((-1))
  else
  ((x2 + 9)))
set_option maxRecDepth 4000 in
theorem Tokens_digitAt_29_e (x2 : Int32) (d : vmD) (Q : Int32 → vmD → Prop) : Tokens_digitAt_29 x2 d Q = Q (Tokens_digitAt_29_v x2) d := by
  have hq : ∀ (p : Prop) [Decidable p] (a b : Int32), Q (if p then a else b) d = if p then Q a d else Q b d := by
    intro p _ a b
    split <;> rfl
  simp only [Tokens_digitAt_29, Tokens_digitAt_29_v, bnd_iff, hq]
set_option maxRecDepth 4000 in
def MO_isBlank_v (x1 : Int32) : Int32 :=
  if x1 = 32 then
  (1)
  else
  (if x1 = 9 then
  (1)
  else
  (if x1 = 13 then
  (1)
  else
  (0)))
set_option maxRecDepth 4000 in
theorem MO_isBlank_e (x1 : Int32) (d : vmD) (Q : Int32 → vmD → Prop) : MO_isBlank x1 d Q = Q (MO_isBlank_v x1) d := by
  have hq : ∀ (p : Prop) [Decidable p] (a b : Int32), Q (if p then a else b) d = if p then Q a d else Q b d := by
    intro p _ a b
    split <;> rfl
  simp only [MO_isBlank, MO_isBlank_v, bnd_iff, hq]
set_option maxRecDepth 4000 in
def MO_capital_v (x1 : Int32) : Int32 :=
  if x1 < 97 then
  (x1)
  else
  (if (122 : Int32) < x1 then
  (x1)
  else
  ((x1 - 32)))
set_option maxRecDepth 4000 in
theorem MO_capital_e (x1 : Int32) (d : vmD) (Q : Int32 → vmD → Prop) : MO_capital x1 d Q = Q (MO_capital_v x1) d := by
  have hq : ∀ (p : Prop) [Decidable p] (a b : Int32), Q (if p then a else b) d = if p then Q a d else Q b d := by
    intro p _ a b
    split <;> rfl
  simp only [MO_capital, MO_capital_v, bnd_iff, hq]
set_option maxRecDepth 4000 in
def MO_isStart_18_v (x1 : Int32) : Int32 :=
  if x1 = 95 then
  (1)
  else
  (0)
set_option maxRecDepth 4000 in
theorem MO_isStart_18_e (x1 : Int32) (d : vmD) (Q : Int32 → vmD → Prop) : MO_isStart_18 x1 d Q = Q (MO_isStart_18_v x1) d := by
  have hq : ∀ (p : Prop) [Decidable p] (a b : Int32), Q (if p then a else b) d = if p then Q a d else Q b d := by
    intro p _ a b
    split <;> rfl
  simp only [MO_isStart_18, MO_isStart_18_v, bnd_iff, hq]
set_option maxRecDepth 4000 in
def MO_isDigit_v (x1 : Int32) : Int32 :=
  if x1 < 48 then
  (0)
  else
  (if (57 : Int32) < x1 then
  (0)
  else
  (1))
set_option maxRecDepth 4000 in
theorem MO_isDigit_e (x1 : Int32) (d : vmD) (Q : Int32 → vmD → Prop) : MO_isDigit x1 d Q = Q (MO_isDigit_v x1) d := by
  have hq : ∀ (p : Prop) [Decidable p] (a b : Int32), Q (if p then a else b) d = if p then Q a d else Q b d := by
    intro p _ a b
    split <;> rfl
  simp only [MO_isDigit, MO_isDigit_v, bnd_iff, hq]
def bgnV (x : Int32) : Int32 := if Names_digitOf_v x < 1 then Tokens_beginsName_16_v (Names_digitOf_v x) else if (26 : Int32) < Names_digitOf_v x then Tokens_beginsName_16_v (Names_digitOf_v x) else 1
theorem bgn_e (x : Int32) (d : vmD) (Q : Int32 → vmD → Prop) : Tokens_beginsName x d Q = Q (bgnV x) d := by
  unfold Tokens_beginsName bgnV
  rw [Names_digitOf_e]
  simp only [Tokens_beginsName_16_e]
  repeat' split
  all_goals rfl
def staV (x : Int32) : Int32 := if MO_capital_v x < 65 then MO_isStart_18_v x else if (90 : Int32) < MO_capital_v x then MO_isStart_18_v x else 1
theorem sta_e (x : Int32) (d : vmD) (Q : Int32 → vmD → Prop) : MO_isStart x d Q = Q (staV x) d := by
  unfold MO_isStart staV
  rw [MO_capital_e]
  simp only [MO_isStart_18_e]
  repeat' split
  all_goals rfl
def worV (x : Int32) : Int32 := if MO_isDigit_v x = 0 then (if MO_capital_v x < 65 then 99 else if (70 : Int32) < MO_capital_v x then 99 else MO_capital_v x - 55) else x - 48
theorem wor_e (x : Int32) (d : vmD) (Q : Int32 → vmD → Prop) : MO_worth x d Q = Q (worV x) d := by
  unfold MO_worth worV
  rw [MO_capital_e, MO_isDigit_e]
  repeat' split
  all_goals rfl
def dgaV (x : Int32) : Int32 := if Names_digitOf_v x < 27 then Tokens_digitAt_29_v (Names_digitOf_v x) else if (36 : Int32) < Names_digitOf_v x then Tokens_digitAt_29_v (Names_digitOf_v x) else Names_digitOf_v x - 27
/-- the same in numbers -/
def dgC (b : Nat) : Nat := if 65 ≤ b ∧ b ≤ 90 then b - 64 else if 97 ≤ b ∧ b ≤ 122 then b - 96 else if 48 ≤ b ∧ b ≤ 57 then b - 21 else if b = 95 then 37 else if b = 39 then 0 else 38
def isS (b : Nat) : Bool := (decide (1 ≤ dgC b) && decide (dgC b ≤ 26)) || decide (dgC b = 37)
def isN (b : Nat) : Bool := decide (0 < dgC b) && decide (dgC b < 38)
def isD (b : Nat) : Bool := decide (48 ≤ b) && decide (b ≤ 57)
def blk (b : Nat) : Bool := decide (b = 32) || (decide (b = 9) || decide (b = 13))
def capN (b : Nat) : Nat := if 97 ≤ b ∧ b ≤ 122 then b - 32 else b
def wrN (b : Nat) : Nat := if isD b then b - 48 else if 65 ≤ capN b ∧ capN b ≤ 70 then capN b - 55 else 99
def txtB (b : Nat) : Bool := decide (32 ≤ b) && (decide (b ≤ 126) && !(decide (b = 34)))
def nlB (b : Nat) : Bool := !(decide (b = 10))
theorem dgO_b : ∀ b, b < 256 → Names_digitOf_v (nI b) = if dgC b = 38 then -1 else nI (dgC b) := by decide +kernel
theorem bgn_b : ∀ b, b < 256 → bgnV (nI b) = if isS b = true then 1 else 0 := by decide +kernel
theorem blC_b : ∀ b, b < 256 → Tokens_isBlank_v (nI b) = if blk b = true then 1 else 0 := by decide +kernel
theorem blR_b : ∀ b, b < 256 → MO_isBlank_v (nI b) = if blk b = true then 1 else 0 := by decide +kernel
theorem sta_b : ∀ b, b < 256 → staV (nI b) = if isS b = true then 1 else 0 := by decide +kernel
theorem isd_b : ∀ b, b < 256 → MO_isDigit_v (nI b) = if isD b = true then 1 else 0 := by decide +kernel
theorem cap_b : ∀ b, b < 256 → MO_capital_v (nI b) = nI (capN b) := by decide +kernel
theorem wor_b : ∀ b, b < 256 → worV (nI b) = nI (wrN b) := by decide +kernel
theorem dga_b : ∀ b, b < 256 → dgaV (nI b) = if wrN b = 99 then -1 else nI (wrN b) := by decide +kernel
theorem isN_SD : ∀ b, b < 256 → isN b = (isS b || isD b) := by decide +kernel
theorem wr_16 (b : Nat) : wrN b < 16 ∨ wrN b = 99 := by
  unfold wrN isD
  split
  · rename_i h
    simp only [Bool.and_eq_true, decide_eq_true_eq] at h
    omega
  · split
    · omega
    · omega
/-- SOURCE in both worlds -/
def SrcC (B : Nat → Nat) (n : Nat) (c : vmD) : Prop := gF c 9 1 = nI n ∧ ∀ i, i < n → gA c 10 i &&& 255 = nI (B i)
def SrcR (B : Nat → Nat) (n : Nat) (r : vmD) : Prop := gF r 42 1 = nI n ∧ ∀ i, i < n → gA r 43 i = nI (B i)
def SrcOk (B : Nat → Nat) (n : Nat) : Prop := n ≤ 6000 ∧ ∀ i, B i < 256
def byC (B : Nat → Nat) (n i : Nat) : Int32 := if i < n then nI (B i) else -1
def byR (B : Nat → Nat) (n i : Nat) : Nat := if i < n then B i else 10
theorem byR_lt {B : Nat → Nat} {n : Nat} (h : SrcOk B n) (i : Nat) : byR B n i < 256 := by
  unfold byR
  split
  · exact h.2 i
  · omega
theorem atC {B : Nat → Nat} {n : Nat} (h : SrcOk B n) {c : vmD} (hc : SrcC B n c) {i : Nat} (hi : i < 65536) (Q : Int32 → vmD → Prop) : Text_at_src (nI i) c Q = Q (byC B n i) c := by
  have hn := h.1
  unfold Text_at_src byC
  rw [if_neg (nI_pos (by omega)), hc.1]
  by_cases e : i < n
  · rw [if_pos (nI_lt e (by omega)), if_pos (show nI i < 6000 from nI_lt (b := 6000) (by omega) (by omega)), tA (nI_in (by omega) (by omega)), if_pos e]
    refine (propext bnd_iff).trans ?_
    rw [nI_clamp (by omega), hc.2 i e]
  · rw [if_neg (nI_nlt (by omega) (by omega)), if_neg e]
theorem atR {B : Nat → Nat} {n : Nat} (h : SrcOk B n) {r : vmD} (hr : SrcR B n r) {i : Nat} (hi : i < 65536) (Q : Int32 → vmD → Prop) : MO_byteAt (nI i) r Q = Q (nI (byR B n i)) r := by
  have hn := h.1
  unfold MO_byteAt byR
  rw [hr.1]
  by_cases e : i < n
  · rw [if_pos (nI_lt e (by omega)), tA (nI_in (by omega) (by omega)), if_pos e]
    refine (propext bnd_iff).trans ?_
    rw [nI_clamp (by omega), hr.2 i e]
  · rw [if_neg (nI_nlt (by omega) (by omega)), if_neg e]
    rfl
/-- scanning on -/
def scn (P : Nat → Bool) (B : Nat → Nat) : Nat → Nat → Nat
  | 0, p => p
  | f + 1, p => if P (B p) = true then scn P B f (p + 1) else p
def sc (P : Nat → Bool) (B : Nat → Nat) (n p : Nat) : Nat := scn P B (n - p) p
theorem sc_yes {P : Nat → Bool} {B : Nat → Nat} {n p : Nat} (h : p < n) (e : P (B p) = true) : sc P B n p = sc P B n (p + 1) := by
  unfold sc
  rw [show n - p = (n - (p + 1)) + 1 by omega]
  show (if P (B p) = true then _ else _) = _
  rw [if_pos e]
theorem sc_no {P : Nat → Bool} {B : Nat → Nat} {n p : Nat} (e : n ≤ p ∨ P (B p) = false) : sc P B n p = p := by
  unfold sc
  by_cases h : p < n
  · rw [show n - p = (n - (p + 1)) + 1 by omega]
    show (if P (B p) = true then _ else _) = _
    rw [if_neg (by rw [e.resolve_left (by omega)]; exact Bool.false_ne_true)]
  · rw [show n - p = 0 by omega]
    rfl
theorem sc_ind {P : Nat → Bool} {B : Nat → Nat} {n : Nat} (C : Nat → Prop) (h0 : ∀ p, p ≤ n → (n ≤ p ∨ P (B p) = false) → C p) (h1 : ∀ p, p < n → P (B p) = true → C (p + 1) → C p) : ∀ p, p ≤ n → C p := by
  have key : ∀ f p, p + f = n → C p := by
    intro f
    induction f with
    | zero => intro p hp; exact h0 p (by omega) (Or.inl (by omega))
    | succ f ih =>
      intro p hp
      by_cases e : P (B p) = true
      · exact h1 p (by omega) e (ih (p + 1) (by omega))
      · exact h0 p (by omega) (Or.inr (by rw [← Bool.not_eq_true]; exact e))
  intro p hp
  exact key (n - p) p (by omega)
theorem sc_le {P : Nat → Bool} {B : Nat → Nat} {n p : Nat} (h : p ≤ n) : p ≤ sc P B n p ∧ sc P B n p ≤ n := by
  refine sc_ind (P := P) (B := B) (n := n) (fun p => p ≤ sc P B n p ∧ sc P B n p ≤ n) (fun p hp e => ?_) (fun p hp e ih => ?_) p h
  · rw [sc_no e]
    exact ⟨Nat.le_refl _, hp⟩
  · rw [sc_yes hp e]
    omega
theorem sc_at {P : Nat → Bool} {B : Nat → Nat} {n p : Nat} (h : p ≤ n) : n ≤ sc P B n p ∨ P (B (sc P B n p)) = false := by
  refine sc_ind (P := P) (B := B) (n := n) (fun p => n ≤ sc P B n p ∨ P (B (sc P B n p)) = false) (fun p hp e => ?_) (fun p hp e ih => ?_) p h
  · rw [sc_no e]
    exact e
  · rw [sc_yes hp e]
    exact ih
theorem sc_in {P : Nat → Bool} {B : Nat → Nat} {n p : Nat} (h : p ≤ n) : ∀ i, p ≤ i → i < sc P B n p → P (B i) = true := by
  refine sc_ind (P := P) (B := B) (n := n) (fun p => ∀ i, p ≤ i → i < sc P B n p → P (B i) = true) (fun p hp e => ?_) (fun p hp e ih => ?_) p h
  · rw [sc_no e]
    intro i h1 h2
    omega
  · rw [sc_yes hp e]
    intro i h1 h2
    by_cases q : i = p
    · rw [q]
      exact e
    · exact ih i (by omega) h2
theorem byC_in {B : Nat → Nat} {n i : Nat} (h : i < n) : byC B n i = nI (B i) := if_pos h
theorem byC_out {B : Nat → Nat} {n i : Nat} (h : n ≤ i) : byC B n i = -1 := if_neg (by omega)
theorem byR_in {B : Nat → Nat} {n i : Nat} (h : i < n) : byR B n i = B i := if_pos h
theorem byR_out {B : Nat → Nat} {n i : Nat} (h : n ≤ i) : byR B n i = 10 := if_neg (by omega)
/-- the class's loops over SOURCE -/
theorem lineEndC {B : Nat → Nat} {n : Nat} (h : SrcOk B n) {c : vmD} (hc : SrcC B n c) (Q : Int32 → vmD → Prop) : ∀ p, p ≤ n → Q (nI (sc nlB B n p)) c → ∃ m, Text_lineEnd_src_6 Q m (nI p) c := by
  have hn := h.1
  refine sc_ind (P := nlB) (B := B) (n := n) _ (fun p hp e => ?_) (fun p hp e ih => ?_)
  · rw [sc_no e]
    intro hQ
    refine ⟨1, ?_⟩
    unfold Text_lineEnd_src_6
    rw [hc.1]
    by_cases q : p < n
    · have e10 : B p = 10 := by
        have e2 := e.resolve_left (by omega)
        unfold nlB at e2
        simpa using e2
      rw [if_pos (nI_lt q (by omega)), atC h hc (by omega), byC_in q, if_pos (by rw [e10]; rfl)]
      exact hQ
    · rw [if_neg (nI_nlt (by omega) (by omega))]
      exact hQ
  · rw [sc_yes hp e]
    intro hQ
    obtain ⟨m, hm⟩ := ih hQ
    have e10 : ¬ B p = 10 := by
      unfold nlB at e
      simpa using e
    refine ⟨m + 1, ?_⟩
    unfold Text_lineEnd_src_6
    rw [hc.1, if_pos (nI_lt hp (by omega)), atC h hc (by omega), byC_in hp, if_neg (show ¬ nI (B p) = 10 from fun q => e10 ((nI_eq (b := 10) (by have := h.2 p; omega) (by omega)).mp q))]
    refine bnd_iff.mpr ?_
    rw [nI_1]
    exact hm
theorem skipC {B : Nat → Nat} {n : Nat} (h : SrcOk B n) {c : vmD} (hc : SrcC B n c) (Q : Int32 → vmD → Prop) : ∀ p, p ≤ n → Q (nI (sc blk B n p)) c → Tokens_skipBlanks (nI p) c Q := by
  have hn := h.1
  unfold Tokens_skipBlanks
  refine sc_ind (P := blk) (B := B) (n := n) _ (fun p hp e => ?_) (fun p hp e ih => ?_)
  · rw [sc_no e]
    intro hQ
    refine ⟨1, ?_⟩
    unfold Tokens_skipBlanks_2 Text_length_src
    rw [hc.1]
    dsimp only
    by_cases q : p < n
    · rw [if_pos (nI_lt q (by omega)), atC h hc (by omega), byC_in q, Tokens_isBlank_e, blC_b _ (h.2 p), e.resolve_left (by omega), if_neg Bool.false_ne_true, if_pos rfl]
      exact hQ
    · rw [if_neg (nI_nlt (by omega) (by omega))]
      exact hQ
  · rw [sc_yes hp e]
    intro hQ
    obtain ⟨m, hm⟩ := ih hQ
    refine ⟨m + 1, ?_⟩
    unfold Tokens_skipBlanks_2 Text_length_src
    rw [hc.1]
    dsimp only
    rw [if_pos (nI_lt hp (by omega)), atC h hc (by omega), byC_in hp, Tokens_isBlank_e, blC_b _ (h.2 p), e, if_pos rfl, if_neg (by decide)]
    refine bnd_iff.mpr ?_
    rw [nI_1]
    exact hm
/-- where the name ends that begins at p, or p -/
def nmE (B : Nat → Nat) (n p : Nat) : Nat := if isS (byR B n p) = true then sc isN B n p else p
theorem dgC_N (b : Nat) (hb : b < 256) : (0 : Int32) < Names_digitOf_v (nI b) ↔ isN b = true := by
  have key : ∀ b, b < 256 → (decide ((0 : Int32) < Names_digitOf_v (nI b)) = isN b) := by decide +kernel
  have := key b hb
  constructor
  · intro q
    rw [← this]
    exact decide_eq_true q
  · intro q
    rw [q] at this
    exact of_decide_eq_true this
theorem isS_10 : isS 10 = false := by decide
theorem bgn_C {B : Nat → Nat} {n : Nat} (h : SrcOk B n) (p : Nat) : bgnV (byC B n p) = if isS (byR B n p) = true then 1 else 0 := by
  by_cases q : p < n
  · rw [byC_in q, byR_in q]
    exact bgn_b _ (h.2 p)
  · rw [byC_out (by omega), byR_out (by omega)]
    decide
theorem nmEndC {B : Nat → Nat} {n : Nat} (h : SrcOk B n) {c : vmD} (hc : SrcC B n c) (Q : Int32 → vmD → Prop) {p : Nat} (hp : p ≤ n) (hQ : Q (nI (nmE B n p)) c) : Tokens_nameEnd (nI p) c Q := by
  have hn := h.1
  unfold Tokens_nameEnd
  rw [atC h hc (by omega), bgn_e, bgn_C h]
  unfold nmE at hQ
  by_cases s : isS (byR B n p) = true
  · rw [if_pos s] at hQ
    rw [if_pos s, if_neg (by decide)]
    refine sc_ind (P := isN) (B := B) (n := n) (fun p => Q (nI (sc isN B n p)) c → ∃ m, Tokens_nameEnd_16 Q m (nI p) c) (fun p hp e => ?_) (fun p hp e ih => ?_) p hp hQ
    · rw [sc_no e]
      intro hQ
      refine ⟨1, ?_⟩
      unfold Tokens_nameEnd_16 Text_length_src
      rw [hc.1]
      dsimp only
      by_cases q : p < n
      · rw [if_pos (nI_lt q (by omega)), atC h hc (by omega), byC_in q, Names_digitOf_e, if_neg (fun z => by
          have := (dgC_N _ (h.2 p)).mp z
          rw [e.resolve_left (by omega)] at this
          exact Bool.false_ne_true this)]
        exact hQ
      · rw [if_neg (nI_nlt (by omega) (by omega))]
        exact hQ
    · rw [sc_yes hp e]
      intro hQ
      obtain ⟨m, hm⟩ := ih hQ
      refine ⟨m + 1, ?_⟩
      unfold Tokens_nameEnd_16 Text_length_src
      rw [hc.1]
      dsimp only
      rw [if_pos (nI_lt hp (by omega)), atC h hc (by omega), byC_in hp, Names_digitOf_e, if_pos ((dgC_N _ (h.2 p)).mpr e)]
      refine bnd_iff.mpr ?_
      rw [nI_1]
      exact hm
  · rw [if_neg s] at hQ
    rw [if_neg s, if_pos rfl]
    exact hQ
/-- a name's key -/
def keyD (B : Nat → Nat) (p : Nat) : Nat → Nat
  | 0 => 0
  | m + 1 => keyD B p m * 38 + (if dgC (B (p + m)) = 38 then 0 else dgC (B (p + m)))
theorem dgC_le (b : Nat) : dgC b ≤ 38 := by
  unfold dgC
  repeat' split
  all_goals omega
theorem keyD_lt (B : Nat → Nat) (p : Nat) : ∀ m, keyD B p m < 38 ^ m := by
  intro m
  induction m with
  | zero => exact Nat.lt_succ_self 0
  | succ m ih =>
    show keyD B p m * 38 + _ < 38 ^ (m + 1)
    have : (if dgC (B (p + m)) = 38 then 0 else dgC (B (p + m))) < 38 := by
      have := dgC_le (B (p + m))
      split <;> omega
    rw [Nat.pow_succ]
    omega
theorem longer_e (K : Nat) {b : Nat} (hb : b < 256) (c : vmD) (Q : Int64 → vmD → Prop) : Names_longer (lN K) (nI b) c Q = Q (lN (K * 38 + (if dgC b = 38 then 0 else dgC b))) c := by
  unfold Names_longer
  rw [Names_digitOf_e, dgO_b b hb]
  have hd := dgC_le b
  have e : Int32.toInt64 (if (if dgC b = 38 then (-1 : Int32) else nI (dgC b)) < 0 then 0 else (if dgC b = 38 then (-1 : Int32) else nI (dgC b))) = lN (if dgC b = 38 then 0 else dgC b) := by
    by_cases q : dgC b = 38
    · simp only [if_pos q]
      decide
    · simp only [if_neg q]
      rw [if_neg (nI_pos (by omega)), nI_l (by omega)]
  rw [e, show (38 : Int64) = lN 38 from rfl, lN_mul, lN_add]
theorem keyC {B : Nat → Nat} {n : Nat} (h : SrcOk B n) {c : vmD} (hc : SrcC B n c) (Q : Int64 → vmD → Prop) {p e : Nat} (he : e ≤ n) (hp : p ≤ e) (hQ : Q (lN (if 12 < e - p then 0 else keyD B p (e - p))) c) : Tokens_keyOf (nI p) (nI e) c Q := by
  have hn := h.1
  unfold Tokens_keyOf
  rw [pk_sub hp]
  by_cases q : 12 < e - p
  · rw [if_pos (show (12 : Int32) < nI (e - p) from nI_lt (a := 12) q (by omega))]
    rw [if_pos q] at hQ
    exact hQ
  · rw [if_neg (show ¬ (12 : Int32) < nI (e - p) from nI_nlt (a := 12) (by omega) (by omega))]
    rw [if_neg q] at hQ
    have key : ∀ f m, m + f = e - p → ∃ k, Tokens_keyOf_13 Q k (nI e) (lN (keyD B p m)) (nI (p + m)) c := by
      intro f
      induction f with
      | zero =>
        intro m hm
        refine ⟨1, ?_⟩
        unfold Tokens_keyOf_13 Tokens_keyOf_39
        rw [if_neg (nI_nlt (by omega) (by omega))]
        rw [show m = e - p by omega]
        exact hQ
      | succ f ih =>
        intro m hm
        obtain ⟨k, hk⟩ := ih (m + 1) (by omega)
        refine ⟨k + 1, ?_⟩
        unfold Tokens_keyOf_13
        rw [if_pos (nI_lt (by omega) (by omega)), atC h hc (by omega), byC_in (by omega), longer_e _ (h.2 _)]
        refine bnd_iff.mpr ?_
        rw [nI_1]
        exact hk
    have := key (e - p) 0 (by omega)
    exact this
