/-! Operands of both machines side by side -/
theorem opx {x y z : Nat} (hx : x < 4) (hy : y < 8) (hz : z < 8) : nI (64 * x + 8 * y + z) >>> ((6 : Int32) &&& 31) = nI x := (pk_shrN (by omega) _ 6 (by decide)).trans (congrArg nI (by omega))
theorem opy {x y z : Nat} (hx : x < 4) (hy : y < 8) (hz : z < 8) : (nI (64 * x + 8 * y + z) >>> ((3 : Int32) &&& 31)) &&& 7 = nI y := by
  rw [pk_shrN (by omega) _ 3 (by decide), pk_andN (by omega) (m := 7) 3 rfl]
  exact congrArg nI (by omega)
theorem opz {x y z : Nat} (hx : x < 4) (hy : y < 8) (hz : z < 8) : nI (64 * x + 8 * y + z) &&& 7 = nI z := by
  rw [pk_andN (by omega) (m := 7) 3 rfl]
  exact congrArg nI (by omega)
/-- the reference's work behind its decode -/
def dispR (x1 : Int32) (d : vmD) (Q : vmD → Prop) : Prop :=
  if gF d 42 59 = 1 then MO_do203 d Q
  else if gF d 42 59 = 2 then MO_do237 x1 d Q
  else if (gF d 42 61) >>> ((6 : Int32) &&& 31) = 0 then MO_doFirst d Q
  else if (gF d 42 61) >>> ((6 : Int32) &&& 31) = 1 then MO_octetAt ((gF d 42 61) &&& 7) d fun v e => MO_setOctet (((gF d 42 61) >>> ((3 : Int32) &&& 31)) &&& 7) v e Q
  else if (gF d 42 61) >>> ((6 : Int32) &&& 31) = 2 then MO_octetAt ((gF d 42 61) &&& 7) d fun v e => MO_reckon (((gF d 42 61) >>> ((3 : Int32) &&& 31)) &&& 7) v e Q
  else MO_doLast d Q
theorem step80_eq (x1 : Int32) (d : vmD) (Q : Int32 → vmD → Prop) : MO_step_80 x1 d Q = dispR x1 (sF d 42 76 (((gF d 42 76) + (gF d 42 63)) &&& 65535)) (fun e => Q 1 e) := propext bnd_iff
/-- both do the same: the class's execute, the reference's work -/
def ExOk (w f e x : Int32) (c r : vmD) : Prop := ∃ c2 r2, (∀ Q : vmD → Prop, Q c2 → Machine_execute w f e x c Q) ∧ (∀ Q : vmD → Prop, Q r2 → dispR x r Q) ∧ Rel c2 r2
/-- the kind of an octet's operand, y of the opcode, with HL, IX or IY -/
def kO (ix y : Nat) : Int32 := if y = 6 then (if ix = 0 then 7 else if ix = 1 then 32 else 33) else nI (y + 1)
def aO (ix : Nat) (r : vmD) : Int32 := if ix = 0 then (gA r 65 4 <<< ((8 : Int32) &&& 31)) ||| gA r 65 5 else (gA r 67 ix + gF r 42 62) &&& 65535
def vO (ix y : Nat) (r : vmD) : Int32 := if y = 6 then rb r (aO ix r) else gA r 65 y
def cS (ix y : Nat) (v : Int32) (r c : vmD) : vmD := if y = 6 then cM (aO ix r) (v &&& 255) c else cO y (v &&& 255) c
def rSt (ix y : Nat) (v : Int32) (r : vmD) : vmD := if y = 6 then rMm (aO ix r) v r else sA r 65 y (v &&& 255)
theorem and2 (x : Int32) : x &&& 65535 &&& 65535 = x &&& 65535 := (wrd_and x).and
theorem rb_w (r : vmD) (x : Int32) : rb r (x &&& 65535) = rb r x := by unfold rb; rw [and2]
theorem mb_w (r : vmD) (x : Int32) : mb r (x &&& 65535) = mb r x := by unfold mb; rw [and2]
theorem cM_w (x v : Int32) (c : vmD) : cM (x &&& 65535) v c = cM x v c := by unfold cM; rw [and2]
theorem rM_v (x v : Int32) (r : vmD) : rMm x (v &&& 255) r = rMm x v r := by unfold rMm; rw [(oct_and v).and]
theorem Rel.a8 {c r : vmD} (h : Rel c r) : gA c 39 8 = gA r 67 1 := h.gt8.1
theorem Rel.lO {c r : vmD} (h : Rel c r) {ix y : Nat} (hix : ix < 3) (hy : y < 8) (hd : ix = 0 ∨ gF c 19 8 = gF r 42 62) (Q : Int32 → vmD → Prop) : Machine_load (kO ix y) c Q = Q (vO ix y r) c := by
  unfold kO vO aO
  rcases (show y = 0 ∨ y = 1 ∨ y = 2 ∨ y = 3 ∨ y = 4 ∨ y = 5 ∨ y = 7 ∨ y = 6 by omega) with rfl | rfl | rfl | rfl | rfl | rfl | rfl | rfl
  · exact h.ld0 Q
  · exact h.ld1 Q
  · exact h.ld2 Q
  · exact h.ld3 Q
  · exact h.ld4 Q
  · exact h.ld5 Q
  · exact h.ld7 Q
  · rcases (show ix = 0 ∨ ix = 1 ∨ ix = 2 by omega) with rfl | rfl | rfl
    · show Machine_load 7 c Q = Q (rb r ((gA r 65 4 <<< ((8 : Int32) &&& 31)) ||| gA r 65 5)) c
      rw [ldm7_eq, h.gt3.1, mb_rb h.2.1]
    · have hd : gF c 19 8 = gF r 42 62 := by
        rcases hd with e | e
        · cases e
        · exact e
      show Machine_load 32 c Q = Q (rb r ((gA r 67 1 + gF r 42 62) &&& 65535)) c
      rw [ldm32_eq, h.gt8.1, hd, mb_rb h.2.1, rb_w]
    · have hd : gF c 19 8 = gF r 42 62 := by
        rcases hd with e | e
        · cases e
        · exact e
      show Machine_load 33 c Q = Q (rb r ((gA r 67 2 + gF r 42 62) &&& 65535)) c
      rw [ldm33_eq, h.gt9.1, hd, mb_rb h.2.1, rb_w]
theorem Rel.sO {c r : vmD} (h : Rel c r) {ix y : Nat} (hix : ix < 3) (hy : y < 8) (hd : ix = 0 ∨ gF c 19 8 = gF r 42 62) (v : Int32) (Q : vmD → Prop) : Machine_save (kO ix y) v c Q = Q (cS ix y v r c) := by
  unfold kO cS aO
  rcases (show y = 0 ∨ y = 1 ∨ y = 2 ∨ y = 3 ∨ y = 4 ∨ y = 5 ∨ y = 7 ∨ y = 6 by omega) with rfl | rfl | rfl | rfl | rfl | rfl | rfl | rfl
  · exact sv0_eq v c Q
  · exact sv1_eq v c Q
  · exact sv2_eq v c Q
  · exact sv3_eq v c Q
  · exact sv4_eq v c Q
  · exact sv5_eq v c Q
  · exact sv7_eq v c Q
  · rcases (show ix = 0 ∨ ix = 1 ∨ ix = 2 by omega) with rfl | rfl | rfl
    · show Machine_save 7 v c Q = Q (cM ((gA r 65 4 <<< ((8 : Int32) &&& 31)) ||| gA r 65 5) (v &&& 255) c)
      rw [svm7_eq, h.gt3.1]
    · have hd : gF c 19 8 = gF r 42 62 := by
        rcases hd with e | e
        · cases e
        · exact e
      show Machine_save 32 v c Q = Q (cM ((gA r 67 1 + gF r 42 62) &&& 65535) (v &&& 255) c)
      rw [svm32_eq, h.gt8.1, hd, cM_w]
    · have hd : gF c 19 8 = gF r 42 62 := by
        rcases hd with e | e
        · cases e
        · exact e
      show Machine_save 33 v c Q = Q (cM ((gA r 67 2 + gF r 42 62) &&& 65535) (v &&& 255) c)
      rw [svm33_eq, h.gt9.1, hd, cM_w]
theorem Rel.SO {c r : vmD} (h : Rel c r) {ix y : Nat} (hy : y < 8) (v : Int32) : Rel (cS ix y v r c) (rSt ix y v r) := by
  unfold cS rSt
  rcases (show y = 0 ∨ y = 1 ∨ y = 2 ∨ y = 3 ∨ y = 4 ∨ y = 5 ∨ y = 7 ∨ y = 6 by omega) with rfl | rfl | rfl | rfl | rfl | rfl | rfl | rfl
  · exact h.oct0 (oct_and v)
  · exact h.oct1 (oct_and v)
  · exact h.oct2 (oct_and v)
  · exact h.oct3 (oct_and v)
  · exact h.oct4 (oct_and v)
  · exact h.oct5 (oct_and v)
  · exact h.oct7 (oct_and v)
  · rw [if_pos rfl, if_pos rfl, ← rM_v]
    exact h.mem _ _
theorem placeAt_eq {r : vmD} {ix : Nat} (hix : ix < 3) (hi : gF r 42 60 = nI ix) (Q : Int32 → vmD → Prop) : MO_placeAt r Q = Q (aO ix r) r := by
  unfold MO_placeAt aO
  rw [hi]
  by_cases e : ix = 0
  · subst e
    rw [if_pos (by decide), if_pos (by decide), two4_eq]
  · rw [if_neg (nI_ne0 (by omega) (by omega)), if_neg e, tA (nI_in hix (by omega)), nI_clamp (by omega)]
    exact propext bnd_iff
theorem octetAt_eq {r : vmD} {ix y : Nat} (hix : ix < 3) (hy : y < 8) (hi : gF r 42 60 = nI ix) (Q : Int32 → vmD → Prop) : MO_octetAt (nI y) r Q = Q (vO ix y r) r := by
  have e6 : nI y = 6 ↔ y = 6 := nI_eq (b := 6) (by omega) (by omega)
  unfold MO_octetAt vO
  simp only [e6]
  by_cases e : y = 6
  · rw [if_pos e, if_pos e, placeAt_eq hix hi, peek_eq]
  · rw [if_neg e, if_neg e, tA (nI_in hy (by omega)), nI_clamp (by omega)]
    exact propext bnd_iff
theorem setOctet_eq {r : vmD} {ix y : Nat} (hix : ix < 3) (hy : y < 8) (hi : gF r 42 60 = nI ix) (v : Int32) (Q : vmD → Prop) : MO_setOctet (nI y) v r Q = Q (rSt ix y v r) := by
  have e6 : nI y = 6 ↔ y = 6 := nI_eq (b := 6) (by omega) (by omega)
  unfold MO_setOctet rSt
  simp only [e6]
  by_cases e : y = 6
  · rw [if_pos e, if_pos e, placeAt_eq hix hi, store_eq]
  · rw [if_neg e, if_neg e, tA (nI_in hy (by omega)), nI_clamp (by omega)]
    exact propext bnd_iff
theorem po_kO {ix y : Nat} (hix : ix < 3) (hy : y < 8) (c : vmD) (Q : Int32 → vmD → Prop) : Machine_pairOf (kO ix y) c Q = Q (-1) c := by
  unfold kO
  rcases (show y = 0 ∨ y = 1 ∨ y = 2 ∨ y = 3 ∨ y = 4 ∨ y = 5 ∨ y = 7 ∨ y = 6 by omega) with rfl | rfl | rfl | rfl | rfl | rfl | rfl | rfl
  · exact po1_eq c Q
  · exact po2_eq c Q
  · exact po3_eq c Q
  · exact po4_eq c Q
  · exact po5_eq c Q
  · exact po6_eq c Q
  · exact po8_eq c Q
  · rcases (show ix = 0 ∨ ix = 1 ∨ ix = 2 by omega) with rfl | rfl | rfl
    · exact po7_eq c Q
    · exact po32_eq c Q
    · exact po33_eq c Q
theorem kO_ne {ix y : Nat} (hix : ix < 3) (hy : y < 8) : ¬ kO ix y = 17 ∧ ¬ kO ix y = 18 ∧ ¬ kO ix y = 0 := by
  rcases (show ix = 0 ∨ ix = 1 ∨ ix = 2 by omega) with rfl | rfl | rfl <;> rcases (show y = 0 ∨ y = 1 ∨ y = 2 ∨ y = 3 ∨ y = 4 ∨ y = 5 ∨ y = 7 ∨ y = 6 by omega) with rfl | rfl | rfl | rfl | rfl | rfl | rfl | rfl <;> decide
theorem vO_oct {c r : vmD} (h : Rel c r) {ix y : Nat} (hy : y < 8) : oct (vO ix y r) := by
  unfold vO
  by_cases e : y = 6
  · rw [if_pos e]
    exact rb_oct h.2.1 _
  · rw [if_neg e]
    exact h.o65 hy
/-! the pairs -/
def kP (ix p : Nat) : Int32 := if p = 2 then (if ix = 0 then 11 else if ix = 1 then 15 else 16) else if p = 3 then 12 else nI (9 + p)
def iP (ix p : Nat) : Nat := if p = 2 then (if ix = 0 then 3 else if ix = 1 then 8 else 9) else if p = 3 then 10 else p + 1
def rP (ix p : Nat) (v : Int32) (r : vmD) : vmD := if p = 2 then (if ix = 0 then sA (sA r 65 4 ((v >>> ((8 : Int32) &&& 31)) &&& 255)) 65 5 (v &&& 255) else sA r 67 ix (v &&& 65535)) else if p = 3 then sF r 42 75 (v &&& 65535) else sA (sA r 65 (2 * p) ((v >>> ((8 : Int32) &&& 31)) &&& 255)) 65 (2 * p + 1) (v &&& 255)
theorem base_eq {c r : vmD} (h : Rel c r) {ix : Nat} (hix : ix < 3) (hi : gF r 42 60 = nI ix) (Q : Int32 → vmD → Prop) : MO_base r Q = Q (gA c 39 (iP ix 2)) r := by
  unfold MO_base iP
  rw [hi]
  rcases (show ix = 0 ∨ ix = 1 ∨ ix = 2 by omega) with rfl | rfl | rfl
  · rw [if_pos (by decide), two4_eq, ← h.gt3.1]
    rfl
  · rw [if_neg (by decide), tA (by decide)]
    refine (propext bnd_iff).trans ?_
    show Q (gA r 67 1) r = _
    rw [← h.gt8.1]
    rfl
  · rw [if_neg (by decide), tA (by decide)]
    refine (propext bnd_iff).trans ?_
    show Q (gA r 67 2) r = _
    rw [← h.gt9.1]
    rfl
theorem setBase_eq {r : vmD} {ix : Nat} (hix : ix < 3) (hi : gF r 42 60 = nI ix) (v : Int32) (Q : vmD → Prop) : MO_setBase v r Q = Q (rP ix 2 v r) := by
  unfold MO_setBase rP
  rw [hi]
  rcases (show ix = 0 ∨ ix = 1 ∨ ix = 2 by omega) with rfl | rfl | rfl
  · rw [if_pos (by decide), st4_eq]
    rfl
  · rw [if_neg (by decide), tA (by decide)]
    exact propext bnd_iff
  · rw [if_neg (by decide), tA (by decide)]
    exact propext bnd_iff
theorem pairAt_eq {c r : vmD} (h : Rel c r) {ix p : Nat} (hix : ix < 3) (hp : p < 4) (hi : gF r 42 60 = nI ix) (Q : Int32 → vmD → Prop) : MO_pairAt (nI p) r Q = Q (gA c 39 (iP ix p)) r := by
  unfold MO_pairAt
  rcases (show p = 0 ∨ p = 1 ∨ p = 2 ∨ p = 3 by omega) with rfl | rfl | rfl | rfl
  · rw [if_neg (by decide), if_neg (by decide)]
    show MO_two 0 r Q = _
    rw [two0_eq, ← h.gt1.1]
    rfl
  · rw [if_neg (by decide), if_neg (by decide)]
    show MO_two 2 r Q = _
    rw [two2_eq, ← h.gt2.1]
    rfl
  · rw [if_pos (by decide), base_eq h hix hi]
  · rw [if_neg (by decide), if_pos (by decide), ← h.gt10.1]
    rfl
theorem setPair_eq {r : vmD} {ix p : Nat} (hix : ix < 3) (hp : p < 4) (hi : gF r 42 60 = nI ix) (v : Int32) (Q : vmD → Prop) : MO_setPair (nI p) v r Q = Q (rP ix p v r) := by
  unfold MO_setPair
  rcases (show p = 0 ∨ p = 1 ∨ p = 2 ∨ p = 3 by omega) with rfl | rfl | rfl | rfl
  · rw [if_neg (by decide), if_neg (by decide)]
    show MO_setTwo 0 v r Q = _
    rw [st0_eq]
    rfl
  · rw [if_neg (by decide), if_neg (by decide)]
    show MO_setTwo 2 v r Q = _
    rw [st2_eq]
    rfl
  · rw [if_pos (by decide), setBase_eq hix hi]
  · rw [if_neg (by decide), if_pos (by decide)]
    exact propext bnd_iff
theorem pair_eq {ix p : Nat} (hix : ix < 3) (hp : p < 4) (c : vmD) (Q : Int32 → vmD → Prop) : Machine_pair (kP ix p) c Q = Q (gA c 39 (iP ix p)) c := by
  rcases (show p = 0 ∨ p = 1 ∨ p = 2 ∨ p = 3 by omega) with rfl | rfl | rfl | rfl
  · exact pr9_eq c Q
  · exact pr10_eq c Q
  · rcases (show ix = 0 ∨ ix = 1 ∨ ix = 2 by omega) with rfl | rfl | rfl
    · exact pr11_eq c Q
    · exact pr15_eq c Q
    · exact pr16_eq c Q
  · exact pr12_eq c Q
theorem savePair_eq {ix p : Nat} (hix : ix < 3) (hp : p < 4) (v : Int32) (c : vmD) (Q : vmD → Prop) : Machine_savePair (kP ix p) v c Q = Q (sA c 39 (iP ix p) (v &&& 65535)) := by
  rcases (show p = 0 ∨ p = 1 ∨ p = 2 ∨ p = 3 by omega) with rfl | rfl | rfl | rfl
  · exact sp9_eq v c Q
  · exact sp10_eq v c Q
  · rcases (show ix = 0 ∨ ix = 1 ∨ ix = 2 by omega) with rfl | rfl | rfl
    · exact sp11_eq v c Q
    · exact sp15_eq v c Q
    · exact sp16_eq v c Q
  · exact sp12_eq v c Q
theorem po_kP {ix p : Nat} (hix : ix < 3) (hp : p < 4) (c : vmD) (Q : Int32 → vmD → Prop) : Machine_pairOf (kP ix p) c Q = Q (nI (iP ix p)) c := by
  rcases (show p = 0 ∨ p = 1 ∨ p = 2 ∨ p = 3 by omega) with rfl | rfl | rfl | rfl
  · exact po9_eq c Q
  · exact po10_eq c Q
  · rcases (show ix = 0 ∨ ix = 1 ∨ ix = 2 by omega) with rfl | rfl | rfl
    · exact po11_eq c Q
    · exact po15_eq c Q
    · exact po16_eq c Q
  · exact po12_eq c Q
theorem iP_b {ix p : Nat} (hp : p < 4) : iP ix p < 11 := by
  unfold iP
  split
  · split
    · omega
    · split <;> omega
  · split <;> omega
theorem hi_w (v : Int32) : ((v &&& 65535) >>> ((8 : Int32) &&& 31)) &&& 255 = (v >>> ((8 : Int32) &&& 31)) &&& 255 := by
  apply b_ext
  intro i hi
  simp only [b_and, b_255, b_65535, b_sshr8 _ hi]
  rcases (show i = 0 ∨ i = 1 ∨ i = 2 ∨ i = 3 ∨ i = 4 ∨ i = 5 ∨ i = 6 ∨ i = 7 ∨ i = 8 ∨ i = 9 ∨ i = 10 ∨ i = 11 ∨ i = 12 ∨ i = 13 ∨ i = 14 ∨ i = 15 ∨ i = 16 ∨ i = 17 ∨ i = 18 ∨ i = 19 ∨ i = 20 ∨ i = 21 ∨ i = 22 ∨ i = 23 ∨ i = 24 ∨ i = 25 ∨ i = 26 ∨ i = 27 ∨ i = 28 ∨ i = 29 ∨ i = 30 ∨ i = 31 by omega) with rfl | rfl | rfl | rfl | rfl | rfl | rfl | rfl | rfl | rfl | rfl | rfl | rfl | rfl | rfl | rfl | rfl | rfl | rfl | rfl | rfl | rfl | rfl | rfl | rfl | rfl | rfl | rfl | rfl | rfl | rfl | rfl
  all_goals simp
theorem lo_w (v : Int32) : (v &&& 65535) &&& 255 = v &&& 255 := by
  apply b_ext
  intro i hi
  simp only [b_and, b_255, b_65535]
  rcases (show i = 0 ∨ i = 1 ∨ i = 2 ∨ i = 3 ∨ i = 4 ∨ i = 5 ∨ i = 6 ∨ i = 7 ∨ i = 8 ∨ i = 9 ∨ i = 10 ∨ i = 11 ∨ i = 12 ∨ i = 13 ∨ i = 14 ∨ i = 15 ∨ i = 16 ∨ i = 17 ∨ i = 18 ∨ i = 19 ∨ i = 20 ∨ i = 21 ∨ i = 22 ∨ i = 23 ∨ i = 24 ∨ i = 25 ∨ i = 26 ∨ i = 27 ∨ i = 28 ∨ i = 29 ∨ i = 30 ∨ i = 31 by omega) with rfl | rfl | rfl | rfl | rfl | rfl | rfl | rfl | rfl | rfl | rfl | rfl | rfl | rfl | rfl | rfl | rfl | rfl | rfl | rfl | rfl | rfl | rfl | rfl | rfl | rfl | rfl | rfl | rfl | rfl | rfl | rfl
  all_goals simp
theorem Rel.sP {c r : vmD} (h : Rel c r) {ix p : Nat} (hix : ix < 3) (hp : p < 4) (v : Int32) : Rel (sA c 39 (iP ix p) (v &&& 65535)) (rP ix p v r) := by
  unfold rP
  rcases (show p = 0 ∨ p = 1 ∨ p = 2 ∨ p = 3 by omega) with rfl | rfl | rfl | rfl
  · have := h.sg1 (wrd_and v)
    rw [hi_w, lo_w] at this
    exact this
  · have := h.sg2 (wrd_and v)
    rw [hi_w, lo_w] at this
    exact this
  · rcases (show ix = 0 ∨ ix = 1 ∨ ix = 2 by omega) with rfl | rfl | rfl
    · have := h.sg3 (wrd_and v)
      rw [hi_w, lo_w] at this
      exact this
    · exact h.sg8 (wrd_and v)
    · exact h.sg9 (wrd_and v)
  · exact h.sg10 (wrd_and v)
theorem Rel.wP {c r : vmD} (h : Rel c r) {ix p : Nat} (hix : ix < 3) (hp : p < 4) : wrd (gA c 39 (iP ix p)) := by
  rcases (show p = 0 ∨ p = 1 ∨ p = 2 ∨ p = 3 by omega) with rfl | rfl | rfl | rfl
  · exact h.gt1.2
  · exact h.gt2.2
  · rcases (show ix = 0 ∨ ix = 1 ∨ ix = 2 by omega) with rfl | rfl | rfl
    · exact h.gt3.2
    · exact h.gt8.1 ▸ h.gt8.2
    · exact h.gt9.1 ▸ h.gt9.2
  · exact h.gt10.1 ▸ h.gt10.2
