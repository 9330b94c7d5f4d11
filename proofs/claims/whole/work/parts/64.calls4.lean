/-! Whole arrays set; the call clear -/
def setA (d : vmD) (o : Nat) (f : Nat → Int32) : vmD := (d.1, d.2.1, fun o' j => if o' = o then f j else d.2.2.1 o' j, d.2.2.2)
def setL (d : vmD) (o : Nat) (f : Nat → Int64) : vmD := (d.1, d.2.1, d.2.2.1, fun o' j => if o' = o then f j else d.2.2.2 o' j)
theorem gA_setA (d : vmD) (o : Nat) (f : Nat → Int32) : gA (setA d o f) o = f := by
  funext k
  exact if_pos rfl
theorem gA_setA_ne (d : vmD) {o o' : Nat} (f : Nat → Int32) (h : ¬ o' = o) : gA (setA d o f) o' = gA d o' := by
  funext k
  exact if_neg h
theorem gF_setA (d : vmD) (o o' : Nat) (f : Nat → Int32) : gF (setA d o f) o' = gF d o' := rfl
theorem gG_setA (d : vmD) (o o' : Nat) (f : Nat → Int32) : gG (setA d o f) o' = gG d o' := rfl
theorem gL_setA (d : vmD) (o o' : Nat) (f : Nat → Int32) : gL (setA d o f) o' = gL d o' := rfl
theorem gL_setLe (d : vmD) (o : Nat) (f : Nat → Int64) : gL (setL d o f) o = f := by
  funext k
  exact if_pos rfl
theorem gL_setL_ne (d : vmD) {o o' : Nat} (f : Nat → Int64) (h : ¬ o' = o) : gL (setL d o f) o' = gL d o' := by
  funext k
  exact if_neg h
theorem gA_setL (d : vmD) (o o' : Nat) (f : Nat → Int64) : gA (setL d o f) o' = gA d o' := rfl
theorem gF_setL (d : vmD) (o o' : Nat) (f : Nat → Int64) : gF (setL d o f) o' = gF d o' := rfl
theorem gG_setL (d : vmD) (o o' : Nat) (f : Nat → Int64) : gG (setL d o f) o' = gG d o' := rfl
theorem D_ext {a b : vmD} (h1 : ∀ o, gF a o = gF b o) (h2 : ∀ o, gG a o = gG b o) (h3 : ∀ o, gA a o = gA b o) (h4 : ∀ o, gL a o = gL b o) : a = b := by
  obtain ⟨a1, a2, a3, a4⟩ := a
  obtain ⟨b1, b2, b3, b4⟩ := b
  have e1 : a1 = b1 := funext h1
  have e2 : a2 = b2 := funext h2
  have e3 : a3 = b3 := funext h3
  have e4 : a4 = b4 := funext h4
  rw [e1, e2, e3, e4]
theorem sA_setA (d : vmD) (o j : Nat) (v : Int32) : sA d o j v = setA d o (u1f (gA d o) j v) := by
  refine D_ext (fun _ => rfl) (fun _ => rfl) (fun x => ?_) (fun _ => rfl)
  by_cases h : x = o
  · subst h
    rw [gA_sA, gA_setA]
  · rw [gA_sA_ne _ _ _ h, gA_setA_ne _ _ h]
theorem setA_setA (d : vmD) (o : Nat) (f g : Nat → Int32) : setA (setA d o f) o g = setA d o g := by
  refine D_ext (fun _ => rfl) (fun _ => rfl) (fun x => ?_) (fun _ => rfl)
  by_cases h : x = o
  · subst h
    rw [gA_setA, gA_setA]
  · rw [gA_setA_ne _ _ h, gA_setA_ne _ _ h, gA_setA_ne _ _ h]
theorem setA_self (d : vmD) (o : Nat) : setA d o (gA d o) = d := by
  refine D_ext (fun _ => rfl) (fun _ => rfl) (fun x => ?_) (fun _ => rfl)
  by_cases h : x = o
  · subst h
    rw [gA_setA]
  · rw [gA_setA_ne _ _ h]
def fillF (f : Nat → Int32) (a b : Nat) (v : Int32) : Nat → Int32 := fun j => if a ≤ j ∧ j < b then v else f j
theorem fillF_z (f : Nat → Int32) (a : Nat) (v : Int32) : fillF f a a v = f := by
  funext j
  exact if_neg (by omega)
theorem fillF_s (f : Nat → Int32) {a b : Nat} (v : Int32) (h : a < b) : fillF (u1f f a v) (a + 1) b v = fillF f a b v := by
  funext j
  unfold fillF u1f
  by_cases e : j = a
  · subst e
    rw [if_neg (by omega), if_pos rfl, if_pos (by omega)]
  · by_cases e2 : a ≤ j ∧ j < b
    · rw [if_pos (by omega), if_pos e2]
    · rw [if_neg (by omega), if_neg e, if_neg e2]
theorem fillF_e (f : Nat → Int32) {a b : Nat} (v : Int32) (h : a ≤ b) : u1f (fillF f a b v) b v = fillF f a (b + 1) v := by
  funext j
  unfold fillF u1f
  by_cases e : j = b
  · subst e
    rw [if_pos rfl, if_pos (by omega)]
  · rw [if_neg e]
    by_cases e2 : a ≤ j ∧ j < b
    · exact (if_pos e2).trans (if_pos (by omega)).symm
    · exact (if_neg e2).trans (if_neg (by omega)).symm
theorem fill2_ok (v : Int32) {b : Nat} (hb : b ≤ 65536) : ∀ (q a : Nat) (d : vmD), a + q = b → ∀ Q : vmD → Prop, Q (setA d 2 (fillF (gA d 2) a b v.toInt8.toInt32)) → ∃ n, Arrays_fill1_2_10 Q n (nI b) v (nI a) d := by
  intro q
  induction q with
  | zero =>
    intro a d h Q hQ
    obtain rfl : a = b := by omega
    rw [fillF_z, setA_self] at hQ
    refine ⟨1, ?_⟩
    unfold Arrays_fill1_2_10
    rw [if_neg (nI_nlt (Nat.le_refl _) (by omega))]
    exact hQ
  | succ q ih =>
    intro a d h Q hQ
    have := ih (a + 1) (sA d 2 a v.toInt8.toInt32) (by omega) Q (by rw [gA_sA, fillF_s _ _ (by omega), sA_setA, setA_setA]; exact hQ)
    obtain ⟨n, hn⟩ := this
    refine ⟨n + 1, ?_⟩
    unfold Arrays_fill1_2_10
    rw [if_pos (nI_lt (by omega) (by omega))]
    simp only [bnd_iff, nI_clamp (show a < 2 ^ 31 by omega), nI_1]
    exact ⟨nI_in (by omega) (by omega), hn⟩
theorem fill39_ok (v : Int32) : ∀ (q a : Nat) (d : vmD), a + q = 17 → ∀ Q : vmD → Prop, Q (setA d 39 (fillF (gA d 39) a 17 v)) → ∃ n, Arrays_fill0_39_5 Q n v (nI a) (nI 17) d := by
  intro q
  induction q with
  | zero =>
    intro a d h Q hQ
    obtain rfl : a = 17 := by omega
    rw [fillF_z, setA_self] at hQ
    refine ⟨1, ?_⟩
    unfold Arrays_fill0_39_5
    rw [if_neg (nI_nlt (Nat.le_refl _) (by omega))]
    exact hQ
  | succ q ih =>
    intro a d h Q hQ
    have := ih (a + 1) (sA d 39 a v) (by omega) Q (by rw [gA_sA, fillF_s _ _ (by omega), sA_setA, setA_setA]; exact hQ)
    obtain ⟨n, hn⟩ := this
    refine ⟨n + 1, ?_⟩
    unfold Arrays_fill0_39_5
    rw [if_pos (nI_lt (by omega) (by omega))]
    simp only [bnd_iff, nI_clamp (show a < 2 ^ 31 by omega), nI_1]
    exact ⟨nI_in (by omega) (by omega), hn⟩
theorem fill40_ok (v : Int32) : ∀ (q a : Nat) (d : vmD), a + q = 256 → ∀ Q : vmD → Prop, Q (setA d 40 (fillF (gA d 40) a 256 v)) → ∃ n, Arrays_fill0_40_5 Q n v (nI a) (nI 256) d := by
  intro q
  induction q with
  | zero =>
    intro a d h Q hQ
    obtain rfl : a = 256 := by omega
    rw [fillF_z, setA_self] at hQ
    refine ⟨1, ?_⟩
    unfold Arrays_fill0_40_5
    rw [if_neg (nI_nlt (Nat.le_refl _) (by omega))]
    exact hQ
  | succ q ih =>
    intro a d h Q hQ
    have := ih (a + 1) (sA d 40 a v) (by omega) Q (by rw [gA_sA, fillF_s _ _ (by omega), sA_setA, setA_setA]; exact hQ)
    obtain ⟨n, hn⟩ := this
    refine ⟨n + 1, ?_⟩
    unfold Arrays_fill0_40_5
    rw [if_pos (nI_lt (by omega) (by omega))]
    simp only [bnd_iff, nI_clamp (show a < 2 ^ 31 by omega), nI_1]
    exact ⟨nI_in (by omega) (by omega), hn⟩
theorem fill41_ok (v : Int32) : ∀ (q a : Nat) (d : vmD), a + q = 256 → ∀ Q : vmD → Prop, Q (setA d 41 (fillF (gA d 41) a 256 v)) → ∃ n, Arrays_fill0_41_5 Q n v (nI a) (nI 256) d := by
  intro q
  induction q with
  | zero =>
    intro a d h Q hQ
    obtain rfl : a = 256 := by omega
    rw [fillF_z, setA_self] at hQ
    refine ⟨1, ?_⟩
    unfold Arrays_fill0_41_5
    rw [if_neg (nI_nlt (Nat.le_refl _) (by omega))]
    exact hQ
  | succ q ih =>
    intro a d h Q hQ
    have := ih (a + 1) (sA d 41 a v) (by omega) Q (by rw [gA_sA, fillF_s _ _ (by omega), sA_setA, setA_setA]; exact hQ)
    obtain ⟨n, hn⟩ := this
    refine ⟨n + 1, ?_⟩
    unfold Arrays_fill0_41_5
    rw [if_pos (nI_lt (by omega) (by omega))]
    simp only [bnd_iff, nI_clamp (show a < 2 ^ 31 by omega), nI_1]
    exact ⟨nI_in (by omega) (by omega), hn⟩
def clC (c : vmD) : vmD := sF (sF (sF (sF (sG (sA (setA (setA (setA (setA c 2 (fillF (gA c 2) 0 65536 0)) 39 (fillF (gA c 39) 0 17 0)) 40 (fillF (gA c 40) 0 256 0)) 41 (fillF (gA c 41) 0 256 0)) 39 10 65535) 38 5 0) 38 6 0) 38 7 0) 38 8 0) 38 9 0
theorem OF_clear_ok (c : vmD) (Q : vmD → Prop) (h : Q (clC c)) : OF_clear c Q := by
  unfold OF_clear Memory_fill
  rw [if_neg (by decide), if_neg (by decide), if_neg (by decide)]
  unfold Arrays_fill1_2 Arrays_rangeCheck
  rw [if_neg (by decide), if_neg (by decide), if_neg (by decide)]
  refine fill2_ok _ (b := 65536) (Nat.le_refl _) 65536 0 c (by omega) _ ?_
  unfold Machine_reset Arrays_fill0_39
  refine fill39_ok 0 17 0 _ (by omega) _ ?_
  unfold Arrays_fill0_40
  refine fill40_ok 0 256 0 _ (by omega) _ ?_
  unfold Arrays_fill0_41
  refine fill41_ok 0 256 0 _ (by omega) _ ?_
  simp only [bnd_iff]
  unfold clC at h
  exact h
def clR1 (r : vmD) (k : Nat) : vmD := setA r 55 (fillF (gA r 55) 0 k 0)
def clR2 (r : vmD) (k : Nat) : vmD := setA (setA r 65 (fillF (gA r 65) 0 k 0)) 66 (fillF (gA r 66) 0 k 0)
def clR3 (r : vmD) (k : Nat) : vmD := setA (setA r 68 (fillF (gA r 68) 0 k 0)) 69 (fillF (gA r 69) 0 k 0)
def clR4 (d : vmD) : vmD := sG (sF (sF (sF (sF (sF (sF (sF (sF (sA (sA (sF (sF d 42 72 0) 42 73 0) 67 1 0) 67 2 0) 42 75 65535) 42 76 0) 42 77 0) 42 78 0) 42 79 0) 42 82 0) 42 83 0) 42 85 0) 42 86 0
theorem clR2_s (r : vmD) (k : Nat) : sA (sA (clR2 r k) 65 k 0) 66 k 0 = clR2 r (k + 1) := by
  unfold clR2
  refine D_ext (fun _ => rfl) (fun _ => rfl) (fun x => ?_) (fun _ => rfl)
  by_cases h1 : x = 66
  · subst h1
    rw [gA_sA, gA_sA_ne _ _ _ (by decide), gA_setA, gA_setA, fillF_e _ _ (by omega)]
  · rw [gA_sA_ne _ _ _ h1, gA_setA_ne _ _ h1]
    by_cases h2 : x = 65
    · subst h2
      rw [gA_sA, gA_setA_ne _ _ h1, gA_setA, gA_setA, fillF_e _ _ (by omega)]
    · rw [gA_sA_ne _ _ _ h2, gA_setA_ne _ _ h1, gA_setA_ne _ _ h2, gA_setA_ne _ _ h2]
theorem clR3_s (r : vmD) (k : Nat) : sA (sA (clR3 r k) 68 k 0) 69 k 0 = clR3 r (k + 1) := by
  unfold clR3
  refine D_ext (fun _ => rfl) (fun _ => rfl) (fun x => ?_) (fun _ => rfl)
  by_cases h1 : x = 69
  · subst h1
    rw [gA_sA, gA_sA_ne _ _ _ (by decide), gA_setA, gA_setA, fillF_e _ _ (by omega)]
  · rw [gA_sA_ne _ _ _ h1, gA_setA_ne _ _ h1]
    by_cases h2 : x = 68
    · subst h2
      rw [gA_sA, gA_setA_ne _ _ h1, gA_setA, gA_setA, fillF_e _ _ (by omega)]
    · rw [gA_sA_ne _ _ _ h2, gA_setA_ne _ _ h1, gA_setA_ne _ _ h2, gA_setA_ne _ _ h2]
theorem clR1_s (r : vmD) (k : Nat) : sA (clR1 r k) 55 k 0 = clR1 r (k + 1) := by
  unfold clR1
  rw [sA_setA, gA_setA, setA_setA, fillF_e _ _ (by omega)]
theorem MO_clear3 (r : vmD) (Q : vmD → Prop) (h : Q (clR4 (clR3 r 256))) : ∀ (q k : Nat), k + q = 256 → ∃ n, MO_clear_51 Q n (nI k) (clR3 r k) := by
  intro q
  induction q with
  | zero =>
    intro k hk
    obtain rfl : k = 256 := by omega
    refine ⟨1, ?_⟩
    unfold MO_clear_51
    rw [if_neg (by decide)]
    simp only [bnd_iff]
    exact h
  | succ q ih =>
    intro k hk
    obtain ⟨n, hn⟩ := ih (k + 1) (by omega)
    refine ⟨n + 1, ?_⟩
    unfold MO_clear_51
    have e : nI k < 256 := nI_lt (b := 256) (by omega) (by omega)
    rw [if_pos e]
    simp only [bnd_iff, nI_clamp (show k < 2 ^ 31 by omega), nI_1, clR3_s]
    exact ⟨nI_in (by omega) (by omega), nI_in (by omega) (by omega), hn⟩
theorem MO_clear2 (r : vmD) (Q : vmD → Prop) (h : ∃ n, MO_clear_51 Q n 0 (clR2 r 8)) : ∀ (q k : Nat), k + q = 8 → ∃ n, MO_clear_23 Q n (nI k) (clR2 r k) := by
  intro q
  induction q with
  | zero =>
    intro k hk
    obtain rfl : k = 8 := by omega
    refine ⟨1, ?_⟩
    unfold MO_clear_23
    rw [if_neg (by decide)]
    exact h
  | succ q ih =>
    intro k hk
    obtain ⟨n, hn⟩ := ih (k + 1) (by omega)
    refine ⟨n + 1, ?_⟩
    unfold MO_clear_23
    have e : nI k < 8 := nI_lt (b := 8) (by omega) (by omega)
    rw [if_pos e]
    simp only [bnd_iff, nI_clamp (show k < 2 ^ 31 by omega), nI_1, clR2_s]
    exact ⟨nI_in (by omega) (by omega), nI_in (by omega) (by omega), hn⟩
theorem MO_clear1 (r : vmD) (Q : vmD → Prop) (h : ∃ n, MO_clear_23 Q n 0 (clR1 r 65536)) : ∀ (q k : Nat), k + q = 65536 → ∃ n, MO_clear_2 Q n (nI k) (clR1 r k) := by
  intro q
  induction q with
  | zero =>
    intro k hk
    obtain rfl : k = 65536 := by omega
    refine ⟨1, ?_⟩
    unfold MO_clear_2
    rw [if_neg (by decide)]
    exact h
  | succ q ih =>
    intro k hk
    obtain ⟨n, hn⟩ := ih (k + 1) (by omega)
    refine ⟨n + 1, ?_⟩
    unfold MO_clear_2
    have e : nI k < 65536 := nI_lt (b := 65536) (by omega) (by omega)
    rw [if_pos e]
    simp only [bnd_iff, nI_clamp (show k < 2 ^ 31 by omega), nI_1, clR1_s]
    exact ⟨nI_in (by omega) (by omega), hn⟩
def clR (r : vmD) : vmD := clR4 (clR3 (clR2 (clR1 r 65536) 8) 256)
theorem clR1_0 (r : vmD) : clR1 r 0 = r := by
  unfold clR1
  rw [fillF_z, setA_self]
theorem clR2_0 (r : vmD) : clR2 r 0 = r := by
  unfold clR2
  rw [fillF_z, fillF_z, setA_self, setA_self]
theorem clR3_0 (r : vmD) : clR3 r 0 = r := by
  unfold clR3
  rw [fillF_z, fillF_z, setA_self, setA_self]
theorem MO_clear_ok (r : vmD) (Q : vmD → Prop) (h : Q (clR r)) : MO_clear r Q := by
  have h3 := MO_clear3 (clR2 (clR1 r 65536) 8) Q h 256 0 (by omega)
  rw [clR3_0] at h3
  have h2 := MO_clear2 (clR1 r 65536) Q h3 8 0 (by omega)
  rw [clR2_0] at h2
  have h1 := MO_clear1 r Q h2 65536 0 (by omega)
  rw [clR1_0] at h1
  exact h1
theorem fill_in (f : Nat → Int32) {b : Nat} (v : Int32) {j : Nat} (h : j < b) : fillF f 0 b v j = v := if_pos ⟨Nat.zero_le _, h⟩
theorem ok_clear : Ok_clear Rel := by
  intro c r hR
  refine ⟨clC c, clR r, OF_clear_ok c, MO_clear_ok r, ?_⟩
  obtain ⟨q1, q2, q3, q4, q5, q6, q7, q8, q9⟩ := hR
  have o0 : oct 0 := ⟨0, by omega, rfl⟩
  have w0 : wrd 0 := ⟨0, by omega, rfl⟩
  unfold Rel RTold RReg RReq RPort clC clR clR1 clR2 clR3 clR4
  simp only [gA_sA, gA_sA_ne, gA_sF, gA_sG, gA_sL, gF_sA, gF_sF, gF_sF_ne, gF_sG, gF_sL, gG_sA, gG_sF, gG_sL, gG_sGe, gG_sG_ne, gL_sA, gL_sF, gL_sG, gL_sLe, gL_sL_ne, u1f_eq, u1f_ne, bnd_iff, not_false_eq_true, gA_setA, gA_setA_ne, gF_setA, gG_setA, gL_setA, Nat.reduceEqDiff, fill_in, Nat.reduceLT]
  refine ⟨q1, ?_, q3, q4, q5, q6, ⟨?_, ?_⟩, ⟨?_, ?_⟩, ?_⟩
  · intro a ha
    rw [fill_in _ _ ha, fill_in _ _ ha]
    rfl
  · intro k hk
    rw [fill_in _ _ hk, fill_in _ _ hk]
    exact ⟨o0, o0⟩
  · refine ⟨?_, ?_, ?_, ?_, ?_, ?_, ?_, ?_, ⟨?_, ?_⟩, ⟨?_, ?_⟩, ⟨?_, ?_⟩, ⟨?_, ?_⟩, ⟨?_, ?_⟩, ⟨?_, ?_⟩, ⟨?_, ?_⟩, ⟨?_, ?_⟩, ⟨?_, ?_⟩⟩ <;> first | trivial | exact w0 | exact o0 | exact ⟨65535, by omega, rfl⟩ | exact Or.inl rfl | decide | (rw [fill_in _ _ (by omega)] <;> first | decide | exact w0 | exact o0 | exact Or.inl rfl)
  · intro p hp
    rw [fill_in _ _ hp, fill_in _ _ hp, fill_in _ _ hp, fill_in _ _ hp]
    exact ⟨rfl, o0, rfl⟩
  · trivial
  · exact ⟨trivial, trivial, trivial, Or.inl rfl, Or.inl rfl, Or.inl rfl, fun h => absurd h (by decide)⟩
