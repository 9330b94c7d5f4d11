/-! Families of instructions on octets: ALU, INC, DEC, LD n, turns, bits -/
theorem exe48 (f e x : Int32) (c : vmD) (Q : vmD → Prop) : Machine_execute 48 f e x c Q = Machine_calculate 48 f e c Q := by
  simp (config := { decide := true }) only [Machine_execute, Machine_execute_22, Machine_execute_45, Machine_execute_69, Machine_execute_90, Machine_execute_123, Machine_execute_150, Machine_execute_163, Machine_execute_181, Machine_execute_199, if_true, if_false]
theorem exe49 (f e x : Int32) (c : vmD) (Q : vmD → Prop) : Machine_execute 49 f e x c Q = Machine_calculate 49 f e c Q := by
  simp (config := { decide := true }) only [Machine_execute, Machine_execute_22, Machine_execute_45, Machine_execute_69, Machine_execute_90, Machine_execute_123, Machine_execute_150, Machine_execute_163, Machine_execute_181, Machine_execute_199, if_true, if_false]
theorem exe50 (f e x : Int32) (c : vmD) (Q : vmD → Prop) : Machine_execute 50 f e x c Q = Machine_calculate 50 f e c Q := by
  simp (config := { decide := true }) only [Machine_execute, Machine_execute_22, Machine_execute_45, Machine_execute_69, Machine_execute_90, Machine_execute_123, Machine_execute_150, Machine_execute_163, Machine_execute_181, Machine_execute_199, if_true, if_false]
theorem exe51 (f e x : Int32) (c : vmD) (Q : vmD → Prop) : Machine_execute 51 f e x c Q = Machine_calculate 51 f e c Q := by
  simp (config := { decide := true }) only [Machine_execute, Machine_execute_22, Machine_execute_45, Machine_execute_69, Machine_execute_90, Machine_execute_123, Machine_execute_150, Machine_execute_163, Machine_execute_181, Machine_execute_199, if_true, if_false]
theorem exe52 (f e x : Int32) (c : vmD) (Q : vmD → Prop) : Machine_execute 52 f e x c Q = Machine_calculate 52 f e c Q := by
  simp (config := { decide := true }) only [Machine_execute, Machine_execute_22, Machine_execute_45, Machine_execute_69, Machine_execute_90, Machine_execute_123, Machine_execute_150, Machine_execute_163, Machine_execute_181, Machine_execute_199, if_true, if_false]
theorem exe53 (f e x : Int32) (c : vmD) (Q : vmD → Prop) : Machine_execute 53 f e x c Q = Machine_calculate 53 f e c Q := by
  simp (config := { decide := true }) only [Machine_execute, Machine_execute_22, Machine_execute_45, Machine_execute_69, Machine_execute_90, Machine_execute_123, Machine_execute_150, Machine_execute_163, Machine_execute_181, Machine_execute_199, if_true, if_false]
theorem exe54 (f e x : Int32) (c : vmD) (Q : vmD → Prop) : Machine_execute 54 f e x c Q = Machine_calculate 54 f e c Q := by
  simp (config := { decide := true }) only [Machine_execute, Machine_execute_22, Machine_execute_45, Machine_execute_69, Machine_execute_90, Machine_execute_123, Machine_execute_150, Machine_execute_163, Machine_execute_181, Machine_execute_199, if_true, if_false]
theorem exe55 (f e x : Int32) (c : vmD) (Q : vmD → Prop) : Machine_execute 55 f e x c Q = Machine_calculate 55 f e c Q := by
  simp (config := { decide := true }) only [Machine_execute, Machine_execute_22, Machine_execute_45, Machine_execute_69, Machine_execute_90, Machine_execute_123, Machine_execute_150, Machine_execute_163, Machine_execute_181, Machine_execute_199, if_true, if_false]
theorem sA_comm (d : vmD) (o : Nat) {i j : Nat} (a b : Int32) (h : ¬ i = j) : sA (sA d o i a) o j b = sA (sA d o j b) o i a := by
  refine D_ext (fun _ => rfl) (fun _ => rfl) (fun x => ?_) (fun _ => rfl)
  by_cases hx : x = o
  · subst hx
    rw [gA_sA, gA_sA, gA_sA, gA_sA]
    funext k
    unfold u1f
    by_cases e : k = i
    · subst e
      rw [if_neg h, if_pos rfl, if_pos rfl]
    · by_cases e2 : k = j
      · rw [if_pos e2, if_neg e, if_pos e2]
      · rw [if_neg e2, if_neg e, if_neg e, if_neg e2]
  · rw [gA_sA_ne _ _ _ hx, gA_sA_ne _ _ _ hx, gA_sA_ne _ _ _ hx, gA_sA_ne _ _ _ hx]
theorem sA_sA_ne (d : vmD) {o o' : Nat} (i j : Nat) (a b : Int32) (h : ¬ o = o') : sA (sA d o i a) o' j b = sA (sA d o' j b) o i a := by
  refine D_ext (fun _ => rfl) (fun _ => rfl) (fun x => ?_) (fun _ => rfl)
  by_cases hx : x = o'
  · subst hx
    rw [gA_sA, gA_sA_ne _ _ _ (fun e => h e.symm), gA_sA_ne _ _ _ (fun e => h e.symm), gA_sA]
  · rw [gA_sA_ne _ _ _ hx]
    by_cases hy : x = o
    · subst hy
      rw [gA_sA, gA_sA, gA_sA_ne _ _ _ hx]
    · rw [gA_sA_ne _ _ _ hy, gA_sA_ne _ _ _ hy, gA_sA_ne _ _ _ hx]
theorem sA_same (d : vmD) (o i : Nat) (a b : Int32) : sA (sA d o i a) o i b = sA d o i b := by
  rw [sA_setA (sA d o i a), gA_sA, sA_setA d o i a, setA_setA, sA_setA]
  congr 1
  funext k
  unfold u1f
  split <;> rfl
theorem aO_F (ix : Nat) (r : vmD) (g : Int32) : aO ix (sA r 65 6 g) = aO ix r := by
  unfold aO
  simp only [gA_sA, gA_sA_ne, gA_sF, gA_sG, gA_sL, gF_sA, gF_sF, gF_sF_ne, gF_sG, gF_sL, gG_sA, gG_sF, gG_sL, gG_sGe, gG_sG_ne, gL_sA, gL_sF, gL_sG, gL_sLe, gL_sL_ne, u1f_eq, u1f_ne, bnd_iff, not_false_eq_true, Nat.reduceEqDiff, gA_sA, u1f_ne, gF_sA]
theorem rSt_F (ix y : Nat) (v g : Int32) (r : vmD) (hy : y < 8) : rSt ix y v (sA r 65 6 g) = sA (rSt ix y v r) 65 6 g := by
  unfold rSt
  rw [aO_F]
  by_cases e : y = 6
  · rw [if_pos e, if_pos e]
    exact sA_sA_ne _ _ _ _ _ (by decide)
  · rw [if_neg e, if_neg e]
    exact sA_comm _ _ _ _ (fun h => e h.symm)
theorem vO_F (ix y : Nat) (g : Int32) (r : vmD) (hy : ¬ y = 6 ∨ True) : y = 6 ∨ vO ix y (sA r 65 6 g) = vO ix y r := by
  by_cases e : y = 6
  · exact Or.inl e
  · refine Or.inr ?_
    unfold vO
    rw [if_neg e, if_neg e, gA_sA, u1f_ne _ _ e]
theorem cS_F (ix y : Nat) (v g : Int32) (r c : vmD) : cS ix y v (sA r 65 6 g) c = cS ix y v r c := by
  unfold cS
  rw [aO_F]
theorem rSt_g (ix y : Nat) (v : Int32) (r : vmD) (o : Nat) : gF (rSt ix y v r) o = gF r o := by
  unfold rSt
  split <;> rfl
theorem cO_g (y : Nat) (v : Int32) (c : vmD) (o : Nat) : gF (cO y v c) o = gF c o := by
  unfold cO
  cases Nat.beq y 0 <;> cases Nat.beq y 1 <;> cases Nat.beq y 2 <;> cases Nat.beq y 3 <;> cases Nat.beq y 4 <;> cases Nat.beq y 5 <;> cases Nat.beq y 7 <;> rfl
theorem cS_g (ix y : Nat) (v : Int32) (r c : vmD) (o : Nat) : gF (cS ix y v r c) o = gF c o := by
  unfold cS
  split
  · rfl
  · exact cO_g _ _ _ _
theorem kO_oct (r : vmD) : True := trivial
/-- ALU with a register or a place -/
theorem ex_alu {c r : vmD} (h : Rel c r) {ix y z : Nat} (hix : ix < 3) (hy : y < 8) (hz : z < 8) (hd : ix = 0 ∨ gF c 19 8 = gF r 42 62) (h59 : gF r 42 59 = 0) (h60 : gF r 42 60 = nI ix) (h61 : gF r 42 61 = nI (64 * 2 + 8 * y + z)) (x : Int32) : ExOk (nI (48 + y)) (if y = 0 ∨ y = 1 ∨ y = 3 then 8 else kO ix z) (if y = 0 ∨ y = 1 ∨ y = 3 then kO ix z else 0) x c r := by
  obtain ⟨c2, r2, e1, e2, e3⟩ := alu_ok h hy (kO_ne hix hz).2.2 (fun Q => h.lO hix hz hd Q) (fun Q => po_kO hix hz c Q) (vO_oct h (ix := ix) hz)
  refine ⟨c2, r2, fun Q hQ => ?_, fun Q hQ => ?_, e3⟩
  · have := e1 Q hQ
    unfold aluC at this
    rcases (show y = 0 ∨ y = 1 ∨ y = 2 ∨ y = 3 ∨ y = 4 ∨ y = 5 ∨ y = 6 ∨ y = 7 by omega) with rfl | rfl | rfl | rfl | rfl | rfl | rfl | rfl
    · rw [show nI (48 + 0) = 48 from rfl] at this ⊢
      simp (config := { decide := true }) only [if_true, if_false] at this ⊢
      rw [exe48]
      exact this
    · rw [show nI (48 + 1) = 49 from rfl] at this ⊢
      simp (config := { decide := true }) only [if_true, if_false] at this ⊢
      rw [exe49]
      exact this
    · rw [show nI (48 + 2) = 50 from rfl] at this ⊢
      simp (config := { decide := true }) only [if_true, if_false] at this ⊢
      rw [exe50]
      exact this
    · rw [show nI (48 + 3) = 51 from rfl] at this ⊢
      simp (config := { decide := true }) only [if_true, if_false] at this ⊢
      rw [exe51]
      exact this
    · rw [show nI (48 + 4) = 52 from rfl] at this ⊢
      simp (config := { decide := true }) only [if_true, if_false] at this ⊢
      rw [exe52]
      exact this
    · rw [show nI (48 + 5) = 53 from rfl] at this ⊢
      simp (config := { decide := true }) only [if_true, if_false] at this ⊢
      rw [exe53]
      exact this
    · rw [show nI (48 + 6) = 54 from rfl] at this ⊢
      simp (config := { decide := true }) only [if_true, if_false] at this ⊢
      rw [exe54]
      exact this
    · rw [show nI (48 + 7) = 55 from rfl] at this ⊢
      simp (config := { decide := true }) only [if_true, if_false] at this ⊢
      rw [exe55]
      exact this
  · unfold dispR
    rw [h59, if_neg (by decide), if_neg (by decide), h61, opx (by omega) hy hz, if_neg (by decide), if_neg (by decide), if_pos (by decide), opz (by omega) hy hz, opy (by omega) hy hz, octetAt_eq hix hz h60]
    exact e2 Q hQ
theorem doLast_eq {r : vmD} {y z : Nat} (hy : y < 8) (hz : z < 8) (h61 : gF r 42 61 = nI (64 * 3 + 8 * y + z)) (h59 : gF r 42 59 = 0) (x : Int32) (Q : vmD → Prop) : dispR x r Q = MO_doLast_26 (nI y) (nI (y / 2)) (nI (y % 2)) r Q := by
  unfold dispR
  rw [h59, if_neg (by decide), if_neg (by decide), h61, opx (by omega) hy hz, if_neg (by decide), if_neg (by decide), if_neg (by decide)]
  unfold MO_doLast
  rw [h61, opy (by omega) hy hz]
  simp only [bnd_iff]
  have e1 : nI y >>> ((1 : Int32) &&& 31) = nI (y / 2) := pk_shrN (by omega) _ 1 (by decide)
  have e2 : nI y &&& 1 = nI (y % 2) := pk_andN (by omega) (m := 1) 1 rfl
  rw [e1, e2]
  rcases (show y % 2 = 0 ∨ y % 2 = 1 by omega) with e | e <;> rw [e]
  · rw [if_neg (by decide)]
    rfl
  · rw [if_pos (by decide)]
    rfl
theorem doFirst_eq {r : vmD} {y z : Nat} (hy : y < 8) (hz : z < 8) (h61 : gF r 42 61 = nI (64 * 0 + 8 * y + z)) (h59 : gF r 42 59 = 0) (x : Int32) (Q : vmD → Prop) : dispR x r Q = MO_doFirst_26 (nI y) (nI (y / 2)) (nI (y % 2)) r Q := by
  unfold dispR
  rw [h59, if_neg (by decide), if_neg (by decide), h61, opx (by omega) hy hz, if_pos (by decide)]
  unfold MO_doFirst
  rw [h61, opy (by omega) hy hz]
  simp only [bnd_iff]
  have e1 : nI y >>> ((1 : Int32) &&& 31) = nI (y / 2) := pk_shrN (by omega) _ 1 (by decide)
  have e2 : nI y &&& 1 = nI (y % 2) := pk_andN (by omega) (m := 1) 1 rfl
  rw [e1, e2]
  rcases (show y % 2 = 0 ∨ y % 2 = 1 by omega) with e | e <;> rw [e]
  · rw [if_neg (by decide)]
    rfl
  · rw [if_pos (by decide)]
    rfl
/-- ALU with a number -/
theorem ex_alun {c r : vmD} (h : Rel c r) {y : Nat} (hy : y < 8) (hn : gF c 19 9 = rb r (gF r 42 64)) (h59 : gF r 42 59 = 0) (h61 : gF r 42 61 = nI (64 * 3 + 8 * y + 6)) (x : Int32) : ExOk (nI (48 + y)) (if y = 0 ∨ y = 1 ∨ y = 3 then 8 else 36) (if y = 0 ∨ y = 1 ∨ y = 3 then 36 else 0) x c r := by
  have ho := rb_oct h.2.1 (gF r 42 64)
  obtain ⟨c2, r2, e1, e2, e3⟩ := alu_ok h hy (k := 36) (v := rb r (gF r 42 64)) (by decide) (fun Q => by rw [ld36_eq, hn, ho.and]) (fun Q => po36_eq c Q) ho
  refine ⟨c2, r2, fun Q hQ => ?_, fun Q hQ => ?_, e3⟩
  · have := e1 Q hQ
    unfold aluC at this
    rcases (show y = 0 ∨ y = 1 ∨ y = 2 ∨ y = 3 ∨ y = 4 ∨ y = 5 ∨ y = 6 ∨ y = 7 by omega) with rfl | rfl | rfl | rfl | rfl | rfl | rfl | rfl
    · rw [show nI (48 + 0) = 48 from rfl] at this ⊢
      simp (config := { decide := true }) only [if_true, if_false] at this ⊢
      rw [exe48]
      exact this
    · rw [show nI (48 + 1) = 49 from rfl] at this ⊢
      simp (config := { decide := true }) only [if_true, if_false] at this ⊢
      rw [exe49]
      exact this
    · rw [show nI (48 + 2) = 50 from rfl] at this ⊢
      simp (config := { decide := true }) only [if_true, if_false] at this ⊢
      rw [exe50]
      exact this
    · rw [show nI (48 + 3) = 51 from rfl] at this ⊢
      simp (config := { decide := true }) only [if_true, if_false] at this ⊢
      rw [exe51]
      exact this
    · rw [show nI (48 + 4) = 52 from rfl] at this ⊢
      simp (config := { decide := true }) only [if_true, if_false] at this ⊢
      rw [exe52]
      exact this
    · rw [show nI (48 + 5) = 53 from rfl] at this ⊢
      simp (config := { decide := true }) only [if_true, if_false] at this ⊢
      rw [exe53]
      exact this
    · rw [show nI (48 + 6) = 54 from rfl] at this ⊢
      simp (config := { decide := true }) only [if_true, if_false] at this ⊢
      rw [exe54]
      exact this
    · rw [show nI (48 + 7) = 55 from rfl] at this ⊢
      simp (config := { decide := true }) only [if_true, if_false] at this ⊢
      rw [exe55]
      exact this
  · rw [doLast_eq hy (by omega) h61 h59]
    unfold MO_doLast_26
    rw [h61, opz (by omega) hy (by omega), if_neg (by decide), if_neg (by decide), if_neg (by decide), if_neg (by decide), if_neg (by decide), if_neg (by decide), if_pos (by decide), peek_eq]
    exact e2 Q hQ
/-- LD r, n -/
theorem ex_ldn {c r : vmD} (h : Rel c r) {ix y : Nat} (hix : ix < 3) (hy : y < 8) (hd : ix = 0 ∨ gF c 19 8 = gF r 42 62) (hn : gF c 19 9 = rb r (gF r 42 64)) (h59 : gF r 42 59 = 0) (h60 : gF r 42 60 = nI ix) (h61 : gF r 42 61 = nI (64 * 0 + 8 * y + 6)) (x : Int32) : ExOk 36 (kO ix y) 36 x c r := by
  have ho := rb_oct h.2.1 (gF r 42 64)
  refine ⟨cS ix y (rb r (gF r 42 64)) r c, rSt ix y (rb r (gF r 42 64)) r, fun Q hQ => ?_, fun Q hQ => ?_, h.SO hy _⟩
  · rw [exe36]
    unfold Machine_transfer
    rw [po_kO hix hy, if_pos (by decide), po36_eq, if_pos (by decide), ld36_eq, hn, ho.and, h.sO hix hy hd, if_neg (by decide), if_neg (by decide)]
    exact hQ
  · rw [doFirst_eq hy (by omega) h61 h59]
    unfold MO_doFirst_26
    rw [h61, opz (by omega) hy (by omega), if_neg (by decide), if_neg (by decide), if_neg (by decide), if_neg (by decide), if_neg (by decide), if_neg (by decide), if_pos (by decide), peek_eq, setOctet_eq hix hy h60]
    exact hQ
theorem exe37 (f e x : Int32) (c : vmD) (Q : vmD → Prop) : Machine_execute 37 f e x c Q = Machine_change f 1 c Q := by
  simp (config := { decide := true }) only [Machine_execute, Machine_execute_22, Machine_execute_45, Machine_execute_69, Machine_execute_90, Machine_execute_123, Machine_execute_150, Machine_execute_163, Machine_execute_181, Machine_execute_199, if_true, if_false]
theorem exe38 (f e x : Int32) (c : vmD) (Q : vmD → Prop) : Machine_execute 38 f e x c Q = Machine_change f (-1) c Q := by
  simp (config := { decide := true }) only [Machine_execute, Machine_execute_22, Machine_execute_45, Machine_execute_69, Machine_execute_90, Machine_execute_123, Machine_execute_150, Machine_execute_163, Machine_execute_181, Machine_execute_199, if_true, if_false]
theorem and254 : ∀ n, n < 256 → (nI n &&& (-2)) = (nI n &&& 254) := by decide +kernel
theorem stepUp_eq (v b : Int32) (r : vmD) (Q : Int32 → vmD → Prop) : MO_stepUp v b r Q = if b = 0 then Q (((v + 1) + 0) &&& 255) (sA r 65 6 ((fS v 1 ((v + 1) + 0) &&& 254) ||| (gA r 65 6 &&& 1))) else Q (((v - 1) - 0) &&& 255) (sA r 65 6 ((fD v 1 ((v - 1) - 0) &&& 254) ||| (gA r 65 6 &&& 1))) := by
  unfold MO_stepUp
  simp only [bnd_iff, rsum_eq, rdif_eq, MO_stepUp_31, gA_sA, u1f_eq, sA_same]
theorem ex_inc {c r : vmD} (h : Rel c r) {ix y : Nat} (hix : ix < 3) (hy : y < 8) (hd : ix = 0 ∨ gF c 19 8 = gF r 42 62) (h59 : gF r 42 59 = 0) (h60 : gF r 42 60 = nI ix) (h61 : gF r 42 61 = nI (64 * 0 + 8 * y + 4)) (x : Int32) : ExOk 37 (kO ix y) 0 x c r := by
  have hf : oct (fS (vO ix y r) 1 ((vO ix y r + 1) + 0)) := oct_fS (s511 (vO_oct h hy) (show oct 1 from oct_lit (n := 1) (by omega)) (Or.inl rfl))
  have h1 := h.oct6 hf
  have h2 := h1.SO (ix := ix) hy (((vO ix y r + 1) + 0) &&& 255)
  have hc1 := (oct_or (oct_andl (254 : Int32) hf) (oct_andl (1 : Int32) (h.o65 (k := 6) (by omega))))
  have h3 := h2.oct6 hc1
  refine ⟨_, _, fun Q hQ => ?_, fun Q hQ => ?_, h3⟩
  · rw [exe37]
    unfold Machine_change
    rw [po_kO hix hy, if_pos (by decide), h.fl_eq]
    simp only [bnd_iff]
    rw [h.lO hix hy hd, if_pos (by decide), sum_eq (s511 (vO_oct h hy) (show oct 1 from oct_lit (n := 1) (by omega)) (Or.inl rfl))]
    unfold Machine_change_59
    rw [h1.sO hix hy (by rw [cO_g]; exact hd), h2.fl_eq, sfl_eq]
    rw [cS_F] at hQ ⊢
    have e6 : gA (rSt ix y (((vO ix y r + 1) + 0) &&& 255) (sA r 65 6 (fS (vO ix y r) 1 ((vO ix y r + 1) + 0)))) 65 6 = (fS (vO ix y r) 1 ((vO ix y r + 1) + 0)) := by
      rw [rSt_F _ _ _ _ _ hy, gA_sA, u1f_eq]
    rw [e6]
    obtain ⟨q, hq, eq⟩ := hf
    have e7 : (fS (vO ix y r) 1 ((vO ix y r + 1) + 0)) &&& (-2) = (fS (vO ix y r) 1 ((vO ix y r + 1) + 0)) &&& 254 := by rw [eq]; exact and254 q hq
    rw [e7, hc1.and]
    exact hQ
  · rw [doFirst_eq hy (by omega) h61 h59]
    unfold MO_doFirst_26
    rw [h61, opz (by omega) hy (by omega)]
    simp (config := { decide := true }) only [if_true, if_false, octetAt_eq hix hy h60, stepUp_eq]
    rw [setOctet_eq hix hy (by rw [gF_sA]; exact h60)]
    rw [rSt_F _ _ _ _ _ hy, sA_same] at hQ
    rw [rSt_F _ _ _ _ _ hy]
    exact hQ
theorem ex_dec {c r : vmD} (h : Rel c r) {ix y : Nat} (hix : ix < 3) (hy : y < 8) (hd : ix = 0 ∨ gF c 19 8 = gF r 42 62) (h59 : gF r 42 59 = 0) (h60 : gF r 42 60 = nI ix) (h61 : gF r 42 61 = nI (64 * 0 + 8 * y + 5)) (x : Int32) : ExOk 38 (kO ix y) 0 x c r := by
  have hf : oct (fD (vO ix y r) 1 ((vO ix y r - 1) - 0)) := oct_fD _ _ _
  have h1 := h.oct6 hf
  have h2 := h1.SO (ix := ix) hy (((vO ix y r - 1) - 0) &&& 255)
  have hc1 := (oct_or (oct_andl (254 : Int32) hf) (oct_andl (1 : Int32) (h.o65 (k := 6) (by omega))))
  have h3 := h2.oct6 hc1
  refine ⟨_, _, fun Q hQ => ?_, fun Q hQ => ?_, h3⟩
  · rw [exe38]
    unfold Machine_change
    rw [po_kO hix hy, if_pos (by decide), h.fl_eq]
    simp only [bnd_iff]
    rw [h.lO hix hy hd, if_neg (by decide), dif_eq]
    unfold Machine_change_59
    rw [h1.sO hix hy (by rw [cO_g]; exact hd), h2.fl_eq, sfl_eq]
    rw [cS_F] at hQ ⊢
    have e6 : gA (rSt ix y (((vO ix y r - 1) - 0) &&& 255) (sA r 65 6 (fD (vO ix y r) 1 ((vO ix y r - 1) - 0)))) 65 6 = (fD (vO ix y r) 1 ((vO ix y r - 1) - 0)) := by
      rw [rSt_F _ _ _ _ _ hy, gA_sA, u1f_eq]
    rw [e6]
    obtain ⟨q, hq, eq⟩ := hf
    have e7 : (fD (vO ix y r) 1 ((vO ix y r - 1) - 0)) &&& (-2) = (fD (vO ix y r) 1 ((vO ix y r - 1) - 0)) &&& 254 := by rw [eq]; exact and254 q hq
    rw [e7, hc1.and]
    exact hQ
  · rw [doFirst_eq hy (by omega) h61 h59]
    unfold MO_doFirst_26
    rw [h61, opz (by omega) hy (by omega)]
    simp (config := { decide := true }) only [if_true, if_false, octetAt_eq hix hy h60, stepUp_eq]
    rw [setOctet_eq hix hy (by rw [gF_sA]; exact h60)]
    rw [rSt_F _ _ _ _ _ hy, sA_same] at hQ
    rw [rSt_F _ _ _ _ _ hy]
    exact hQ
