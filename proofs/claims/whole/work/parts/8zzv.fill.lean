/-! Stores into arrays; Arrays.fill -/
theorem ct_ast {k pc tg n m L o j : Nat} {cv : Int32} {x : Int32} {l : List (Nat × Nat)} {d : vmD} {lo : vmL} {st : List Value} {Q : Option Value → vmW → Prop} (hI : mI k pc = some (.iastore, 1, cv, tg)) (hk : vmIs (wK n l m L d) o 20 = true) (hj : j < S0n L o) (hj2 : j < 2147483648) (h : vmWp k (pc + 1) lo st (wK n l m L (sA d o j x)) Q) : vmWp k pc lo (.int x :: .int (nI j) :: .ref o :: st) (wK n l m L d) Q := by
  refine vmWp.one hI ?_ h
  delta vmAct
  dsimp only
  rw [hk, cond_true]
  have hc : (nI j).toNatClampNeg = j := nI_clamp (by omega)
  rw [if_pos (show ¬ (nI j < (0 : Int32) ∨ (wK n l m L d).1.2.2.2.1 o ≤ (nI j).toNatClampNeg) from fun q => q.elim (nI_nlt (b := 0) (by omega) (by omega)) (fun q => by rw [hc] at q; exact absurd hj (Nat.not_lt.mpr q))), hc]
  rfl
theorem ct_ald {k pc tg n m L o j : Nat} {cv : Int32} {l : List (Nat × Nat)} {d : vmD} {lo : vmL} {st : List Value} {Q : Option Value → vmW → Prop} (hI : mI k pc = some (.iaload, 1, cv, tg)) (hk : vmIs (wK n l m L d) o 20 = true) (hj : j < S0n L o) (hj2 : j < 2147483648) (h : vmWp k (pc + 1) lo (.int (gA d o j) :: st) (wK n l m L d) Q) : vmWp k pc lo (.int (nI j) :: .ref o :: st) (wK n l m L d) Q := by
  refine vmWp.one hI ?_ h
  delta vmAct
  dsimp only
  rw [hk, Bool.true_or, cond_true]
  have hc : (nI j).toNatClampNeg = j := nI_clamp (by omega)
  rw [if_pos (show ¬ (nI j < (0 : Int32) ∨ (wK n l m L d).1.2.2.2.1 o ≤ (nI j).toNatClampNeg) from fun q => q.elim (nI_nlt (b := 0) (by omega) (by omega)) (fun q => by rw [hc] at q; exact absurd hj (Nat.not_lt.mpr q))), hc]
  rfl
theorem ct_len {k pc tg n m L o : Nat} {cv : Int32} {l : List (Nat × Nat)} {d : vmD} {lo : vmL} {st : List Value} {Q : Option Value → vmW → Prop} (hI : mI k pc = some (.arraylength, 1, cv, tg)) (hk : (vmIs (wK n l m L d) o 20 || (vmIs (wK n l m L d) o 21 || (vmIs (wK n l m L d) o 22 || vmIs (wK n l m L d) o 23))) = true) (h : vmWp k (pc + 1) lo (.int (nI (S0n L o)) :: st) (wK n l m L d) Q) : vmWp k pc lo (.ref o :: st) (wK n l m L d) Q := by
  refine vmWp.one hI ?_ h
  delta vmAct
  dsimp only
  rw [hk, Bool.true_or, cond_true]
  rfl
def fillA (d : vmD) (o : Nat) (v : Int32) : Nat → vmD
  | 0 => d
  | i + 1 => sA (fillA d o v i) o i v
theorem fillW {n m L o len : Nat} {l : List (Nat × Nat)} {d : vmD} {v : Int32} {Q : Option Value → vmW → Prop} (hk : ∀ d, vmIs (wK n l m L d) o 20 = true) (hs : S0n L o = len) (hlen : len ≤ 65536) (h : Q none (wK n l m L (fillA d o v len))) : vmWp 403 0 [(0, .ref o), (1, .int v)] [] (wK n l m L d) Q := by
  have loop : ∀ (f i : Nat), i + f = len → vmWp 403 5 [(0, .ref o), (1, .int v), (2, .int (nI i)), (3, .int (nI len))] [] (wK n l m L (fillA d o v i)) Q := by
    intro f
    induction f with
    | zero =>
      intro i hi
      obtain rfl : i = len := by omega
      refine st_go 2 (pc' := 7) (lo' := [(0, .ref o), (1, .int v), (2, .int (nI i)), (3, .int (nI i))]) (st' := [.int (nI i), .int (nI i)]) rfl ?_
      refine st_icmp (t := 20) (b := true) rfl (decide_eq_true (Int32.le_refl _)) rfl ?_
      exact vmWp.ret rfl rfl h
    | succ f ih =>
      intro i hi
      refine st_go 2 (pc' := 7) (lo' := [(0, .ref o), (1, .int v), (2, .int (nI i)), (3, .int (nI len))]) (st' := [.int (nI len), .int (nI i)]) rfl ?_
      refine st_icmp (t := 10) (b := false) rfl (decide_eq_false (fun q => Int32.not_lt.mpr q (nI_lt (by omega) (by omega)))) rfl ?_
      refine st_go 3 (pc' := 13) (lo' := [(0, .ref o), (1, .int v), (2, .int (nI i)), (3, .int (nI len))]) (st' := [.int v, .int (nI i), .ref o]) rfl ?_
      refine ct_ast rfl (hk _) (by rw [hs]; omega) (by omega) ?_
      refine st_go 2 (pc' := 5) (lo' := [(2, .int (nI i + 1)), (0, .ref o), (1, .int v), (3, .int (nI len))]) (st' := []) rfl ?_
      rw [nI_p1]
      refine vmWp.sub (lo' := [(0, .ref o), (1, .int v), (2, .int (nI (i + 1))), (3, .int (nI len))]) ⟨rfl, rfl, rfl, rfl, trivial⟩ ?_
      exact ih (i + 1) (by omega)
  refine st_go 3 (pc' := 3) (lo' := [(2, .int 0), (0, .ref o), (1, .int v)]) (st' := [.ref o]) rfl ?_
  refine ct_len rfl (by rw [hk d]; rfl) ?_
  rw [hs]
  refine st_go 1 (pc' := 5) (lo' := [(3, .int (nI len)), (2, .int 0), (0, .ref o), (1, .int v)]) (st' := []) rfl ?_
  refine vmWp.sub (lo' := [(0, .ref o), (1, .int v), (2, .int (nI 0)), (3, .int (nI len))]) ⟨rfl, rfl, rfl, rfl, trivial⟩ ?_
  exact loop len 0 (by omega)
theorem fillA_at {d : vmD} {o : Nat} {v : Int32} : ∀ (n j : Nat), gA (fillA d o v n) o j = if j < n then v else gA d o j := by
  intro n
  induction n with
  | zero => intro j; rw [if_neg (Nat.not_lt_zero _)]; rfl
  | succ n ih =>
    intro j
    unfold fillA
    simp only [gA_sA, gA_sA_ne, gA_sF, gA_sG, gA_sL, gF_sA, gF_sF, gF_sF_ne, gF_sG, gF_sL, gG_sA, gG_sF, gG_sL, gG_sGe, gG_sG_ne, gL_sA, gL_sF, gL_sG, gL_sLe, gL_sL_ne, u1f_eq, u1f_ne, bnd_iff, not_false_eq_true, Nat.reduceEqDiff]
    by_cases z : j = n
    · subst z
      rw [u1f_eq, if_pos (by omega)]
    · rw [u1f_ne _ _ z, ih j]
      by_cases y : j < n
      · rw [if_pos y, if_pos (by omega)]
      · rw [if_neg y, if_neg (by omega)]
theorem fillA_fr {d : vmD} {o : Nat} {v : Int32} : ∀ (n : Nat), ModC [] [o] [] d (fillA d o v n) := by
  intro n
  induction n with
  | zero => exact ModC.refl _ _ _ _
  | succ n ih => exact ih.sA (List.mem_singleton.mpr rfl) _ _
