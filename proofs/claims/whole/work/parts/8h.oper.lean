/-! Operands: where a place in memory closes -/
def ends (T : List Tk) (t : Nat) : Bool := decide ((tk T t).1 = 0) || decide ((tk T t).1 = 44)
def clF (T : List Tk) : Nat → Nat → Nat → Option Nat
  | 0, _, _ => none
  | f + 1, d, t => if (tk T t).1 ≤ 1 then none else if (tk T t).1 = 41 ∧ d = 1 then (if ends T (t + 1) = true then some t else none) else clF T f (if (tk T t).1 = 40 then d + 1 else if (tk T t).1 = 41 then d - 1 else d) (t + 1)
def cl (T : List Tk) (d t : Nat) : Option Nat := clF T (T.length - t) d t
def clo (T : List Tk) (t : Nat) : Option Nat := if (tk T t).1 = 40 then cl T 1 (t + 1) else none
def oI (o : Option Nat) : Int32 := match o with
  | none => -1
  | some l => nI l
theorem cl_e {T : List Tk} {d t : Nat} (ht : t < T.length) : cl T d t = if (tk T t).1 ≤ 1 then none else if (tk T t).1 = 41 ∧ d = 1 then (if ends T (t + 1) = true then some t else none) else cl T (if (tk T t).1 = 40 then d + 1 else if (tk T t).1 = 41 then d - 1 else d) (t + 1) := by
  unfold cl
  rw [show T.length - t = (T.length - (t + 1)) + 1 by omega]
  rfl
theorem endsC {c : vmD} {T : List Tk} (h : TkC c T) {t : Nat} (ht : t < 2 ^ 31) (hk : (tk T t).1 < 128) (Q : Int32 → vmD → Prop) : Tokens_endsOperand (nI t) c Q = Q (kb (ends T t)) c := by
  have c0 : nI (tk T t).1 = 0 ↔ (tk T t).1 = 0 := nI_eq (b := 0) (by omega) (by omega)
  have c44 : nI (tk T t).1 = 44 ↔ (tk T t).1 = 44 := nI_eq (b := 44) (by omega) (by omega)
  unfold Tokens_endsOperand
  rw [kindC h ht]
  by_cases z : (tk T t).1 = 0
  · have e : ends T t = true := by
      unfold ends
      rw [decide_eq_true z]
      rfl
    rw [if_pos (c0.mpr z), e]
    rfl
  · rw [if_neg (fun w => z (c0.mp w)), kindC h ht]
    by_cases z2 : (tk T t).1 = 44
    · have e : ends T t = true := by
        unfold ends
        rw [decide_eq_true z2, Bool.or_true]
      rw [if_pos (c44.mpr z2), e]
      rfl
    · have e : ends T t = false := by
        unfold ends
        rw [decide_eq_false z, decide_eq_false z2]
        rfl
      rw [if_neg (fun w => z2 (c44.mp w)), e]
      rfl
theorem nI_m {d : Nat} (h : 1 ≤ d) : nI d + (-1) = nI (d - 1) := by
  obtain ⟨k, rfl⟩ : ∃ k, d = k + 1 := ⟨d - 1, by omega⟩
  rw [← Int32.sub_eq_add_neg]
  exact nI_pred k
theorem closC {B : Nat → Nat} {n : Nat} {c : vmD} {T : List Tk} (hL : Lx B n T) (hT : TkC c T) {t : Nat} : ∀ (f p d : Nat), T.length ≤ p + f → p ≤ T.length → 1 ≤ d → d ≤ p + 1 → t < p → ∀ Q : Int32 → vmD → Prop, Q (oI (cl T d p)) c → ∃ m, Operands_closing_4 Q m (nI t) (nI d) (nI p) c := by
  have hl := hL.2.1
  have cnt : gF c 24 5 = nI T.length := hT.1
  intro f
  induction f with
  | zero =>
    intro p d hf hp hd hdp htp Q hQ
    refine ⟨1, ?_⟩
    unfold Operands_closing_4 Tokens_count
    rw [cnt]
    dsimp only
    rw [if_neg (nI_nlt (by omega) (by omega))]
    have : cl T d p = none := by
      unfold cl
      rw [show T.length - p = 0 by omega]
      rfl
    rw [this] at hQ
    exact hQ
  | succ f ih =>
    intro p d hf hp hd hdp htp Q hQ
    by_cases hpl : p < T.length
    · have hkd := tk_kd hL p
      have c40 : nI (tk T p).1 = 40 ↔ (tk T p).1 = 40 := nI_eq (b := 40) (by omega) (by omega)
      have c41 : nI (tk T p).1 = 41 ↔ (tk T p).1 = 41 := nI_eq (b := 41) (by omega) (by omega)
      have st : ∀ (m : Nat), (if (tk T p).1 = 40 then Operands_closing_48 (Operands_closing_4 Q m) (nI t) (nI (d + 1)) (nI p) c Q else if (tk T p).1 = 41 then Operands_closing_48 (Operands_closing_4 Q m) (nI t) (nI (d - 1)) (nI p) c Q else Operands_closing_48 (Operands_closing_4 Q m) (nI t) (nI d) (nI p) c Q) → Operands_closing_4 Q (m + 1) (nI t) (nI d) (nI p) c := by
        intro m hm
        unfold Operands_closing_4 Tokens_count
        rw [cnt]
        dsimp only
        rw [if_pos (nI_lt hpl (by omega)), kindC hT (by omega)]
        by_cases z : (tk T p).1 = 40
        · rw [if_pos z] at hm
          rw [if_pos (c40.mpr z), nI_p1]
          exact bnd_iff.mpr hm
        · rw [if_neg z] at hm
          rw [if_neg (fun w => z (c40.mp w))]
          by_cases z2 : (tk T p).1 = 41
          · rw [if_pos z2] at hm
            rw [if_pos (c41.mpr z2), nI_m hd]
            exact bnd_iff.mpr hm
          · rw [if_neg z2] at hm
            rw [if_neg (fun w => z2 (c41.mp w))]
            exact hm
      have on : ∀ (m e : Nat), 1 ≤ e → e ≤ p + 2 → Operands_closing_4 Q m (nI t) (nI e) (nI (p + 1)) c → Operands_closing_48 (Operands_closing_4 Q m) (nI t) (nI e) (nI p) c Q := by
        intro m e he he2 hm
        unfold Operands_closing_48
        rw [if_pos (show (0 : Int32) < nI e from nI_lt (a := 0) (by omega) (by omega)), nI_p1]
        exact bnd_iff.mpr hm
      rw [cl_e hpl] at hQ
      by_cases k1 : (tk T p).1 ≤ 1
      · rw [if_pos k1] at hQ
        have hlast := (hL.2.2 p hpl).1.mp k1
        have e0 : cl T d (p + 1) = none := by
          unfold cl
          rw [show T.length - (p + 1) = 0 by omega]
          rfl
        obtain ⟨m, hm⟩ := ih (p + 1) d (by omega) (by omega) hd (by omega) (by omega) Q (by rw [e0]; exact hQ)
        refine ⟨m + 1, st m ?_⟩
        rw [if_neg (by omega), if_neg (by omega)]
        exact on m d hd (by omega) hm
      · rw [if_neg k1] at hQ
        by_cases kc : (tk T p).1 = 41 ∧ d = 1
        · rw [if_pos kc] at hQ
          refine ⟨1, st 0 ?_⟩
          rw [if_neg (by omega), if_pos kc.1, kc.2]
          unfold Operands_closing_48
          rw [if_neg (by decide), if_pos (nI_lt htp (by omega)), nI_p1, endsC hT (by omega) (tk_kd hL _)]
          by_cases z : ends T (p + 1) = true
          · rw [if_pos z] at hQ
            rw [z, if_neg (by decide)]
            exact hQ
          · rw [if_neg z] at hQ
            rw [if_pos ((kb_0 _).mpr z)]
            exact hQ
        · rw [if_neg kc] at hQ
          have bd : 1 ≤ (if (tk T p).1 = 40 then d + 1 else if (tk T p).1 = 41 then d - 1 else d) ∧ (if (tk T p).1 = 40 then d + 1 else if (tk T p).1 = 41 then d - 1 else d) ≤ p + 1 + 1 := by
            split
            · omega
            · split <;> omega
          obtain ⟨m, hm⟩ := ih (p + 1) _ (by omega) (by omega) bd.1 bd.2 (by omega) Q hQ
          refine ⟨m + 1, st m ?_⟩
          by_cases z : (tk T p).1 = 40
          · rw [if_pos z] at hm ⊢
            exact on m _ (by omega) (by omega) hm
          · rw [if_neg z] at hm ⊢
            by_cases z2 : (tk T p).1 = 41
            · rw [if_pos z2] at hm ⊢
              exact on m _ (by omega) (by omega) hm
            · rw [if_neg z2] at hm ⊢
              exact on m _ (by omega) (by omega) hm
    · have hp2 : p = T.length := by omega
      refine ⟨1, ?_⟩
      unfold Operands_closing_4 Tokens_count
      rw [cnt]
      dsimp only
      rw [if_neg (nI_nlt (by omega) (by omega))]
      have : cl T d p = none := by
        unfold cl
        rw [show T.length - p = 0 by omega]
        rfl
      rw [this] at hQ
      exact hQ
theorem cloC {B : Nat → Nat} {n : Nat} {c : vmD} {T : List Tk} (hL : Lx B n T) (hT : TkC c T) {t : Nat} (ht : t < T.length) (Q : Int32 → vmD → Prop) (hQ : Q (oI (clo T t)) c) : Operands_closing (nI t) c Q := by
  have hl := hL.2.1
  have hkd := tk_kd hL t
  have cnt : gF c 24 5 = nI T.length := hT.1
  have c40 : nI (tk T t).1 = 40 ↔ (tk T t).1 = 40 := nI_eq (b := 40) (by omega) (by omega)
  have c41 : nI (tk T t).1 = 41 ↔ (tk T t).1 = 41 := nI_eq (b := 41) (by omega) (by omega)
  unfold Operands_closing
  unfold clo at hQ
  by_cases z : (tk T t).1 = 40
  · rw [if_pos z] at hQ
    have ht1 := more hL ht (by omega)
    obtain ⟨m, hm⟩ := closC hL hT (t := t) (T.length - (t + 1)) (t + 1) 1 (by omega) (by omega) (by omega) (by omega) (by omega) Q hQ
    refine ⟨m + 1, ?_⟩
    unfold Operands_closing_4 Tokens_count
    rw [cnt]
    dsimp only
    rw [if_pos (nI_lt ht (by omega)), kindC hT (by omega)]
    rw [if_pos (c40.mpr z)]
    refine bnd_iff.mpr ?_
    unfold Operands_closing_48
    rw [if_pos (by decide), nI_p1]
    exact bnd_iff.mpr hm
  · rw [if_neg z] at hQ
    have nn : ¬ nI t < nI t := nI_nlt (by omega) (by omega)
    refine ⟨1, ?_⟩
    unfold Operands_closing_4 Tokens_count
    rw [cnt]
    dsimp only
    rw [if_pos (nI_lt ht (by omega)), kindC hT (by omega)]
    rw [if_neg (fun w => z (c40.mp w))]
    by_cases z2 : (tk T t).1 = 41
    · rw [if_pos (c41.mpr z2)]
      refine bnd_iff.mpr ?_
      unfold Operands_closing_48
      rw [if_neg (by decide), if_neg nn]
      exact hQ
    · rw [if_neg (fun w => z2 (c41.mp w))]
      unfold Operands_closing_48
      rw [if_neg (by decide), if_neg nn]
      exact hQ
theorem cl_some {B : Nat → Nat} {n : Nat} {T : List Tk} (hL : Lx B n T) {l : Nat} : ∀ (f d t : Nat), T.length ≤ t + f → t ≤ T.length → cl T d t = some l → (tk T l).1 = 41 ∧ ends T (l + 1) = true ∧ t ≤ l ∧ l + 1 < T.length := by
  intro f
  induction f with
  | zero =>
    intro d t hf ht h
    unfold cl at h
    rw [show T.length - t = 0 by omega] at h
    cases h
  | succ f ih =>
    intro d t hf ht h
    by_cases htl : t < T.length
    · rw [cl_e htl] at h
      split at h
      · cases h
      · split at h
        · split at h
          · rename_i k1 k2 k3
            cases h
            exact ⟨k2.1, k3, Nat.le_refl _, more hL htl (by omega)⟩
          · cases h
        · obtain ⟨a, b, e, g⟩ := ih _ _ (by omega) (by omega) h
          exact ⟨a, b, by omega, g⟩
    · unfold cl at h
      rw [show T.length - t = 0 by omega] at h
      cases h
/-- an exp keeps the count of brackets -/
theorem cl_run {B : Nat → Nat} {n : Nat} {T : List Tk} (hL : Lx B n T) {N : Nt} {here : Int32} : ∀ (f : Nat) (w : Bool) (os : List Op) (v : List Vl) (tr : Nat × Nat) (t : Nat) (d : Nat), 1 ≤ d → t < T.length → T.length ≤ t + f → XJ w os v tr t → cl T (d + parn os) t = cl T (d + parn (xrun T N here f w os v tr t).2.2.1) (xrun T N here f w os v tr t).2.1 := by
  intro f
  induction f with
  | zero => intro w os v tr t d hd ht hf; exact absurd ht (by omega)
  | succ f ih =>
    intro w os v tr t d hd ht hf hJ
    cases w with
    | true =>
      by_cases co : (tk T t).1 = 40 ∨ (tk T t).1 = 126 ∨ (tk T t).1 = 45
      · by_cases h40 : 40 ≤ opn os
        · rw [xr_full co h40]
        · rw [xr_opn co h40]
          have ht1 := more hL ht (by omega)
          rw [← ih true _ v tr (t + 1) d hd ht1 (by omega) (hJ.psh co h40), cl_e ht, if_neg (by omega), if_neg (by omega)]
          congr 1
          show _ = d + ((if (if (tk T t).1 = 45 then 109 else (tk T t).1) = 40 then 1 else 0) + parn os)
          rcases co with e | e | e
          · rw [e, if_pos rfl, if_pos (by decide)]
            omega
          · rw [e, if_neg (by decide), if_neg (by decide), if_neg (by decide)]
            omega
          · rw [e, if_neg (by decide), if_neg (by decide), if_pos rfl, if_neg (by decide)]
            omega
      · cases hv : xval T N here t with
        | none => rw [xr_none co hv]
        | some x =>
          rw [xr_some co hv]
          have hk := xval_k hv
          have ht1 := more hL ht hk
          obtain ⟨J2, p2, -⟩ := stl_XJ 6 (by omega) _ _ _ (hJ.val x)
          have n41 : ¬ (tk T t).1 = 41 := fun z => by
            unfold xval at hv
            rw [z, if_neg (by decide), if_neg (by decide), if_neg (by decide)] at hv
            cases hv
          rw [← ih false _ _ _ (t + 1) d hd ht1 (by omega) J2, p2, cl_e ht, if_neg (by omega), if_neg (fun z => n41 z.1), if_neg (fun z => co (Or.inl z)), if_neg n41]
    | false =>
      by_cases cc : (tk T t).1 = 41 ∧ 0 < parn os
      · rw [xr_close cc.1 cc.2]
        have ht1 := more hL ht (by omega)
        obtain ⟨J1, p1, hh⟩ := stl_XJ 1 (by omega) _ _ _ hJ
        obtain ⟨t0, os', eo, J2, p2⟩ := J1.close (by omega) hh
        obtain ⟨J3, p3, -⟩ := stl_XJ 6 (by omega) _ _ _ J2
        have et : (stl 1 os v tr).1.tail = os' := by rw [eo]; rfl
        rw [et, ← ih false _ _ _ (t + 1) d hd ht1 (by omega) (J3.up (by omega)), p3, cl_e ht, if_neg (by omega), if_neg (by omega), if_neg (by omega), if_pos cc.1]
        congr 1
        omega
      · by_cases cb : 0 < lev (tk T t).1 ∧ lev (tk T t).1 < 7
        · rw [xr_bin cc cb]
          have hkd := tk_kd hL t
          have ht1 := more hL ht (lev_1 cb.1)
          obtain ⟨J1, p1, hh⟩ := stl_XJ (lev (tk T t).1) (by omega) _ _ _ hJ
          have J2 := J1.bin hkd cb.1 cb.2 hh
          have n40 : ¬ (tk T t).1 = 40 := fun z => by rw [z] at cb; exact absurd cb.1 (by decide)
          have n41 : ¬ (tk T t).1 = 41 := fun z => by rw [z] at cb; exact absurd cb.1 (by decide)
          have hk1 := lev_1 cb.1
          rw [← ih true _ _ _ (t + 1) d hd ht1 (by omega) J2, cl_e ht, if_neg (by omega), if_neg (fun z => n41 z.1), if_neg n40, if_neg n41]
          congr 1
          show _ = d + ((if (tk T t).1 = 40 then 1 else 0) + parn _)
          rw [if_neg n40, p1]
          omega
        · rw [xr_stop cc cb]
/-- the exp of a place in memory ends at its bracket or is refused -/
theorem cl_xat {B : Nat → Nat} {n : Nat} {T : List Tk} (hL : Lx B n T) {N : Nt} {here : Int32} {q l : Nat} (hq : q < T.length) (h : cl T 1 q = some l) (ok : xok T N here q = true) (ha : xat T N here q < T.length) : xat T N here q = l ↔ (tk T (xat T N here q)).1 = 41 := by
  have e := cl_run hL (N := N) (here := here) (T.length - q) true [] [] (0, 0) q 1 (Nat.le_refl _) hq (by omega) (XJ.init q)
  have ep : parn (xrun T N here (T.length - q) true [] [] (0, 0) q).2.2.1 = 0 := by
    unfold xok at ok
    rw [Bool.and_eq_true, decide_eq_true_eq] at ok
    exact ok.2
  rw [ep] at e
  have e : cl T 1 q = cl T 1 (xat T N here q) := e
  rw [h] at e
  obtain ⟨s1, s2, s3, s4⟩ := cl_some hL _ 1 q (by omega : T.length ≤ q + T.length) (by omega) h
  constructor
  · intro z
    rw [z]
    exact s1
  · intro z
    rw [cl_e ha, if_neg (by omega), if_pos ⟨z, rfl⟩] at e
    split at e
    · cases e
      rfl
    · cases e
