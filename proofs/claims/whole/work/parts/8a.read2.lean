/-! The class reads an exp: the loop -/
def OB (os : List Op) (tr : Nat × Nat) (t : Nat) : Prop := (∀ o, o ∈ os → o.2 < t) ∧ (¬ tr.1 = 0 → tr.2 < t)
def KT (v : List Vl) (tr : Nat × Nat) : Prop := (tr.1 = 0 → ∀ x, x ∈ v → x.2 = true) ∧ (¬ tr.1 = 0 → ∃ x, x ∈ v ∧ x.2 = false)
def XJ (w : Bool) (os : List Op) (v : List Vl) (tr : Nat × Nat) (t : Nat) : Prop := XI w os v ∧ OB os tr t ∧ KT v tr
theorem KT.un {o : Op} {v : List Vl} {tr : Nat × Nat} (h : KT v tr) (h7 : lev o.1 = 7) : KT (apV o v) (apT2 o v tr) := by
  unfold apV apT2
  rw [if_pos h7, if_pos h7]
  cases v with
  | nil => exact h
  | cons x v =>
    refine ⟨fun z y hy => ?_, fun z => ?_⟩
    · rcases List.mem_cons.mp hy with rfl | hy
      · exact h.1 z x List.mem_cons_self
      · exact h.1 z y (List.mem_cons_of_mem _ hy)
    · obtain ⟨y, hy, hf⟩ := h.2 z
      rcases List.mem_cons.mp hy with rfl | hy
      · exact ⟨_, List.mem_cons_self, hf⟩
      · exact ⟨y, List.mem_cons_of_mem _ hy, hf⟩
theorem KT.bi {o : Op} {v : List Vl} {tr : Nat × Nat} (h : KT v tr) (h7 : ¬ lev o.1 = 7) (h2 : 2 ≤ v.length) : KT (apV o v) (apT2 o v tr) := by
  unfold apV apT2
  rw [if_neg h7, if_neg h7]
  match v, h2 with
  | [], h2 => exact absurd h2 (by show ¬ 2 ≤ 0; omega)
  | [a], h2 => exact absurd h2 (by show ¬ 2 ≤ 1; omega)
  | b :: a :: v, _ =>
    show KT ((opB o.1 a.1 b.1, a.2 && (b.2 && !(decide (o.1 = 47) && decide (b.1 = 0)))) :: v) (if o.1 = 47 ∧ b.1 = 0 ∧ b.2 = true ∧ tr.1 = 0 then (5, o.2) else tr)
    by_cases t0 : tr.1 = 0
    · have ha := h.1 t0 a (List.mem_cons_of_mem _ List.mem_cons_self)
      have hb := h.1 t0 b List.mem_cons_self
      by_cases e : o.1 = 47 ∧ b.1 = 0
      · rw [if_pos ⟨e.1, e.2, hb, t0⟩]
        refine ⟨fun z => absurd z (show ¬ (5 : Nat) = 0 by decide), fun _ => ⟨_, List.mem_cons_self, ?_⟩⟩
        rw [decide_eq_true e.1, decide_eq_true e.2]
        show (a.2 && (b.2 && false)) = false
        rw [Bool.and_false, Bool.and_false]
      · rw [if_neg (fun z => e ⟨z.1, z.2.1⟩)]
        refine ⟨fun _ y hy => ?_, fun z => absurd t0 z⟩
        rcases List.mem_cons.mp hy with rfl | hy
        · show (a.2 && (b.2 && !(decide (o.1 = 47) && decide (b.1 = 0)))) = true
          rw [ha, hb]
          have : (decide (o.1 = 47) && decide (b.1 = 0)) = false := by
            rw [← Bool.not_eq_true, Bool.and_eq_true, decide_eq_true_eq, decide_eq_true_eq]
            exact e
          rw [this]
          rfl
        · exact h.1 t0 y (List.mem_cons_of_mem _ (List.mem_cons_of_mem _ hy))
    · rw [if_neg (fun z => t0 z.2.2.2)]
      refine ⟨fun z => absurd z t0, fun _ => ?_⟩
      obtain ⟨y, hy, hf⟩ := h.2 t0
      rcases List.mem_cons.mp hy with rfl | hy
      · refine ⟨_, List.mem_cons_self, ?_⟩
        show (a.2 && (y.2 && _)) = false
        rw [hf, Bool.false_and, Bool.and_false]
      · rcases List.mem_cons.mp hy with rfl | hy
        · refine ⟨_, List.mem_cons_self, ?_⟩
          show (y.2 && _) = false
          rw [hf, Bool.false_and]
        · exact ⟨y, List.mem_cons_of_mem _ hy, hf⟩
theorem OB.pop {o : Op} {os : List Op} {v : List Vl} {tr : Nat × Nat} {t : Nat} (h : OB (o :: os) tr t) : OB os (apT2 o v tr) t := by
  refine ⟨fun x hx => h.1 x (List.mem_cons_of_mem _ hx), ?_⟩
  have ho := h.1 o List.mem_cons_self
  unfold apT2 apt
  split
  · exact h.2
  · split
    · split
      · intro _
        exact ho
      · exact h.2
    · exact h.2
theorem stl_XJ (L : Nat) (hL : 1 ≤ L) {t : Nat} : ∀ (os : List Op) (v : List Vl) (tr : Nat × Nat), XJ false os v tr t → XJ false (stl L os v tr).1 (stl L os v tr).2.1 (stl L os v tr).2.2 t ∧ parn (stl L os v tr).1 = parn os ∧ (∀ o os', (stl L os v tr).1 = o :: os' → lev o.1 < L) := by
  intro os
  induction os with
  | nil => intro v tr h; exact ⟨h, rfl, fun o os' e => by cases e⟩
  | cons o os ih =>
    intro v tr h
    unfold stl
    by_cases e : lev o.1 < L
    · rw [if_pos e]
      refine ⟨h, rfl, fun o' os' e2 => ?_⟩
      cases e2
      exact e
    · rw [if_neg e]
      obtain ⟨hI, hO, hK⟩ := h
      have h40 : ¬ o.1 = 40 := fun z => by rw [z, lev_40] at e; omega
      obtain ⟨g1, g2, -, g4⟩ := hI.pop h40
      have hK2 : KT (apV o v) (apT2 o v tr) := by
        by_cases h7 : lev o.1 = 7
        · exact hK.un h7
        · rw [if_neg h7] at g4
          exact hK.bi h7 g4
      obtain ⟨i1, i2, i3⟩ := ih (apV o v) (apT2 o v tr) ⟨g1, hO.pop, hK2⟩
      exact ⟨i1, by rw [i2, g2], i3⟩
theorem XJ.up {w : Bool} {os : List Op} {v : List Vl} {tr : Nat × Nat} {t t' : Nat} (h : XJ w os v tr t) (ht : t ≤ t') : XJ w os v tr t' := ⟨h.1, ⟨fun o ho => Nat.lt_of_lt_of_le (h.2.1.1 o ho) ht, fun z => Nat.lt_of_lt_of_le (h.2.1.2 z) ht⟩, h.2.2⟩
/-- the steps keep what is kept -/
theorem XJ.psh {os : List Op} {v : List Vl} {tr : Nat × Nat} {t k : Nat} (h : XJ true os v tr t) (hk : k = 40 ∨ k = 126 ∨ k = 45) (h40 : ¬ 40 ≤ opn os) : XJ true (((if k = 45 then 109 else k), t) :: os) v tr (t + 1) := by
  obtain ⟨⟨h1, h2, h3⟩, hO, hK⟩ := h
  obtain ⟨k', hk'⟩ : ∃ k', k' = (if k = 45 then 109 else k) := ⟨_, rfl⟩
  rw [← hk']
  have hc : k' < 128 ∧ (k' = 40 ∨ lev k' = 7) ∧ isO k' = true := by
    rw [hk']
    rcases hk with rfl | rfl | rfl <;> decide
  refine ⟨⟨⟨h1, hc.1, hc.2.1.imp id (fun z => Or.inl z)⟩, ?_, ?_⟩, ⟨fun o ho => ?_, fun z => Nat.lt_succ_of_lt (hO.2 z)⟩, hK⟩
  · have h2 : v.length + opn os = os.length + 0 := h2
    show v.length + ((if isO k' = true then 1 else 0) + opn os) = os.length + 1 + 0
    rw [if_pos hc.2.2]
    omega
  · show (if isO k' = true then 1 else 0) + opn os ≤ 40
    rw [if_pos hc.2.2]
    omega
  · rcases List.mem_cons.mp ho with rfl | ho
    · exact Nat.lt_succ_self t
    · exact Nat.lt_succ_of_lt (hO.1 o ho)
theorem XJ.val {os : List Op} {v : List Vl} {tr : Nat × Nat} {t : Nat} (h : XJ true os v tr t) (x : Vl) : XJ false os (x :: v) (tro x tr t) (t + 1) := by
  obtain ⟨⟨h1, h2, h3⟩, hO, hK⟩ := h
  refine ⟨⟨h1, ?_, h3⟩, ⟨fun o ho => Nat.lt_succ_of_lt (hO.1 o ho), ?_⟩, ?_⟩
  · have h2 : v.length + opn os = os.length + 0 := h2
    show v.length + 1 + opn os = os.length + 1
    omega
  · unfold tro
    split
    · intro _
      exact Nat.lt_succ_self t
    · exact fun z => Nat.lt_succ_of_lt (hO.2 z)
  · unfold tro
    by_cases e : x.2 = false ∧ tr.1 = 0
    · rw [if_pos e]
      exact ⟨fun z => absurd z (show ¬ (4 : Nat) = 0 by decide), fun _ => ⟨x, List.mem_cons_self, e.1⟩⟩
    · rw [if_neg e]
      refine ⟨fun z y hy => ?_, fun z => ?_⟩
      · rcases List.mem_cons.mp hy with rfl | hy
        · cases hx : y.2
          · exact absurd ⟨hx, z⟩ e
          · rfl
        · exact hK.1 z y hy
      · obtain ⟨y, hy, hf⟩ := hK.2 z
        exact ⟨y, List.mem_cons_of_mem _ hy, hf⟩
theorem XJ.close {os : List Op} {v : List Vl} {tr : Nat × Nat} {t : Nat} (h : XJ false os v tr t) (hp : 0 < parn os) (hh : ∀ o os', os = o :: os' → lev o.1 < 1) : ∃ t0 os', os = (40, t0) :: os' ∧ XJ false os' v tr t ∧ parn os' + 1 = parn os := by
  obtain ⟨⟨h1, h2, h3⟩, hO, hK⟩ := h
  cases os with
  | nil => exact absurd hp (Nat.lt_irrefl 0)
  | cons o os =>
    have hl := hh o os rfl
    have h40 : o.1 = 40 := by
      rcases h1.2.2 with e | e | e
      · exact e
      · omega
      · omega
    obtain ⟨k, t0⟩ := o
    have h40 : k = 40 := h40
    subst h40
    refine ⟨t0, os, rfl, ⟨⟨h1.1, ?_, ?_⟩, ⟨fun x hx => hO.1 x (List.mem_cons_of_mem _ hx), hO.2⟩, hK⟩, ?_⟩
    · have h2 : v.length + ((if isO 40 = true then 1 else 0) + opn os) = os.length + 1 + 1 := h2
      rw [if_pos (by decide)] at h2
      show v.length + opn os = os.length + 1
      omega
    · have h3 : (if isO 40 = true then 1 else 0) + opn os ≤ 40 := h3
      omega
    · show parn os + 1 = (if (40 : Nat) = 40 then 1 else 0) + parn os
      rw [if_pos rfl]
      omega
theorem XJ.bin {os : List Op} {v : List Vl} {tr : Nat × Nat} {t k : Nat} (h : XJ false os v tr t) (hk : k < 128) (h0 : 0 < lev k) (h7 : lev k < 7) (hh : ∀ o os', os = o :: os' → lev o.1 < lev k) : XJ true ((k, t) :: os) v tr (t + 1) := by
  obtain ⟨⟨h1, h2, h3⟩, hO, hK⟩ := h
  have nO : isO k = false := by
    rw [← Bool.not_eq_true]
    intro z
    rcases (isO_7 k).mp z with e | e
    · rw [e] at h0
      revert h0
      decide
    · omega
  refine ⟨⟨⟨h1, hk, Or.inr (Or.inr ⟨h0, h7, rowL_lt (show lev k ≤ 6 by omega) h0 hh, hh⟩)⟩, ?_, ?_⟩, ⟨fun o ho => ?_, fun z => Nat.lt_succ_of_lt (hO.2 z)⟩, hK⟩
  · have h2 : v.length + opn os = os.length + 1 := h2
    show v.length + ((if isO k = true then 1 else 0) + opn os) = os.length + 1 + 0
    rw [nO, if_neg Bool.false_ne_true]
    omega
  · show (if isO k = true then 1 else 0) + opn os ≤ 40
    rw [nO, if_neg Bool.false_ne_true]
    omega
  · rcases List.mem_cons.mp ho with rfl | ho
    · exact Nat.lt_succ_self t
    · exact Nat.lt_succ_of_lt (hO.1 o ho)
theorem more {B : Nat → Nat} {n : Nat} {T : List Tk} (hL : Lx B n T) {t : Nat} (ht : t < T.length) (hk : 1 < (tk T t).1) : t + 1 < T.length := by
  have := (hL.2.2 t ht).1
  have : ¬ t + 1 = T.length := fun z => by have := this.mpr z; omega
  omega
theorem xval_k {T : List Tk} {N : Nt} {here : Int32} {t : Nat} {x : Vl} (h : xval T N here t = some x) : 1 < (tk T t).1 := by
  unfold xval at h
  split at h
  · omega
  · split at h
    · omega
    · split at h
      · omega
      · cases h
theorem lev_1 {k : Nat} (h : 0 < lev k) : 1 < k := by
  have : ∀ j, j < 2 → lev j = 0 := by decide
  by_cases e : k < 2
  · rw [this k e] at h
    omega
  · omega
/-- the loop -/
theorem readLoop {B : Nat → Nat} {n : Nat} {T : List Tk} {N : Nt} {ln : Nat} {here : Int32} (rep : Int32) : ∀ (f : Nat) (w : Bool) (os : List Op) (v : List Vl) (tr : Nat × Nat) (t : Nat) (c : vmD), T.length ≤ t + f → t < T.length → XC c here os v tr → XJ w os v tr t → LnC B n c T N ln → ∃ c', (∀ Q : Int32 → vmD → Prop, Expression_read_205 rep (kb (xrun T N here f w os v tr t).1) (nI (xrun T N here f w os v tr t).2.1) c' Q → ∃ m, Expression_read_14 Q m rep (kb w) 1 (nI t) c) ∧ XC c' here (xrun T N here f w os v tr t).2.2.1 (xrun T N here f w os v tr t).2.2.2.1 (xrun T N here f w os v tr t).2.2.2.2 ∧ XJ (xrun T N here f w os v tr t).1 (xrun T N here f w os v tr t).2.2.1 (xrun T N here f w os v tr t).2.2.2.1 (xrun T N here f w os v tr t).2.2.2.2 (xrun T N here f w os v tr t).2.1 ∧ t ≤ (xrun T N here f w os v tr t).2.1 ∧ (xrun T N here f w os v tr t).2.1 < T.length ∧ ModC XF XA [] c c' := by
  intro f
  induction f with
  | zero => intro w os v tr t c hf ht; exact absurd ht (by omega)
  | succ f ih =>
    intro w os v tr t c hf ht hX hJ hLn
    obtain ⟨hS, hL, hT, hN, hC, hln, hlb⟩ := hLn
    have hTl := hL.2.1
    have ht31 : t < 2 ^ 31 := by omega
    have hkd := tk_kd hL t
    have hlen := hJ.1.len
    have cnt : gF c 24 5 = nI T.length := hT.1
    have htc : nI t < nI T.length := nI_lt ht (by omega)
    have ck : ∀ (m : Nat) (M : Int32), M = nI m → m < 128 → (nI (tk T t).1 = M ↔ (tk T t).1 = m) := fun m M hM hm => by rw [hM]; exact nI_eq (by omega) (by omega)
    -- the first part of an iteration
    have iter : ∀ (m : Nat) (Q : Int32 → vmD → Prop), (if kb w = 0 then Expression_read_88 (Expression_read_14 Q m) rep (kb w) 1 (nI t) (nI (tk T t).1) (nI (lev (tk T t).1)) c Q else if nI (tk T t).1 = 40 then Expression_read_75 (Expression_read_14 Q m) rep (kb w) (nI t) (nI (tk T t).1) c Q else if nI (tk T t).1 = 126 then Expression_read_75 (Expression_read_14 Q m) rep (kb w) (nI t) (nI (tk T t).1) c Q else if nI (tk T t).1 = 45 then Expression_read_75 (Expression_read_14 Q m) rep (kb w) (nI t) (nI (tk T t).1) c Q else Expression_read_88 (Expression_read_14 Q m) rep (kb w) 1 (nI t) (nI (tk T t).1) (nI (lev (tk T t).1)) c Q) → Expression_read_14 Q (m + 1) rep (kb w) 1 (nI t) c := by
      intro m Q hQ
      unfold Expression_read_14 Tokens_count
      rw [if_neg (by decide), cnt]
      dsimp only
      rw [if_pos htc, kindC hT ht31, levI_e, lev_I _ hkd]
      exact hQ
    -- going on, and stopping
    have next : ∀ (b14 : Int32 → Int32 → Int32 → Int32 → vmD → Prop) (x4 : Int32) (d : vmD) (Q : Int32 → vmD → Prop), b14 rep x4 1 (nI (t + 1)) d → Expression_read_187 b14 rep x4 1 (nI t) d Q := by
      intro b14 x4 d Q hQ
      unfold Expression_read_187 Expression_read_199
      rw [if_neg (by decide)]
      refine bnd_iff.mpr ?_
      rw [nI_p1]
      exact hQ
    have stop : ∀ (m : Nat) (x4 : Int32) (d : vmD) (Q : Int32 → vmD → Prop), Expression_read_205 rep x4 (nI t) d Q → Expression_read_187 (Expression_read_14 Q (m + 1)) rep x4 0 (nI t) d Q := by
      intro m x4 d Q hQ
      unfold Expression_read_187 Expression_read_199
      rw [if_pos rfl]
      refine bnd_iff.mpr ?_
      rw [Int32.add_zero]
      unfold Expression_read_14
      rw [if_pos rfl]
      exact hQ
    unfold xrun
    cases w with
    | true =>
      simp only [if_true]
      by_cases co : (tk T t).1 = 40 ∨ (tk T t).1 = 126 ∨ (tk T t).1 = 45
      · simp only [if_pos co]
        have ht1 := more hL ht (by omega)
        obtain ⟨c1, E1, F1, X1, M1⟩ := openC hX (k := (tk T t).1) (t := t) (by omega) co
        have go : ∀ (m : Nat) (Q : Int32 → vmD → Prop), Expression_read_75 (Expression_read_14 Q m) rep 1 (nI t) (nI (tk T t).1) c Q → Expression_read_14 Q (m + 1) rep 1 1 (nI t) c := by
          intro m Q hQ
          refine iter m Q ?_
          have kt : kb true = 1 := rfl
          rw [kt, if_neg (by decide)]
          by_cases z1 : (tk T t).1 = 40
          · rw [if_pos ((ck 40 40 rfl (by omega)).mpr z1)]
            exact hQ
          · rw [if_neg (fun z => z1 ((ck 40 40 rfl (by omega)).mp z))]
            by_cases z2 : (tk T t).1 = 126
            · rw [if_pos ((ck 126 126 rfl (by omega)).mpr z2)]
              exact hQ
            · rw [if_neg (fun z => z2 ((ck 126 126 rfl (by omega)).mp z)), if_pos ((ck 45 45 rfl (by omega)).mpr (by omega))]
              exact hQ
        by_cases h40 : 40 ≤ opn os
        · simp only [if_pos h40]
          refine ⟨c, fun Q hQ => ⟨2, go 1 Q ?_⟩, hX, hJ, Nat.le_refl _, ht, ModC.refl _ _ _ _⟩
          unfold Expression_read_75
          refine E1 _ ?_
          rw [if_pos h40, F1 h40]
          exact stop 0 1 c Q hQ
        · simp only [if_neg h40]
          obtain ⟨c2, E2, X2, J2, l1, l2, M2⟩ := ih true _ v tr (t + 1) c1 (by omega) ht1 (X1 h40) (hJ.psh co h40) (LnC.mod ⟨hS, hL, hT, hN, hC, hln, hlb⟩ M1 (by decide) (by decide) (by decide))
          refine ⟨c2, fun Q hQ => ?_, X2, J2, by omega, l2, M1.trans M2⟩
          obtain ⟨m, hm⟩ := E2 Q hQ
          refine ⟨m + 1, go m Q ?_⟩
          unfold Expression_read_75
          refine E1 _ ?_
          rw [if_neg h40]
          exact next _ _ _ _ hm
      · simp only [if_neg co]
        have go : ∀ (m : Nat) (Q : Int32 → vmD → Prop), (Expression_takeValue (nI (tk T t).1) (nI t) c fun r_33 d_32 => if r_33 = 0 then (Expression_read_187 (Expression_read_14 Q m) rep 1 r_33 (nI t) d_32 Q) else (Expression_settle 6 d_32 fun d_35 => Expression_read_187 (Expression_read_14 Q m) rep 0 r_33 (nI t) d_35 Q)) → Expression_read_14 Q (m + 1) rep 1 1 (nI t) c := by
          intro m Q hQ
          refine iter m Q ?_
          have kt : kb true = 1 := rfl
          rw [kt, if_neg (by decide), if_neg (fun z => co (Or.inl ((ck 40 40 rfl (by omega)).mp z))), if_neg (fun z => co (Or.inr (Or.inl ((ck 126 126 rfl (by omega)).mp z)))), if_neg (fun z => co (Or.inr (Or.inr ((ck 45 45 rfl (by omega)).mp z))))]
          unfold Expression_read_88
          rw [if_neg (by decide)]
          exact hQ
        obtain ⟨c1, E1, X1, M1⟩ := takeC ⟨hS, hL, hT, hN, hC, hln, hlb⟩ hX (by omega) ht
        cases hv : xval T N here t with
        | none =>
          rw [hv] at E1 X1
          refine ⟨c, fun Q hQ => ⟨2, go 1 Q ?_⟩, hX, hJ, Nat.le_refl _, ht, ModC.refl _ _ _ _⟩
          refine E1 _ ?_
          dsimp only at X1 ⊢
          rw [if_pos rfl, X1]
          exact stop 0 1 c Q hQ
        | some x =>
          rw [hv] at E1 X1
          have ht1 := more hL ht (xval_k hv)
          have J1 := hJ.val x
          obtain ⟨c2, E2, X2, M2⟩ := settle_ok (L := 6) (by omega) (by omega) X1 J1.1
          obtain ⟨J2, -, -⟩ := stl_XJ 6 (by omega) _ _ _ J1
          obtain ⟨c3, E3, X3, J3, l1, l2, M3⟩ := ih false _ _ _ (t + 1) c2 (by omega) ht1 X2 J2 (LnC.mod ⟨hS, hL, hT, hN, hC, hln, hlb⟩ (M1.trans M2) (by decide) (by decide) (by decide))
          refine ⟨c3, fun Q hQ => ?_, X3, J3, Nat.le_of_succ_le l1, l2, (M1.trans M2).trans M3⟩
          obtain ⟨m, hm⟩ := E3 Q hQ
          refine ⟨m + 1, go m Q ?_⟩
          refine E1 _ ?_
          dsimp only
          rw [if_neg (by decide)]
          refine E2 _ ?_
          exact next _ _ _ _ hm
    | false =>
      simp only [Bool.false_eq_true, if_false]
      have kf : kb false = 0 := rfl
      have go : ∀ (m : Nat) (Q : Int32 → vmD → Prop), (if nI (tk T t).1 = 41 then (if (0 : Int32) < nI (parn os) then (Expression_settle 1 c fun d_23 => Expression_close d_23 fun d_24 => Expression_settle 6 d_24 fun d_25 => Expression_read_187 (Expression_read_14 Q m) rep 0 1 (nI t) d_25 Q) else (Expression_read_152 (Expression_read_14 Q m) rep 0 1 (nI t) (nI (tk T t).1) (nI (lev (tk T t).1)) c Q)) else (Expression_read_152 (Expression_read_14 Q m) rep 0 1 (nI t) (nI (tk T t).1) (nI (lev (tk T t).1)) c Q)) → Expression_read_14 Q (m + 1) rep 0 1 (nI t) c := by
        intro m Q hQ
        refine iter m Q ?_
        rw [kf, if_pos rfl]
        unfold Expression_read_88
        rw [if_pos rfl, hX.2.2.2.1]
        exact hQ
      have hpl := parn_le os
      have hpo : (0 : Int32) < nI (parn os) ↔ 0 < parn os := nI_ltI (a := 0) (by omega) (by have := hJ.1.2.2; omega)
      by_cases cc : (tk T t).1 = 41 ∧ 0 < parn os
      · simp only [if_pos cc]
        have ht1 := more hL ht (by omega)
        obtain ⟨c1, E1, X1, M1⟩ := settle_ok (L := 1) (by omega) (by omega) hX hJ.1
        obtain ⟨J1, p1, hh⟩ := stl_XJ 1 (by omega) _ _ _ hJ
        obtain ⟨t0, os', eo, J2, p2⟩ := J1.close (by omega) hh
        rw [eo] at X1
        have hl2 := J2.1.len
        obtain ⟨c2, E2, X2, M2⟩ := closeC X1 (by omega)
        obtain ⟨c3, E3, X3, M3⟩ := settle_ok (L := 6) (by omega) (by omega) X2 J2.1
        obtain ⟨J3, -, -⟩ := stl_XJ 6 (by omega) _ _ _ J2
        have et : (stl 1 os v tr).1.tail = os' := by rw [eo]; rfl
        rw [et]
        have M123 := (M1.trans M2).trans M3
        obtain ⟨c4, E4, X4, J4, l1, l2, M4⟩ := ih false _ _ _ (t + 1) c3 (by omega) ht1 X3 (J3.up (by omega)) (LnC.mod ⟨hS, hL, hT, hN, hC, hln, hlb⟩ M123 (by decide) (by decide) (by decide))
        refine ⟨c4, fun Q hQ => ?_, X4, J4, by omega, l2, M123.trans M4⟩
        obtain ⟨m, hm⟩ := E4 Q hQ
        refine ⟨m + 1, go m Q ?_⟩
        rw [if_pos ((ck 41 41 rfl (by omega)).mpr cc.1), if_pos (hpo.mpr cc.2)]
        exact E1 _ (E2 _ (E3 _ (next _ _ _ _ hm)))
      · simp only [if_neg cc]
        have go2 : ∀ (m : Nat) (Q : Int32 → vmD → Prop), Expression_read_152 (Expression_read_14 Q m) rep 0 1 (nI t) (nI (tk T t).1) (nI (lev (tk T t).1)) c Q → Expression_read_14 Q (m + 1) rep 0 1 (nI t) c := by
          intro m Q hQ
          refine go m Q ?_
          by_cases z : (tk T t).1 = 41
          · rw [if_pos ((ck 41 41 rfl (by omega)).mpr z), if_neg (fun w => cc ⟨z, hpo.mp w⟩)]
            exact hQ
          · rw [if_neg (fun w => z ((ck 41 41 rfl (by omega)).mp w))]
            exact hQ
        have l7 := lev_7 (tk T t).1
        have b0 : (0 : Int32) < nI (lev (tk T t).1) ↔ 0 < lev (tk T t).1 := nI_ltI (a := 0) (by omega) (by omega)
        have b7 : nI (lev (tk T t).1) < 7 ↔ lev (tk T t).1 < 7 := nI_ltI (b := 7) (by omega) (by omega)
        by_cases cb : 0 < lev (tk T t).1 ∧ lev (tk T t).1 < 7
        · simp only [if_pos cb]
          have ht1 := more hL ht (lev_1 cb.1)
          obtain ⟨c1, E1, X1, M1⟩ := settle_ok (L := lev (tk T t).1) (by omega) (by omega) hX hJ.1
          obtain ⟨J1, p1, hh⟩ := stl_XJ (lev (tk T t).1) (by omega) _ _ _ hJ
          have hl1 := J1.1.len
          have J2 := J1.bin hkd cb.1 cb.2 hh
          have nO : isO (tk T t).1 = false := by
            rw [← Bool.not_eq_true]
            intro z
            rcases (isO_7 _).mp z with e | e
            · rw [e] at cb
              exact absurd cb.1 (by decide)
            · omega
          obtain ⟨c2, E2, X2, M2⟩ := holdC X1 (k := (tk T t).1) (t := t) (by omega) nO
          have M12 := M1.trans M2
          obtain ⟨c3, E3, X3, J3, l1, l2, M3⟩ := ih true _ _ _ (t + 1) c2 (by omega) ht1 X2 J2 (LnC.mod ⟨hS, hL, hT, hN, hC, hln, hlb⟩ M12 (by decide) (by decide) (by decide))
          refine ⟨c3, fun Q hQ => ?_, X3, J3, by omega, l2, M12.trans M3⟩
          obtain ⟨m, hm⟩ := E3 Q hQ
          refine ⟨m + 1, go2 m Q ?_⟩
          unfold Expression_read_152
          rw [if_pos (b0.mpr cb.1), if_pos (b7.mpr cb.2)]
          exact E1 _ (E2 _ (next _ _ _ _ hm))
        · simp only [if_neg cb]
          refine ⟨c, fun Q hQ => ⟨2, go2 1 Q ?_⟩, hX, hJ, Nat.le_refl _, ht, ModC.refl _ _ _ _⟩
          unfold Expression_read_152 Expression_read_184
          by_cases z : 0 < lev (tk T t).1
          · rw [if_pos (b0.mpr z), if_neg (fun w => cb ⟨z, b7.mp w⟩)]
            exact stop 0 0 c Q hQ
          · rw [if_neg (fun w => z (b0.mp w))]
            exact stop 0 0 c Q hQ
/-- what an exp comes to: whether it is one, the token behind it, value, known, trouble -/
def xend (T : List Tk) (N : Nt) (here : Int32) (t : Nat) : Xr := xrun T N here (T.length - t) true [] [] (0, 0) t
def xok (T : List Tk) (N : Nt) (here : Int32) (t : Nat) : Bool := !(xend T N here t).1 && decide (parn (xend T N here t).2.2.1 = 0)
def xat (T : List Tk) (N : Nt) (here : Int32) (t : Nat) : Nat := (xend T N here t).2.1
def xtr (T : List Tk) (N : Nt) (here : Int32) (t : Nat) : Nat × Nat := if xok T N here t = true then (stl 1 (xend T N here t).2.2.1 (xend T N here t).2.2.2.1 (xend T N here t).2.2.2.2).2.2 else (xend T N here t).2.2.2.2
def xvl (T : List Tk) (N : Nt) (here : Int32) (t : Nat) : Int32 := match (stl 1 (xend T N here t).2.2.1 (xend T N here t).2.2.2.1 (xend T N here t).2.2.2.2).2.1 with
  | [] => 0
  | x :: _ => x.1
/-- the FAULTS that reading adds -/
def xfl (T : List Tk) (N : Nt) (here : Int32) (t ln : Nat) (rep : Bool) (f : Fl) : Fl :=
  if rep = true ∧ ¬ (xtr T N here t).1 = 0 then addF (if xok T N here t = true then f else addF f ln (tk T (xat T N here t)).2.1 (rfc T (xat T N here t))) ln (tk T (xtr T N here t).2).2.1 (xtr T N here t).1 else (if xok T N here t = true then f else addF f ln (tk T (xat T N here t)).2.1 (rfc T (xat T N here t)))
theorem LnC.flt {B : Nat → Nat} {n : Nat} {c c' : vmD} {T : List Tk} {N : Nt} {ln : Nat} (h : LnC B n c T N ln) (M : ModC FF [] [] c c') : LnC B n c' T N ln := h.mod M (by decide) (by decide) (by decide)
abbrev XFF : List (Nat × Nat) := [(28, 6), (28, 7), (28, 8), (28, 9), (28, 10), (28, 11), (28, 12), (21, 0), (21, 1), (21, 2)]
theorem xinit (c : vmD) (here : Int32) : XC (sF (sF (sF (sF (sF (sF c 28 6 0) 28 7 0) 28 8 0) 28 9 0) 28 10 here) 28 11 0) here [] [] (0, 0) := by
  unfold XC
  simp only [gA_sA, gA_sA_ne, gA_sF, gA_sG, gA_sL, gF_sA, gF_sF, gF_sF_ne, gF_sG, gF_sL, gG_sA, gG_sF, gG_sL, gG_sGe, gG_sG_ne, gL_sA, gL_sF, gL_sG, gL_sLe, gL_sL_ne, u1f_eq, u1f_ne, bnd_iff, not_false_eq_true, Nat.reduceEqDiff]
  exact ⟨rfl, rfl, rfl, rfl, trivial, rfl, fun z => absurd True.intro z, (by show 0 < 6; omega), True.intro, True.intro, True.intro, True.intro⟩
theorem XJ.init (t : Nat) : XJ true [] [] (0, 0) t := ⟨⟨True.intro, rfl, (by show 0 ≤ 40; omega)⟩, ⟨fun o ho => (by cases ho), fun z => absurd rfl z⟩, ⟨fun _ x hx => (by cases hx), fun z => absurd rfl z⟩⟩
theorem readC {B : Nat → Nat} {n : Nat} {T : List Tk} {N : Nt} {ln : Nat} {here : Int32} {rep : Bool} {t : Nat} {c : vmD} {f : Fl} (hLn : LnC B n c T N ln) (hF : FltC c f) (ht : t < T.length) : ∃ c', (∀ Q : Int32 → vmD → Prop, Q (if xok T N here t = true then nI (xat T N here t) else -1) c' → Expression_read (nI t) here (kb rep) c Q) ∧ FltC c' (xfl T N here t ln rep f) ∧ (xok T N here t = true → gA c' 31 0 = xvl T N here t ∧ gA c' 32 0 = kb (decide ((xtr T N here t).1 = 0))) ∧ ModC XFF XA [] c c' ∧ t ≤ xat T N here t ∧ xat T N here t < T.length ∧ (¬ (xtr T N here t).1 = 0 → (xtr T N here t).2 < xat T N here t) ∧ (xtr T N here t).1 < 6 := by
  have hTl := hLn.2.1.2.1
  obtain ⟨c0, hc0⟩ : ∃ c0 : vmD, c0 = sF (sF (sF (sF (sF (sF c 28 6 0) 28 7 0) 28 8 0) 28 9 0) 28 10 here) 28 11 0 := ⟨_, rfl⟩
  have M0 : ModC XF XA [] c c0 := by
    rw [hc0]
    exact ((((((ModC.refl XF XA [] c).sF (by decide) _).sF (by decide) _).sF (by decide) _).sF (by decide) _).sF (by decide) _).sF (by decide) _
  have X0 : XC c0 here [] [] (0, 0) := by rw [hc0]; exact xinit c here
  have hLn0 : LnC B n c0 T N ln := hLn.mod M0 (by decide) (by decide) (by decide)
  obtain ⟨c1, E1, X1, J1, l1, l2, M1⟩ := readLoop (here := here) (kb rep) (T.length - t) true [] [] (0, 0) t c0 (by omega) ht X0 (XJ.init t) hLn0
  have hLn1 : LnC B n c1 T N ln := hLn0.mod M1 (by decide) (by decide) (by decide)
  have hF1 : FltC c1 f := (hF.mod M0 (by decide) (by decide) (by decide)).mod M1 (by decide) (by decide) (by decide)
  have start : ∀ Q : Int32 → vmD → Prop, Expression_read_205 (kb rep) (kb (xend T N here t).1) (nI (xat T N here t)) c1 Q → Expression_read (nI t) here (kb rep) c Q := by
    intro Q hQ
    unfold Expression_read Expression_begin
    refine bnd_iff.mpr (bnd_iff.mpr (bnd_iff.mpr (bnd_iff.mpr (bnd_iff.mpr (bnd_iff.mpr ?_)))))
    rw [← hc0]
    exact E1 Q hQ
  have hs : xend T N here t = xrun T N here (T.length - t) true [] [] (0, 0) t := rfl
  have ha : xat T N here t = (xend T N here t).2.1 := rfl
  rw [← hs] at X1 J1 l1 l2
  have l2' : xat T N here t < T.length := l2
  have ha31 : xat T N here t < 2 ^ 31 := by omega
  -- the end: trouble is told
  have tell : ∀ (d : vmD) (g : Fl) (s0 : Int32), LnC B n d T N ln → FltC d g → gF d 28 11 = nI (xtr T N here t).1 → (¬ (xtr T N here t).1 = 0 → gF d 28 12 = nI (xtr T N here t).2 ∧ (xtr T N here t).2 < 2 ^ 31) → (xtr T N here t).1 < 6 → ∃ d', (∀ Q : Int32 → vmD → Prop, Q (if s0 = 0 then -1 else nI (xat T N here t)) d' → Expression_read_246 (kb rep) (nI (xat T N here t)) s0 d Q) ∧ FltC d' (if rep = true ∧ ¬ (xtr T N here t).1 = 0 then addF g ln (tk T (xtr T N here t).2).2.1 (xtr T N here t).1 else g) ∧ ModC FF [] [] d d' := by
    intro d g s0 hd hg h11 h12 h6
    have e272 : ∀ (d' : vmD) (Q : Int32 → vmD → Prop), Q (if s0 = 0 then -1 else nI (xat T N here t)) d' → Expression_read_272 (nI (xat T N here t)) s0 d' Q := by
      intro d' Q hQ
      unfold Expression_read_272
      by_cases z : s0 = 0
      · rw [if_pos z] at hQ ⊢
        exact hQ
      · rw [if_neg z] at hQ ⊢
        exact hQ
    have b0 : (0 : Int32) < nI (xtr T N here t).1 ↔ 0 < (xtr T N here t).1 := nI_ltI (a := 0) (by omega) (by omega)
    by_cases e : rep = true ∧ ¬ (xtr T N here t).1 = 0
    · obtain ⟨d', E, F', M⟩ := blameC hd hg (t := (xtr T N here t).2) (k := (xtr T N here t).1) (h12 e.2).2 (by omega)
      refine ⟨d', fun Q hQ => ?_, by rw [if_pos e]; exact F', M⟩
      unfold Expression_read_246
      rw [e.1, if_neg (by decide), h11, if_pos (b0.mpr (by have := e.2; omega)), (h12 e.2).1]
      exact E _ (e272 _ _ hQ)
    · refine ⟨d, fun Q hQ => ?_, by rw [if_neg e]; exact hg, ModC.refl _ _ _ _⟩
      unfold Expression_read_246
      by_cases z : rep = true
      · rw [z, if_neg (by decide), h11, if_neg (fun w => e ⟨z, by have := b0.mp w; omega⟩)]
        exact e272 _ _ hQ
      · rw [if_pos ((kb_0 _).mpr z)]
        exact e272 _ _ hQ
  have mono : ∀ {a b : vmD}, ModC FF [] [] a b → ModC XFF XA [] a b := fun h => h.mono (by decide) (by decide) (by decide)
  have monoX : ∀ {a b : vmD}, ModC XF XA [] a b → ModC XFF XA [] a b := fun h => h.mono (by decide) (by decide) (by decide)
  by_cases ok : xok T N here t = true
  · have ok2 := ok
    unfold xok at ok2
    rw [Bool.and_eq_true, Bool.not_eq_true', decide_eq_true_eq] at ok2
    rw [ok2.1] at J1
    obtain ⟨c2, E2, X2, M2⟩ := settle_ok (L := 1) (by omega) (by omega) X1 J1.1
    obtain ⟨J2, p2, hh⟩ := stl_XJ 1 (by omega) _ _ _ J1
    have eos : (stl 1 (xend T N here t).2.2.1 (xend T N here t).2.2.2.1 (xend T N here t).2.2.2.2).1 = [] := by
      have : parn (stl 1 (xend T N here t).2.2.1 (xend T N here t).2.2.2.1 (xend T N here t).2.2.2.2).1 = 0 := by rw [p2, ok2.2]
      by_cases z : 0 < (stl 1 (xend T N here t).2.2.1 (xend T N here t).2.2.2.1 (xend T N here t).2.2.2.2).1.length
      · obtain ⟨o, os', e⟩ := List.exists_cons_of_length_pos z
        have hl := hh o os' e
        have hinv := J2.1.1
        rw [e] at hinv this
        have h40 : o.1 = 40 := by
          rcases hinv.2.2 with q | q | q
          · exact q
          · omega
          · omega
        have : (if o.1 = 40 then 1 else 0) + parn os' = 0 := this
        rw [if_pos h40] at this
        omega
      · exact List.eq_nil_of_length_eq_zero (by omega)
    have etr : xtr T N here t = (stl 1 (xend T N here t).2.2.1 (xend T N here t).2.2.2.1 (xend T N here t).2.2.2.2).2.2 := by
      unfold xtr
      rw [if_pos ok]
    have ev : ∃ x, (stl 1 (xend T N here t).2.2.1 (xend T N here t).2.2.2.1 (xend T N here t).2.2.2.2).2.1 = [x] := by
      have hlen := J2.1.2.1
      rw [eos] at hlen
      have hlen : (stl 1 (xend T N here t).2.2.1 (xend T N here t).2.2.2.1 (xend T N here t).2.2.2.2).2.1.length + 0 = 0 + 1 := hlen
      exact List.length_eq_one_iff.mp (by omega)
    obtain ⟨x, ev⟩ := ev
    have M12 := M1.trans M2
    have x6 := X2.2.2.2.2.2.1
    have x7 := X2.2.2.2.2.2.2.1
    have x8 := X2.2.2.2.2.2.2.2.1
    have hob := J2.2.1.2
    rw [← etr] at x6 x7 x8 hob
    obtain ⟨c3, E3, F3, M3⟩ := tell c2 f 1 (hLn1.mod M2 (by decide) (by decide) (by decide)) (hF1.mod M2 (by decide) (by decide) (by decide)) x6 (fun z => ⟨x7 z, by have := hob z; omega⟩) x8
    have MM : ModC XFF XA [] c c3 := (monoX ((M0.trans M1).trans M2)).trans (mono M3)
    refine ⟨c3, fun Q hQ => start Q ?_, ?_, fun _ => ?_, MM, l1, l2', hob, x8⟩
    · rw [if_pos ok] at hQ
      unfold Expression_read_205 Expression_read_222
      rw [ok2.1, show kb false = 0 from rfl, if_pos rfl, X1.2.2.2.1, ok2.2, if_pos (show nI 0 = 0 from rfl), if_neg (by decide)]
      refine E2 _ (E3 _ ?_)
      rw [if_neg (by decide)]
      exact hQ
    · unfold xfl
      rw [if_pos ok]
      exact F3
    · have v31 := X2.2.2.2.2.2.2.2.2.2.2.1
      have v32 := X2.2.2.2.2.2.2.2.2.2.2.2
      rw [ev] at v31 v32
      have hA : gA c3 = gA c2 := funext (fun o => M3.2.1 o (by simp))
      rw [hA]
      refine ⟨?_, ?_⟩
      · unfold xvl
        rw [ev]
        exact v31.1
      · have hk := J2.2.2
        rw [← etr, ev] at hk
        have e1 : gA c2 32 0 = kb x.2 := v32.1
        rw [e1]
        by_cases z : (xtr T N here t).1 = 0
        · rw [hk.1 z x (List.mem_singleton.mpr rfl), decide_eq_true z]
        · obtain ⟨y, hy, hf⟩ := hk.2 z
          obtain rfl := List.mem_singleton.mp hy
          rw [hf, decide_eq_false z]
  · have etr : xtr T N here t = (xend T N here t).2.2.2.2 := by
      unfold xtr
      rw [if_neg ok]
    have x6 := X1.2.2.2.2.2.1
    have x7 := X1.2.2.2.2.2.2.1
    have x8 := X1.2.2.2.2.2.2.2.1
    have hob := J1.2.1.2
    rw [← etr] at x6 x7 x8 hob
    obtain ⟨c2, E2, F2, M2⟩ := refuseC hLn1 hF1 (t := xat T N here t) ha31
    have k11 : gF c2 28 = gF c1 28 := funext (fun g => M2.1 28 g (by simp))
    obtain ⟨c3, E3, F3, M3⟩ := tell c2 _ 0 (hLn1.flt M2) F2 (by rw [k11]; exact x6) (fun z => ⟨by rw [k11]; exact x7 z, by have := hob z; omega⟩) x8
    have MM : ModC XFF XA [] c c3 := (monoX (M0.trans M1)).trans (mono (M2.trans M3))
    refine ⟨c3, fun Q hQ => start Q ?_, ?_, fun z => absurd z ok, MM, l1, l2', hob, x8⟩
    · rw [if_neg ok] at hQ
      have e222 : Expression_read_222 (kb rep) (nI (xat T N here t)) 0 c1 Q := by
        unfold Expression_read_222
        rw [if_pos rfl]
        refine E2 _ (E3 _ ?_)
        rw [if_pos rfl]
        exact hQ
      unfold Expression_read_205 Expression_read_221
      by_cases z : (xend T N here t).1 = true
      · rw [z, show kb true = 1 from rfl, if_neg (by decide)]
        exact e222
      · have z' : (xend T N here t).1 = false := by rw [← Bool.not_eq_true]; exact z
        rw [z', show kb false = 0 from rfl, if_pos rfl, X1.2.2.2.1]
        have np : ¬ parn (xend T N here t).2.2.1 = 0 := by
          intro w
          apply ok
          unfold xok
          rw [z', decide_eq_true w]
          rfl
        have hp := parn_le (xend T N here t).2.2.1
        have h40 := J1.1.2.2
        rw [if_neg (show ¬ nI (parn (xend T N here t).2.2.1) = 0 from fun w => np ((nI_eq (b := 0) (by omega) (by omega)).mp w))]
        exact e222
    · unfold xfl
      rw [if_neg ok]
      exact F3
