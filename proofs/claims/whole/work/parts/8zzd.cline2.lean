/-! Lines that are done, the class's side; lines that aren't, on both sides -/
theorem linC {B : Nat → Nat} {n : Nat} {c : vmD} {T : List Tk} {N : Nt} {ln wh h : Nat} {cs : Cs} {P : Pt} {f : Fl} (hSr : SrcC B n c) (hS : StC B n c T N ln wh h cs P) (hF : FltC c f) (h0 : f.2.2 = 0) (hw4 : wh < 4) (hh : h ≤ 65536) (hp : P.2.1 < 2 ^ 27) (hw : wh = 1 ∨ stF B T N h cs (lt0 T) = none) : StOut B n c T ln wh f (fun c Q => Forger_tellLabel c fun r_26 d_25 => if r_26 < 0 then Q d_25 else Forger_readStatement r_26 d_25 fun d_28 => Q d_28) (liF B wh T N h cs) (liN wh T N h) (stH B T (lbN wh T N h) h (lt0 T)) (stCs T (lbN wh T N h) h cs (lt0 T)) (ptW wh h (stO B T (lbN wh T N h) h (lt0 T)) P) := by
  obtain ⟨hLn, h9, h11, hC, hP⟩ := id hS
  have hL := hLn.2.1
  have hT := hL.1
  have hk0 := tk_kd hL 0
  have hk1 := tk_kd hL 1
  have k2 : nI (tk T 0).1 = 2 ↔ (tk T 0).1 = 2 := nI_eq (b := 2) (by omega) (by omega)
  have k58 : nI (tk T 1).1 = 58 ↔ (tk T 1).1 = 58 := nI_eq (b := 58) (by omega) (by omega)
  have kd0 : ∀ Q : Int32 → vmD → Prop, Tokens_kind 0 c Q = Q (nI (tk T 0).1) c := fun Q => kindC hLn.2.2.1 (t := 0) (by omega) Q
  have kd1 : ∀ Q : Int32 → vmD → Prop, Tokens_kind 1 c Q = Q (nI (tk T 1).1) c := fun Q => kindC hLn.2.2.1 (t := 1) (by omega) Q
  by_cases z : (tk T 0).1 = 2 ∧ (tk T 1).1 = 58
  · have eB : lbB T = true := by
      unfold lbB
      rw [decide_eq_true z.1, decide_eq_true z.2]
      rfl
    have eT : lt0 T = 2 := if_pos eB
    have eN : lbN wh T N h = tlN wh T N 0 (nI h) := if_pos eB
    have eF : lbF wh T N = frF wh T N 0 := if_pos eB
    have ht1 : 1 < T.length := more hL hT (by omega)
    have ht2 : 2 < T.length := more hL ht1 (by omega)
    unfold liF liN
    rw [eF, eN, eT]
    rw [eT] at hw
    obtain ⟨c1, E1, F1, M1⟩ := canC hLn hF h9 hw4 (t := 0) hT z.1 (Or.inl h0)
    have hS1 : StC B n c1 T N ln wh h cs P := hS.mod M1 (by decide) (by decide) (by decide)
    have start : ∀ Q : vmD → Prop, (if kb (decide (frF wh T N 0 = none)) = 0 then Q c1 else (Forger_tell 0 (gF c1 20 11) c1 fun d_10 => Forger_readStatement 2 d_10 fun d_28 => Q d_28)) → (Forger_tellLabel c fun r_26 d_25 => if r_26 < 0 then Q d_25 else Forger_readStatement r_26 d_25 fun d_28 => Q d_28) := by
      intro Q hQ
      unfold Forger_tellLabel
      rw [kd0, if_pos (k2.mpr z.1), kd1, if_pos (k58.mpr z.2)]
      refine E1 _ ?_
      by_cases y : kb (decide (frF wh T N 0 = none)) = 0
      · rw [if_pos y] at hQ ⊢
        dsimp only
        rw [if_pos (by decide)]
        exact hQ
      · rw [if_neg y] at hQ ⊢
        simp only [if_neg (show ¬ (2 : Int32) < 0 by decide)]
        exact hQ
    cases eG : frF wh T N 0 with
    | some q =>
      rw [eG] at F1 start
      refine ⟨c1, fun Q hQ => start Q ?_, F1, fun hn => (by cases hn), modFF M1⟩
      rw [decide_eq_false (fun q => by cases q), if_pos (show kb false = 0 from rfl)]
      exact hQ
    | none =>
      rw [eG, setF_none] at F1
      rw [eG] at start
      rw [thF_none]
      obtain ⟨c2, E2, S2, M2⟩ := tellC hS1 hw4 (t := 0) hT z.1 eG (nI h)
      have F2 : FltC c2 f := F1.mod M2 (by decide) (by decide) (by decide)
      have hSr2 : SrcC B n c2 := (hSr.mod M1 (by decide) (by decide)).mod M2 (by decide) (by decide)
      have hw2 : wh = 1 ∨ stF B T (tlN wh T N 0 (nI h)) h cs 2 = none := by
        by_cases y : wh = 1
        · exact Or.inl y
        · have : tlN wh T N 0 (nI h) = N := if_neg y
          rw [this]
          exact hw
      obtain ⟨c3, E3, F3, S3, M3⟩ := stmC hSr2 S2 F2 h0 hw4 hh hp (t := 2) ht2 hw2
      refine ⟨c3, fun Q hQ => start Q ?_, F3, S3, ((modFF M1).trans (M2.toS (by decide) (by decide) (by decide) (by decide))).trans M3⟩
      rw [decide_eq_true rfl, if_neg (show ¬ kb true = 0 by decide), hS1.2.2.1]
      exact E2 _ (E3 Q hQ)
  · have eB : ¬ lbB T = true := by
      unfold lbB
      rw [Bool.and_eq_true, decide_eq_true_eq, decide_eq_true_eq]
      exact z
    have eT : lt0 T = 0 := if_neg eB
    have eN : lbN wh T N h = N := if_neg eB
    have eF : lbF wh T N = none := if_neg eB
    unfold liF liN
    rw [eF, eN, eT, thF_none]
    rw [eT] at hw
    obtain ⟨c3, E3, F3, S3, M3⟩ := stmC hSr hS hF h0 hw4 hh hp (t := 0) hT hw
    refine ⟨c3, fun Q hQ => ?_, F3, S3, M3⟩
    have go : Forger_readStatement 0 c fun d_28 => Q d_28 := E3 Q hQ
    show Forger_tellLabel c fun r_26 d_25 => if r_26 < 0 then Q d_25 else Forger_readStatement r_26 d_25 fun d_28 => Q d_28
    unfold Forger_tellLabel
    rw [kd0]
    by_cases y : (tk T 0).1 = 2
    · rw [if_pos (k2.mpr y), kd1, if_neg (fun q => z ⟨y, k58.mp q⟩)]
      dsimp only
      rw [if_neg (by decide)]
      exact go
    · rw [if_neg (fun q => y (k2.mp q))]
      dsimp only
      rw [if_neg (by decide)]
      exact go
/-- places in a line -/
theorem lex_pl {B : Nat → Nat} {n e : Nat} : ∀ f p, p ≤ n → n + 1 ≤ p + f → lineEnd B n p e → ∀ t, t < (lexT B n e f p).length → p ≤ (tk (lexT B n e f p) t).2.2.1 ∧ (tk (lexT B n e f p) t).2.2.1 ≤ e := by
  intro f
  induction f with
  | zero => intro p hp hf; omega
  | succ f ih =>
    intro p hp hf hl t ht
    have hq := sc_le (P := blk) (B := B) hp
    have hq2 := (hl.on hq.1 (free_sc (B := B) hp blk_10)).1
    unfold lexT at ht ⊢
    by_cases c0 : (tokF B n (sc blk B n p)).1 = 0
    · rw [if_pos c0] at ht ⊢
      have : t = 0 := by
        have : t < 1 := ht
        omega
      subst this
      exact ⟨hq.1, hq2⟩
    · rw [if_neg c0] at ht ⊢
      by_cases c1 : (tokF B n (sc blk B n p)).1 = 1
      · rw [if_pos c1] at ht ⊢
        have : t = 0 := by
          have : t < 1 := ht
          omega
        subst this
        exact ⟨hq.1, hq2⟩
      · rw [if_neg c1] at ht ⊢
        obtain ⟨f1, f2⟩ := tok_free hq.2 c0 c1
        have hf2 : free10 B n p (tokF B n (sc blk B n p)).2.1 := by
          intro i h1 h2
          by_cases z : i < sc blk B n p
          · exact free_sc (B := B) hp blk_10 i h1 z
          · exact f2 i (by omega) h2
        have hl2 := hl.on (by omega) hf2
        cases t with
        | zero =>
          rw [tk_cons0]
          exact ⟨by show p ≤ (tokF B n (sc blk B n p)).2.1; omega, hl2.1⟩
        | succ t =>
          rw [tk_consS]
          rw [List.length_cons] at ht
          have := ih (tokF B n (sc blk B n p)).2.1 (by have := hl2.1; have := hl2.2.1; omega) (by omega) hl2 t (by omega)
          exact ⟨by omega, this.2⟩
/-- names in lines that aren't done -/
def kyA (B : Nat → Nat) (n q : Nat) : Nat := if 12 < nmE B n q - q then 0 else keyD B q (nmE B n q - q)
def wdA (B : Nat → Nat) (n q : Nat) : Int64 := if 8 < nmE B n q - q then 0 else lN (wdN B q (nmE B n q - q))
def rlP (B : Nat → Nat) (n p : Nat) : Option Nat :=
  if nmE B n (sc blk B n p) = sc blk B n p then none
  else if byR B n (sc blk B n (nmE B n (sc blk B n p))) = 58 then (if nmE B n (sc blk B n (sc blk B n (nmE B n (sc blk B n p)) + 1)) = sc blk B n (sc blk B n (nmE B n (sc blk B n p)) + 1) then none else some (sc blk B n (sc blk B n (nmE B n (sc blk B n p)) + 1)))
  else some (sc blk B n p)
def isR (w : Nat) : Bool := decide (w = 104) || (decide (w = 105) || decide (w = 106))
def skF (B : Nat → Nat) (n p : Nat) (cs : Cs) : Fo := match rlP B n p with
  | none => none
  | some q => if isR (idN (kyA B n q)) = true ∧ ¬ alw (idN (kyA B n q)) cs = true then some (7, q) else none
def skC (B : Nat → Nat) (n p : Nat) (cs : Cs) : Cs := match rlP B n p with
  | none => cs
  | some q => if isR (idN (kyA B n q)) = true then pas (idN (kyA B n q)) false cs else cs
theorem nmE_le {B : Nat → Nat} {n p : Nat} (hp : p ≤ n) : p ≤ nmE B n p ∧ nmE B n p ≤ n := by
  unfold nmE
  split
  · exact sc_le hp
  · exact ⟨Nat.le_refl _, hp⟩
theorem isR_w {w : Nat} : isR w = true ↔ w = 104 ∨ w = 105 ∨ w = 106 := by
  unfold isR
  rw [Bool.or_eq_true, Bool.or_eq_true, decide_eq_true_eq, decide_eq_true_eq, decide_eq_true_eq]
theorem kyA_lt (B : Nat → Nat) (n q : Nat) : kyA B n q < 38 ^ 12 := by
  unfold kyA
  split
  · exact Nat.pow_pos (by omega)
  · exact Nat.lt_of_lt_of_le (keyD_lt B q _) (Nat.pow_le_pow_right (by omega) (by omega))
/-- the class's state between lines -/
def BtC (B : Nat → Nat) (n : Nat) (c : vmD) (N : Nt) (wh h : Nat) (cs : Cs) (P : Pt) : Prop := SrcOk B n ∧ SrcC B n c ∧ FnC c N ∧ CC c ∧ gF c 20 9 = nI wh ∧ gF c 20 11 = nI h ∧ CsC c cs ∧ PtC c P
theorem ruleC {B : Nat → Nat} {n p : Nat} {c : vmD} (hO : SrcOk B n) (hSr : SrcC B n c) (hp : p ≤ n) (Q : Int32 → vmD → Prop) (hQ : Q (match rlP B n p with | none => -1 | some q => nI q) c) : Tokens_rulingPlace (nI p) c Q := by
  have hn := hO.1
  obtain ⟨a, ha⟩ : ∃ a, a = sc blk B n p := ⟨_, rfl⟩
  have la := sc_le (P := blk) (B := B) hp
  rw [← ha] at la
  have lb := nmE_le (B := B) la.2
  obtain ⟨b, hb⟩ : ∃ b, b = nmE B n a := ⟨_, rfl⟩
  rw [← hb] at lb
  have lc := sc_le (P := blk) (B := B) lb.2
  obtain ⟨d, hd⟩ : ∃ d, d = sc blk B n b := ⟨_, rfl⟩
  rw [← hd] at lc
  unfold rlP at hQ
  rw [← ha, ← hb, ← hd] at hQ
  unfold Tokens_rulingPlace
  refine skipC hO hSr _ p hp ?_
  rw [← ha]
  refine nmEndC hO hSr _ la.2 ?_
  rw [← hb]
  refine skipC hO hSr _ b lb.2 ?_
  rw [← hd]
  have cab : nI b = nI a ↔ b = a := nI_eq (by omega) (by omega)
  by_cases z : b = a
  · rw [if_pos (cab.mpr z)]
    rw [if_pos z] at hQ
    unfold Tokens_rulingPlace_38
    rw [if_pos (cab.mpr z)]
    exact hQ
  · rw [if_neg (fun q => z (cab.mp q))]
    rw [if_neg z] at hQ
    rw [atC hO hSr (by omega)]
    by_cases y : byR B n d = 58
    · have hdn : d < n := in_of (by rw [y]; omega)
      have e58 : byC B n d = 58 := by
        rw [byC_in hdn]
        rw [byR_in hdn] at y
        rw [y]
        rfl
      rw [if_pos e58, nI_p1]
      rw [if_pos y] at hQ
      have lf := sc_le (P := blk) (B := B) (p := d + 1) (n := n) (by omega)
      obtain ⟨g, hg⟩ : ∃ g, g = sc blk B n (d + 1) := ⟨_, rfl⟩
      rw [← hg] at lf hQ
      have lg := nmE_le (B := B) lf.2
      refine skipC hO hSr _ (d + 1) (by omega) ?_
      rw [← hg]
      refine nmEndC hO hSr _ lf.2 ?_
      have cg : nI (nmE B n g) = nI g ↔ nmE B n g = g := nI_eq (by omega) (by omega)
      by_cases x : nmE B n g = g
      · rw [if_pos (cg.mpr x)]
        rw [if_pos x] at hQ
        exact hQ
      · rw [if_neg (fun q => x (cg.mp q))]
        rw [if_neg x] at hQ
        exact hQ
    · have ne : ¬ byC B n d = 58 := by
        by_cases x : d < n
        · rw [byC_in x]
          rw [byR_in x] at y
          exact fun q => y ((nI_eq (b := 58) (by have := hO.2 d; omega) (by omega)).mp q)
        · rw [byC_out (by omega)]
          decide
      rw [if_neg ne]
      rw [if_neg y] at hQ
      unfold Tokens_rulingPlace_38
      rw [if_neg (fun q => z (cab.mp q))]
      exact hQ
theorem rlP_n {B : Nat → Nat} {n p q : Nat} (hp : p ≤ n) (h : rlP B n p = some q) : p ≤ q ∧ q ≤ n ∧ ¬ nmE B n q = q := by
  have la := sc_le (P := blk) (B := B) hp
  have lb := nmE_le (B := B) la.2
  have lc := sc_le (P := blk) (B := B) lb.2
  unfold rlP at h
  split at h
  · cases h
  · rename_i z
    split at h
    · rename_i y
      have hdn := in_of (show ¬ byR B n (sc blk B n (nmE B n (sc blk B n p))) = 10 by rw [y]; omega)
      have ld := sc_le (P := blk) (B := B) (n := n) (p := sc blk B n (nmE B n (sc blk B n p)) + 1) (by omega)
      split at h
      · cases h
      · rename_i x
        cases h
        exact ⟨by omega, ld.2, x⟩
    · cases h
      exact ⟨la.1, la.2, z⟩
theorem skpC {B : Nat → Nat} {n p : Nat} {c : vmD} {N : Nt} {ln wh h : Nat} {cs : Cs} {P : Pt} {f : Fl} (hB : BtC B n c N wh h cs P) (hl : gF c 24 6 = nI ln) (hl2 : ln < 65536) (hF : FltC c f) (h0 : f.2.2 = 0) (hp : p ≤ n) : ∃ c', (∀ Q : vmD → Prop, Q c' → Forger_passOver (nI p) c Q) ∧ FltC c' (setF ln (skF B n p cs) f) ∧ (skF B n p cs = none → BtC B n c' N wh h (skC B n p cs) P) ∧ ModS wh c c' := by
  obtain ⟨hO, hSr, hN, hCC, h9, h11, hC, hP⟩ := id hB
  have hn := hO.1
  have p12 : (38 : Nat) ^ 12 < 2 ^ 63 := by decide
  cases e : rlP B n p with
  | none =>
    have e1 : skF B n p cs = none := by unfold skF; rw [e]
    have e2 : skC B n p cs = cs := by unfold skC; rw [e]
    rw [e1, e2, setF_none]
    refine ⟨c, fun Q hQ => ?_, hF, fun _ => hB, ModS.refl _ _⟩
    unfold Forger_passOver
    refine ruleC hO hSr hp _ ?_
    rw [e]
    dsimp only
    rw [if_pos (by decide)]
    unfold Forger_passOver_32
    rw [if_neg (by decide), if_neg (by decide), if_neg (by decide)]
    exact hQ
  | some q =>
    obtain ⟨q1, q2, q3⟩ := rlP_n hp e
    have lq := nmE_le (B := B) q2
    obtain ⟨w, hw⟩ : ∃ w, w = idN (kyA B n q) := ⟨_, rfl⟩
    have hid : w < 107 := by rw [hw]; exact idN_lt _
    have e1 : skF B n p cs = (if isR w = true ∧ ¬ alw w cs = true then some (7, q) else none) := by unfold skF; rw [e, hw]
    have e2 : skC B n p cs = (if isR w = true then pas w false cs else cs) := by unfold skC; rw [e, hw]
    have start : ∀ Q : vmD → Prop, Forger_passOver_32 (nI q) (nI w) c Q → Forger_passOver (nI p) c Q := by
      intro Q hQ
      unfold Forger_passOver
      refine ruleC hO hSr hp _ ?_
      rw [e]
      dsimp only
      rw [if_neg (nI_pos (by omega))]
      unfold Tokens_keyAt
      refine nmEndC hO hSr _ q2 ?_
      refine keyC hO hSr _ lq.2 lq.1 ?_
      have : (if 12 < nmE B n q - q then 0 else keyD B q (nmE B n q - q)) = kyA B n q := rfl
      rw [this]
      refine idOfC hCC (Nat.lt_trans (kyA_lt B n q) p12) _ ?_
      rw [← hw]
      exact hQ
    have c104 : nI w = 104 ↔ w = 104 := nI_eq (b := 104) (by omega) (by omega)
    have c105 : nI w = 105 ↔ w = 105 := nI_eq (b := 105) (by omega) (by omega)
    have c106 : nI w = 106 ↔ w = 106 := nI_eq (b := 106) (by omega) (by omega)
    by_cases z : w = 104 ∨ w = 105 ∨ w = 106
    · have zr := isR_w.mpr z
      have start : ∀ Q : vmD → Prop, Forger_passOver_52 (nI q) (nI w) c Q → Forger_passOver (nI p) c Q := by
        intro Q hQ
        refine start Q ?_
        unfold Forger_passOver_32
        by_cases y4 : w = 104
        · rw [if_pos (c104.mpr y4)]
          exact hQ
        · rw [if_neg (fun v => y4 (c104.mp v))]
          by_cases y5 : w = 105
          · rw [if_pos (c105.mpr y5)]
            exact hQ
          · rw [if_neg (fun v => y5 (c105.mp v)), if_pos (c106.mpr (by omega))]
            exact hQ
      by_cases ha : alw w cs = true
      · rw [e1, e2, if_neg (fun v => v.2 ha), if_pos zr, setF_none]
        obtain ⟨c', E, C', M⟩ := pasC hC z false
        refine ⟨c', fun Q hQ => start Q ?_, hF.mod M (by decide) (by decide) (by decide), fun _ => ⟨hO, hSr.mod M (by decide) (by decide), hN.mod M (by decide) (by decide) (by decide), hCC.mod M (by decide) (by decide) (by decide) (by decide), ?_, ?_, C' ha, hP.mod M (by decide) (by decide) (by decide)⟩, M.toS (by decide) (by decide) (by decide) (by decide)⟩
        · unfold Forger_passOver_52
          rw [alwC hC z, ha, if_neg (show ¬ kb true = 0 by decide)]
          unfold Forger_passOver_73
          exact E _ hQ
        · rw [M.1 20 9 (by decide)]
          exact h9
        · rw [M.1 20 11 (by decide)]
          exact h11
      · rw [e1, if_pos ⟨zr, ha⟩]
        obtain ⟨c1, E1, F1, M1⟩ := addC hF (l := ln) (p := q) (k := 7) hl2 (by omega) (by omega)
        have hC1 : CsC c1 cs := hC.mod M1 (by decide) (by decide)
        obtain ⟨c2, E2, -, M2⟩ := pasC hC1 z false
        have F1' : FltC c1 (setF ln (some (7, q)) f) := by
          rw [← setF_add (Or.inl h0)]
          exact F1
        refine ⟨c2, fun Q hQ => start Q ?_, F1'.mod M2 (by decide) (by decide) (by decide), fun v => (by cases v), (modFF M1).trans (M2.toS (by decide) (by decide) (by decide) (by decide))⟩
        unfold Forger_passOver_52
        rw [alwC hC z, Bool.eq_false_iff.mpr ha, if_pos (show kb false = 0 from rfl)]
        unfold Tokens_blamePlace
        rw [hl]
        refine E1 _ ?_
        unfold Forger_passOver_73
        exact E2 _ hQ
    · have zr : ¬ isR w = true := fun v => z (isR_w.mp v)
      rw [e1, e2, if_neg (fun v => zr v.1), if_neg zr, setF_none]
      refine ⟨c, fun Q hQ => start Q ?_, hF, fun _ => hB, ModS.refl _ _⟩
      unfold Forger_passOver_32
      rw [if_neg (fun v => z (Or.inl (c104.mp v))), if_neg (fun v => z (Or.inr (Or.inl (c105.mp v)))), if_neg (fun v => z (Or.inr (Or.inr (c106.mp v))))]
      exact hQ
