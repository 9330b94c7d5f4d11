/-! A pass of the class -/
def OK8 (n : Nat) (F : Fo) : Prop := ∀ q, F = some q → 0 < q.1 ∧ q.1 < 10 ∧ q.2 ≤ n ∧ (q.1 < 8 ∨ q.2 < n)
theorem OK8.none (n : Nat) : OK8 n none := fun q h => by cases h
theorem OK8.th {n : Nat} {F G : Fo} (h : OK8 n F) (g : OK8 n G) : OK8 n (thF F G) := by
  cases F with
  | none => exact g
  | some q => exact h
theorem OK8.lt {n k p : Nat} (h0 : 0 < k) (h8 : k < 8) (hp : p ≤ n) : OK8 n (some (k, p)) := by
  intro q h
  cases h
  exact ⟨h0, by show k < 10; omega, hp, Or.inl h8⟩
theorem OK8.ite {n : Nat} {c : Prop} [Decidable c] {F G : Fo} (h : OK8 n F) (g : OK8 n G) : OK8 n (if c then F else G) := by
  split
  · exact h
  · exact g
theorem pl_n {B : Nat → Nat} {n : Nat} {T : List Tk} (hL : Lx B n T) (t : Nat) : plaT T t ≤ n := by
  unfold plaT
  by_cases e : t < T.length
  · exact (hL.2.2 t e).2.2.2.2.2.1
  · rw [tk_out (by omega)]
    exact Nat.zero_le _
theorem ok_rf {B : Nat → Nat} {n : Nat} {T : List Tk} (hL : Lx B n T) (t : Nat) : OK8 n (rfF T t) := OK8.lt (rfc_12 T t).1 (by have : rfc T t ≤ 2 := by { unfold rfc; split <;> omega }; omega) (pl_n hL t)
theorem ok_end {B : Nat → Nat} {n : Nat} {T : List Tk} (hL : Lx B n T) (t : Nat) : OK8 n (endF T t) := OK8.ite (OK8.none _) (ok_rf hL t)
theorem ok_xS {B : Nat → Nat} {n : Nat} {T : List Tk} (hL : Lx B n T) (N : Nt) (here : Int32) (t : Nat) : OK8 n (xS T N here t) := OK8.ite (OK8.none _) (ok_rf hL _)
theorem ok_xT {B : Nat → Nat} {n : Nat} {T : List Tk} (hL : Lx B n T) (N : Nt) (here : Int32) (t : Nat) : OK8 n (xT T N here t) := by
  have := xtr_6 T N here t
  unfold xT
  split
  · exact OK8.none _
  · exact OK8.lt (by omega) (by omega) (pl_n hL _)
theorem ok_xF {B : Nat → Nat} {n : Nat} {T : List Tk} (hL : Lx B n T) (N : Nt) (here : Int32) (t : Nat) : OK8 n (xF T N here t) := (ok_xT hL N here t).th (ok_xS hL N here t)
theorem ok_rg {B : Nat → Nat} {n : Nat} {T : List Tk} (hL : Lx B n T) (v lo hi : Int32) (t : Nat) : OK8 n (rgF v lo hi (plaT T t)) := OK8.ite (OK8.lt (by omega) (by omega) (pl_n hL t)) (OK8.ite (OK8.lt (by omega) (by omega) (pl_n hL t)) (OK8.none _))
theorem ok_nm {B : Nat → Nat} {n : Nat} {T : List Tk} (hL : Lx B n T) (N : Nt) (here : Int32) (t : Nat) (lo hi : Int32) : OK8 n (nmF T N here t lo hi) := (ok_xF hL N here t).th (ok_rg hL _ _ _ t)
theorem ok_go {B : Nat → Nat} {n : Nat} {T : List Tk} (hL : Lx B n T) {t : Nat} (ht : t + 1 < T.length) (h s : Nat) : OK8 n (goF T t h s) := by
  have h1 := pl_lt hL (t + 1) t (Nat.lt_succ_self t) ht
  have h2 := pl_n hL (t + 1)
  refine OK8.ite ?_ (OK8.none _)
  intro q e
  cases e
  exact ⟨by show 0 < 8; omega, by show 8 < 10; omega, pl_n hL t, Or.inr (by show plaT T t < n; omega)⟩
theorem ok_it {B : Nat → Nat} {n : Nat} {T : List Tk} (hL : Lx B n T) (o : Bool) (N : Nt) (here : Int32) (p : Nat) : OK8 n (itS o T N here p) ∧ OK8 n (itF o T N here p) := ⟨OK8.ite (OK8.none _) (ok_xS hL N here p), OK8.ite (OK8.none _) (ok_nm hL N here p _ _)⟩
theorem ok_dt {B : Nat → Nat} {n : Nat} {T : List Tk} (hL : Lx B n T) (o : Bool) (N : Nt) (here : Int32) : ∀ f p, OK8 n (dtS o T N here f p) ∧ OK8 n (dtF o T N here f p) := by
  intro f
  induction f with
  | zero => intro p; exact ⟨OK8.none _, OK8.none _⟩
  | succ f ih =>
    intro p
    obtain ⟨a, b⟩ := ok_it hL o N here p
    exact ⟨a.th (OK8.ite (ih _).1 (ok_end hL _)), b.th (OK8.ite (ih _).2 (OK8.none _))⟩
theorem ok_stF {B : Nat → Nat} {n : Nat} {T : List Tk} (hL : Lx B n T) {t : Nat} (N : Nt) (h : Nat) (cs : Cs) (ht : t < T.length) : OK8 n (stF B T N h cs t) := by
  unfold stF
  by_cases z0 : (tk T t).1 = 0
  · rw [if_pos z0]
    exact OK8.none _
  rw [if_neg z0]
  by_cases z2 : (tk T t).1 = 2
  · have ht1 : t + 1 < T.length := more hL ht (by omega)
    rw [if_neg (fun q => q z2)]
    refine OK8.ite ((ok_xF hL _ _ _).th (ok_end hL _)) (OK8.ite ?_ (OK8.ite ((ok_nm hL _ _ _ _ _).th (ok_end hL _)) (OK8.ite ((ok_dt hL true _ _ _ _).1.th (ok_go hL ht1 _ _)) (OK8.ite ((ok_dt hL false _ _ _ _).1.th (ok_go hL ht1 _ _)) (OK8.ite ((ok_nm hL _ _ _ _ _).th ((OK8.ite (ok_xS hL _ _ _) (OK8.none _)).th ((ok_end hL _).th (ok_go hL ht1 _ _)))) (OK8.ite ?_ (OK8.lt (by omega) (by omega) (pl_n hL t))))))))
    · unfold inF
      split
      · split
        · exact OK8.lt (by omega) (by omega) (pl_n hL t)
        · exact ok_go hL ht1 _ _
      · exact ok_rf hL _
    · exact OK8.ite (OK8.ite ((ok_xF hL _ _ _).th (ok_end hL _)) (ok_end hL _)) (OK8.lt (by omega) (by omega) (pl_n hL t))
  · rw [if_pos z2]
    exact ok_rf hL t
theorem ok_stB {B : Nat → Nat} {n : Nat} {T : List Tk} (hL : Lx B n T) {t : Nat} (N : Nt) (h : Nat) : OK8 n (stB T N h t) := by
  unfold stB
  refine OK8.ite (OK8.none _) (OK8.ite (OK8.none _) (OK8.ite (OK8.none _) (OK8.ite ?_ (OK8.ite (OK8.none _) (OK8.ite (ok_dt hL true _ _ _ _).2 (OK8.ite (ok_dt hL false _ _ _ _).2 (OK8.ite (OK8.ite (ok_nm hL _ _ _ _ _) (OK8.none _)) (OK8.none _))))))))
  unfold inBo
  split
  · exact OK8.none _
  · have one : ∀ i x : Nat, OK8 n (thF (opA T N (nI h) (t + 1) i) (opR T N (nI h) (t + 1) h x i)) := by
      intro i x
      refine OK8.th ?_ ?_
      · unfold opA
        split
        · split
          · exact OK8.none _
          · exact ok_xT hL _ _ _
        · exact OK8.none _
      · unfold opR
        split
        · split
          · exact OK8.none _
          · exact OK8.ite (OK8.lt (by omega) (by omega) (pl_n hL _)) (OK8.none _)
        · exact OK8.none _
    exact (one 0 _).th (one 1 _)
theorem ok_fr {B : Nat → Nat} {n : Nat} {T : List Tk} (hL : Lx B n T) (wh : Nat) (N : Nt) (t : Nat) : OK8 n (frF wh T N t) := OK8.ite (OK8.lt (by omega) (by omega) (pl_n hL t)) (OK8.none _)
theorem lt0_lt {B : Nat → Nat} {n : Nat} {T : List Tk} (hL : Lx B n T) : lt0 T < T.length := by
  unfold lt0
  by_cases z : lbB T = true
  · rw [if_pos z]
    unfold lbB at z
    rw [Bool.and_eq_true, decide_eq_true_eq, decide_eq_true_eq] at z
    have ht1 : 1 < T.length := more hL hL.1 (by omega)
    exact more hL ht1 (by omega)
  · rw [if_neg z]
    exact hL.1
theorem ok_li {B : Nat → Nat} {n : Nat} {T : List Tk} (hL : Lx B n T) (wh : Nat) (N : Nt) (h : Nat) (cs : Cs) : OK8 n (liF B wh T N h cs) := by
  unfold liF
  refine OK8.th (OK8.ite (ok_fr hL _ _ _) (OK8.none _)) (OK8.ite (OK8.th ?_ (ok_stF hL _ _ _ (lt0_lt hL))) (OK8.ite (ok_stB hL _ _) (OK8.none _)))
  exact OK8.ite (ok_fr hL _ _ _) (OK8.none _)
theorem ok_sk {B : Nat → Nat} {n p : Nat} (hp : p ≤ n) (cs : Cs) : OK8 n (skF B n p cs) := by
  unfold skF
  cases e : rlP B n p with
  | none => exact OK8.none _
  | some q => exact OK8.ite (OK8.lt (by omega) (by omega) (rlP_n hp e).2.1) (OK8.none _)
abbrev VF : List (Nat × Nat) := [(28, 6), (28, 7), (28, 8), (28, 9), (28, 10), (28, 11), (28, 12), (21, 0), (21, 1), (21, 2), (33, 7), (33, 8), (20, 11), (20, 12), (20, 13), (22, 1), (3, 6), (20, 10), (24, 5), (24, 6)]
abbrev VA : List Nat := [29, 30, 31, 32, 34, 35, 36, 37, 2, 23, 8, 25, 26]
abbrev VL : List Nat := [7, 27]
def ModW (wh : Nat) (c c' : vmD) : Prop := ModC VF VA VL c c' ∧ (¬ wh = 3 → gA c' 2 = gA c 2)
theorem ModW.trans {wh : Nat} {a b c : vmD} (h : ModW wh a b) (g : ModW wh b c) : ModW wh a c := ⟨h.1.trans g.1, fun w => (g.2 w).trans (h.2 w)⟩
theorem ModW.refl (wh : Nat) (c : vmD) : ModW wh c c := ⟨ModC.refl _ _ _ _, fun _ => rfl⟩
theorem ModC.toW {wh : Nat} {F : List (Nat × Nat)} {A L : List Nat} {c c' : vmD} (h : ModC F A L c c') (hF : ∀ x, x ∈ F → x ∈ VF) (hA : ∀ x, x ∈ A → x ∈ VA) (hL : ∀ x, x ∈ L → x ∈ VL) (h2 : ¬ 2 ∈ A) : ModW wh c c' := ⟨h.mono hF hA hL, fun _ => h.2.1 2 h2⟩
theorem modV {wh : Nat} {c c' : vmD} (h : ModS wh c c') : ModW wh c c' := ⟨h.1.mono (by decide) (by decide) (by decide), h.2⟩
theorem BtC.mod {B : Nat → Nat} {n : Nat} {F : List (Nat × Nat)} {A L : List Nat} {c c' : vmD} {N : Nt} {wh h : Nat} {cs : Cs} {P : Pt} (hB : BtC B n c N wh h cs P) (M : ModC F A L c c') (hF : ¬ (9, 1) ∈ F ∧ ¬ (3, 6) ∈ F ∧ ¬ (20, 9) ∈ F ∧ ¬ (20, 11) ∈ F ∧ ¬ (22, 1) ∈ F ∧ ¬ (20, 12) ∈ F ∧ ¬ (20, 13) ∈ F) (hA : ¬ 10 ∈ A ∧ ¬ 8 ∈ A ∧ ¬ 16 ∈ A ∧ ¬ 17 ∈ A ∧ ¬ 18 ∈ A ∧ ¬ 23 ∈ A ∧ ¬ 2 ∈ A) (hL : ¬ 7 ∈ L ∧ ¬ 4 ∈ L) : BtC B n c' N wh h cs P := by
  obtain ⟨a, b, d, e, g, i, j, k⟩ := hB
  obtain ⟨f1, f2, f4, f5, f6, f7, f8⟩ := hF
  obtain ⟨a1, a3, a4, a5, a6, a7, a8⟩ := hA
  refine ⟨a, b.mod M f1 a1, d.mod M f2 a3 hL.1, e.mod M a4 a5 a6 hL.2, ?_, ?_, j.mod M f6 a7, k.mod M f7 f8 a8⟩
  · rw [M.1 20 9 f4]
    exact g
  · rw [M.1 20 11 f5]
    exact i
theorem lx_ok {B : Nat → Nat} {n p : Nat} (hO : SrcOk B n) (hp : p ≤ n) : Lx B n (lxT B n p) ∧ tk (lxT B n p) 0 = tkA B n p := by
  obtain ⟨a, b, -⟩ := Lx_lex hO (n + 1 - p) p hp (by omega) (lineEnd_sc hp)
  exact ⟨a, b⟩
theorem ptWS (wh h : Nat) (l : List Int32) (P : Pt) : ptW wh h l P = ptS (decide (wh = 3)) h l P := by
  unfold ptW ptS
  by_cases z : wh = 3
  · rw [if_pos z, decide_eq_true z, if_pos rfl]
  · rw [if_neg z, decide_eq_false z, if_neg Bool.false_ne_true]
theorem ptS_cnt (s : Bool) (h : Nat) (l : List Int32) (P : Pt) : (ptS s h l P).2.1 ≤ P.2.1 + l.length := by
  unfold ptS
  split
  · exact Nat.le_refl _
  · exact Nat.le_add_right _ _
/-- one line -/
theorem lineC {B : Nat → Nat} {n p : Nat} {c : vmD} {N : Nt} {ln wh h : Nat} {cs : Cs} {P : Pt} {f0 : Fl} (hB : BtC B n c N wh h cs P) (hl : gF c 24 6 = nI ln) (hl2 : ln < 65536) (hF : FltC c f0) (h0 : f0.2.2 = 0) (hp : p ≤ n) (hw4 : wh < 4) (hh : h ≤ 65536) (hP : P.2.1 < 2 ^ 27) (hw : wh = 1 ∨ (dnA cs = true → stF B (lxT B n p) N h cs (lt0 (lxT B n p)) = none)) : ∃ c', (∀ Q : vmD → Prop, Q c' → (Conditions_done c fun r_21 d_20 => if r_21 = 0 then (Forger_passOver (nI p) d_20 fun d_23 => Q d_23) else (Tokens_cut (nI p) (nI (sc nlB B n p)) d_20 fun d_24 => Forger_tellLabel d_24 fun r_26 d_25 => if r_26 < 0 then Q d_25 else Forger_readStatement r_26 d_25 fun d_28 => Q d_28))) ∧ FltC c' (setF ln (lgF B n wh p N h cs) f0) ∧ (lgF B n wh p N h cs = none → BtC B n c' (lgN B n wh p N h cs) wh (lgH B n wh p N h cs) (lgC B n wh p N h cs) (ptW wh h (lgO B n wh p N h cs) P)) ∧ ModW wh c c' ∧ gF c' 24 6 = nI ln ∧ gF c' 20 10 = gF c 20 10 := by
  obtain ⟨hO, hSr, hN, hCC, h9, h11, hC, hPt⟩ := id hB
  by_cases d : dnA cs = true
  · have e1 : lgF B n wh p N h cs = liF B wh (lxT B n p) N h cs := if_pos d
    have e2 : lgN B n wh p N h cs = liN wh (lxT B n p) N h := if_pos d
    have e3 : lgH B n wh p N h cs = stH B (lxT B n p) (lbN wh (lxT B n p) N h) h (lt0 (lxT B n p)) := if_pos d
    have e4 : lgC B n wh p N h cs = stCs (lxT B n p) (lbN wh (lxT B n p) N h) h cs (lt0 (lxT B n p)) := if_pos d
    have e5 : lgO B n wh p N h cs = stO B (lxT B n p) (lbN wh (lxT B n p) N h) h (lt0 (lxT B n p)) := if_pos d
    rw [e1, e2, e3, e4, e5]
    obtain ⟨c1, E1, T1, a1, a2, a3, a4, a5⟩ := cut_ok hO hSr hp (lineEnd_sc (B := B) hp)
    have T1 : TkC c1 (lxT B n p) := T1
    have M1 : ModC [(24, 5)] [25, 26] [27] c c1 := by
      refine ⟨fun o f q => ?_, fun o q => a3 o (fun v => q (by rw [v]; decide)) (fun v => q (by rw [v]; decide)), fun o q => a4 o (fun v => q (by rw [v]; decide)), a5⟩
      by_cases v : o = 24
      · subst v
        exact a2 f (fun u => q (by rw [u]; decide))
      · rw [a1 o v]
    have hB1 : BtC B n c1 N wh h cs P := hB.mod M1 (by decide) (by decide) (by decide)
    obtain ⟨g1, g2, g3, g4, g5, g6, g7, g8⟩ := id hB1
    have hl1 : gF c1 24 6 = nI ln := by
      rw [M1.1 24 6 (by decide)]
      exact hl
    have hS1 : StC B n c1 (lxT B n p) N ln wh h cs P := ⟨⟨hO, (lx_ok hO hp).1, T1, g3, g4, hl1, hl2⟩, g5, g6, g7, g8⟩
    have hw1 : wh = 1 ∨ stF B (lxT B n p) N h cs (lt0 (lxT B n p)) = none := by
      rcases hw with v | v
      · exact Or.inl v
      · exact Or.inr (v d)
    obtain ⟨c2, E2, F2, S2, M2⟩ := linC g2 hS1 (hF.mod M1 (by decide) (by decide) (by decide)) h0 hw4 hh hP hw1
    refine ⟨c2, fun Q hQ => ?_, F2, fun hn => ?_, (M1.toW (by decide) (by decide) (by decide) (by decide)).trans (modV M2), ?_, (M2.1.1 20 10 (by decide)).trans (M1.1 20 10 (by decide))⟩
    · rw [donC hC, d, if_neg (show ¬ kb true = 0 by decide)]
      exact E1 _ (E2 Q hQ)
    · obtain ⟨k1, k2, k3, k4, k5⟩ := S2 hn
      exact ⟨hO, g2.mod M2.1 (by decide) (by decide), k1.2.2.2.1, k1.2.2.2.2.1, k2, k3, k4, k5⟩
    · rw [M2.1.1 24 6 (by decide)]
      exact hl1
  · have e1 : lgF B n wh p N h cs = skF B n p cs := if_neg d
    have e2 : lgN B n wh p N h cs = N := if_neg d
    have e3 : lgH B n wh p N h cs = h := if_neg d
    have e4 : lgC B n wh p N h cs = skC B n p cs := if_neg d
    have e5 : lgO B n wh p N h cs = [] := if_neg d
    rw [e1, e2, e3, e4, e5, ptW_nil]
    obtain ⟨c2, E2, F2, S2, M2⟩ := skpC hB hl hl2 hF h0 hp
    refine ⟨c2, fun Q hQ => ?_, F2, S2, modV M2, ?_, M2.1.1 20 10 (by decide)⟩
    · rw [donC hC, Bool.eq_false_iff.mpr d, if_pos (show kb false = 0 from rfl)]
      exact E2 _ hQ
    · rw [M2.1.1 24 6 (by decide)]
      exact hl
theorem lgO_le {B : Nat → Nat} {n wh p : Nat} {N : Nt} {h : Nat} {cs : Cs} (hh : h ≤ 65536) (hst : dnA cs = true → stF B (lxT B n p) (lbN wh (lxT B n p) N h) h cs (lt0 (lxT B n p)) = none) : lgH B n wh p N h cs ≤ 65536 ∧ (lgO B n wh p N h cs).length ≤ 65536 := by
  unfold lgH lgO
  by_cases d : dnA cs = true
  · rw [if_pos d, if_pos d]
    have := stH_le hh (hst d)
    omega
  · rw [if_neg d, if_neg d]
    exact ⟨hh, Nat.zero_le _⟩
theorem passC {B : Nat → Nat} {n wh : Nat} (hw4 : wh < 4) : ∀ (f p ln : Nat) (N : Nt) (h : Nat) (cs : Cs) (P : Pt) (c : vmD) (f0 : Fl), n + 2 ≤ p + f → p ≤ n + 1 → BtC B n c N wh h cs P → FltC c f0 → f0.2.2 = 0 → gF c 20 10 = nI ln → ln ≤ 300 → h ≤ 65536 → P.2.1 ≤ ln * 65536 → (cs = [] ∨ gF c 24 6 = nI ln) → (wh = 1 ∨ Good B n N f p ln h cs) → ∃ c', (∀ Q : vmD → Prop, Q c' → ∃ m, Forger_pass_34 Q m (nI p) c) ∧ ModW wh c c' ∧ (∀ R : Rs, R = run B n wh (decide (wh = 3)) f p ln N h cs P → (R.1 = none → FltC c' f0 ∧ BtC B n c' R.2.2.1 wh R.2.2.2.1 [] R.2.2.2.2 ∧ gF c' 20 10 = nI R.2.1) ∧ (∀ v, R.1 = some v → FltC c' v ∧ 0 < v.2.2)) := by
  intro f
  induction f with
  | zero => intro p ln N h cs P c f0 hf hp; omega
  | succ f ih =>
    intro p ln N h cs P c f0 hf hp hB hF h0 h10 hln hh hP hcs hw
    obtain ⟨hO, hSr, hN, hCC, h9, h11, hC, hPt⟩ := id hB
    have hn := hO.1
    have hsz : gF c 9 1 = nI n := hSr.1
    by_cases z : p < n
    · -- a line
      obtain ⟨c1, hc1⟩ : ∃ c1, c1 = sF (sF (sF c 20 10 (nI (ln + 1))) 24 6 (nI (ln + 1))) 24 5 0 := ⟨_, rfl⟩
      have M1 : ModC [(20, 10), (24, 5), (24, 6)] [] [] c c1 := by
        rw [hc1]
        exact (((ModC.refl _ _ _ c).sF (by decide) _).sF (by decide) _).sF (by decide) _
      have hB1 : BtC B n c1 N wh h cs P := hB.mod M1 (by decide) (by decide) (by decide)
      have hF1 : FltC c1 f0 := hF.mod M1 (by decide) (by decide) (by decide)
      have g10 : gF c1 20 10 = nI (ln + 1) := by
        rw [hc1]
        simp only [gA_sA, gA_sA_ne, gA_sF, gA_sG, gA_sL, gF_sA, gF_sF, gF_sF_ne, gF_sG, gF_sL, gG_sA, gG_sF, gG_sL, gG_sGe, gG_sG_ne, gL_sA, gL_sF, gL_sG, gL_sLe, gL_sL_ne, u1f_eq, u1f_ne, bnd_iff, not_false_eq_true, Nat.reduceEqDiff]
      have g6 : gF c1 24 6 = nI (ln + 1) := by
        rw [hc1]
        simp only [gA_sA, gA_sA_ne, gA_sF, gA_sG, gA_sL, gF_sA, gF_sF, gF_sF_ne, gF_sG, gF_sL, gG_sA, gG_sF, gG_sL, gG_sGe, gG_sG_ne, gL_sA, gL_sF, gL_sG, gL_sLe, gL_sL_ne, u1f_eq, u1f_ne, bnd_iff, not_false_eq_true, Nat.reduceEqDiff]
      have hle := sc_le (P := nlB) (B := B) (show p ≤ n by omega)
      obtain ⟨e, he⟩ : ∃ e, e = sc nlB B n p := ⟨_, rfl⟩
      rw [← he] at hle
      have start : ∀ (Q : vmD → Prop) (m : Nat), (if 300 < ln + 1 then (Tokens_blamePlace (nI p) 9 c1 fun d_18 => Forger_pass_152 (Forger_pass_34 Q m) (nI p) (nI e) d_18 Q) else (Conditions_done c1 fun r_21 d_20 => if r_21 = 0 then (Forger_passOver (nI p) d_20 fun d_23 => Forger_pass_152 (Forger_pass_34 Q m) (nI p) (nI e) d_23 Q) else (Tokens_cut (nI p) (nI e) d_20 fun d_24 => Forger_tellLabel d_24 fun r_26 d_25 => if r_26 < 0 then (Forger_pass_152 (Forger_pass_34 Q m) (nI p) (nI e) d_25 Q) else (Forger_readStatement r_26 d_25 fun d_28 => Forger_pass_152 (Forger_pass_34 Q m) (nI p) (nI e) d_28 Q)))) → Forger_pass_34 Q (m + 1) (nI p) c := by
        intro Q m hQ
        unfold Forger_pass_34 Text_length_src
        dsimp only
        rw [hsz, if_pos (nI_lt z (by omega))]
        unfold Faults_any
        rw [show gF c 21 2 = 0 by rw [hF.2.2.1, h0]; rfl, if_pos rfl]
        dsimp only
        rw [if_pos rfl]
        unfold Text_lineEnd_src
        refine bnd_iff.mpr ?_
        rw [if_neg (nI_pos (by omega))]
        refine lineEndC hO hSr _ p (by omega) ?_
        rw [← he]
        refine bnd_iff.mpr ?_
        rw [h10, nI_p1]
        unfold Tokens_beginLine
        refine bnd_iff.mpr (bnd_iff.mpr ?_)
        have e10 : gF (sF c 20 10 (nI (ln + 1))) 20 10 = nI (ln + 1) := by rw [gF_sF, u1f_eq]
        rw [e10, ← hc1]
        dsimp only
        rw [g10]
        by_cases y : 300 < ln + 1
        · rw [if_pos y] at hQ
          rw [if_pos (show (300 : Int32) < nI (ln + 1) from nI_lt (a := 300) y (by omega))]
          exact hQ
        · rw [if_neg y] at hQ
          rw [if_neg (show ¬ (300 : Int32) < nI (ln + 1) from nI_nlt (a := 300) (by omega) (by omega))]
          exact hQ
      have e152 : ∀ (Q : vmD → Prop) (m : Nat) (d : vmD), Forger_pass_34 Q m (nI (e + 1)) d → Forger_pass_152 (Forger_pass_34 Q m) (nI p) (nI e) d Q := by
        intro Q m d hd
        unfold Forger_pass_152
        refine bnd_iff.mpr ?_
        have : (if nI p < nI e then nI e else nI p) + 1 = nI (e + 1) := by
          by_cases y : p < e
          · rw [if_pos (nI_lt y (by omega)), nI_p1]
          · rw [if_neg (nI_nlt (by omega) (by omega)), nI_p1, show p = e by omega]
        rw [this]
        exact hd
      -- behind a FAULT the loop ends
      have stop : ∀ (d : vmD) (v : Fl), FltC d v → gF d 9 1 = nI n → gF d 24 6 = nI (ln + 1) → 0 < v.2.2 → v.2.2 < 10 → v.2.1 ≤ n → (v.2.2 < 8 ∨ v.2.1 < n) → ∃ d', (∀ Q : vmD → Prop, Q d' → ∃ m, Forger_pass_34 Q m (nI (e + 1)) d) ∧ FltC d' v ∧ ModC FF [] [] d d' := by
        intro d v hv hsd h6d v0 v10 vn v8
        have hany : ¬ gF d 21 2 = 0 := by
          rw [hv.2.2.1]
          exact nI_ne0 v0 (by omega)
        by_cases y : e + 1 < n
        · refine ⟨d, fun Q hQ => ⟨1, ?_⟩, hv, ModC.refl _ _ _ _⟩
          unfold Forger_pass_34 Text_length_src
          dsimp only
          rw [hsd, if_pos (nI_lt y (by omega))]
          unfold Faults_any
          rw [if_neg hany]
          dsimp only
          rw [if_neg (by decide)]
          unfold Forger_pass_163 Text_length_src
          dsimp only
          rw [hsd, if_pos (nI_lt y (by omega))]
          exact hQ
        · obtain ⟨d1, E1, F1, M1⟩ := addC hv (l := ln + 1) (p := n) (k := 7) (by omega) (by omega) (by omega)
          have ev : addF v (ln + 1) n 7 = v := by
            unfold addF
            rw [if_neg]
            omega
          rw [ev] at F1
          have st : ∀ (Q : vmD → Prop), (Conditions_anyOpen d fun r_33 d_32 => if r_33 = 0 then (Q d_32) else (Text_length_src d_32 fun r_36 d_35 => Tokens_blamePlace r_36 7 d_35 fun d_37 => Q d_37)) → Forger_pass_34 Q 1 (nI (e + 1)) d := by
            intro Q hQ
            unfold Forger_pass_34 Text_length_src
            dsimp only
            rw [hsd, if_neg (nI_nlt (by omega) (by omega))]
            unfold Forger_pass_163 Text_length_src
            dsimp only
            rw [hsd, if_neg (nI_nlt (by omega) (by omega))]
            exact hQ
          by_cases o : (0 : Int32) < gF d 22 1
          · refine ⟨d1, fun Q hQ => ⟨1, st Q ?_⟩, F1, M1⟩
            unfold Conditions_anyOpen
            rw [if_pos o]
            dsimp only
            rw [if_neg (by decide)]
            unfold Text_length_src
            dsimp only
            unfold Tokens_blamePlace
            rw [h6d, hsd]
            exact E1 _ hQ
          · refine ⟨d, fun Q hQ => ⟨1, st Q ?_⟩, hv, ModC.refl _ _ _ _⟩
            unfold Conditions_anyOpen
            rw [if_neg o]
            dsimp only
            rw [if_pos rfl]
            exact hQ
      have M1' : ModW wh c c1 := M1.toW (by decide) (by decide) (by decide) (by decide)
      by_cases y : 300 < ln + 1
      · obtain ⟨c2, E2, F2, M2⟩ := addC hF1 (l := ln + 1) (p := p) (k := 9) (by omega) (by omega) (by omega)
        have ev : addF f0 (ln + 1) p 9 = (ln + 1, p, 9) := if_pos (Or.inl h0)
        rw [ev] at F2
        obtain ⟨c3, E3, F3, M3⟩ := stop c2 _ F2 (by rw [M2.1 9 1 (by decide), M1.1 9 1 (by decide)]; exact hsz) (by rw [M2.1 24 6 (by decide)]; exact g6) (by show 0 < 9; omega) (by show 9 < 10; omega) (by show p ≤ n; omega) (Or.inr z)
        refine ⟨c3, fun Q hQ => ?_, (M1'.trans (modV (modFF M2))).trans (modV (modFF M3)), fun R hR => ?_⟩
        · obtain ⟨m, hm⟩ := E3 Q hQ
          refine ⟨m + 1, start Q m ?_⟩
          rw [if_pos y]
          unfold Tokens_blamePlace
          rw [g6]
          exact E2 _ (e152 Q m c2 hm)
        · have eR : R = (some (ln + 1, p, 9), ln + 1, N, h, P) := by
            rw [hR]
            unfold run
            rw [if_pos z, if_pos y]
          rw [eR]
          refine ⟨fun q => (by cases q), fun v q => ?_⟩
          cases q
          exact ⟨F3, by show 0 < 9; omega⟩
      · have hwl : wh = 1 ∨ (dnA cs = true → stF B (lxT B n p) N h cs (lt0 (lxT B n p)) = none) := by
          rcases hw with v | v
          · exact Or.inl v
          · exact Or.inr (v z).1
        obtain ⟨c2, E2, F2, S2, M2, k6, k10'⟩ := lineC hB1 g6 (by omega) hF1 h0 (by omega) hw4 hh (by omega) hwl
        rw [← he] at E2
        cases eF : lgF B n wh p N h cs with
        | some q =>
          rw [eF] at F2
          have hq : OK8 n (lgF B n wh p N h cs) := OK8.ite (ok_li (lx_ok hO (by omega)).1 wh N h cs) (ok_sk (by omega) cs)
          obtain ⟨q1, q2, q3, q4⟩ := hq q eF
          have F2 : FltC c2 (ln + 1, q.2, q.1) := by
            unfold setF at F2
            rw [if_pos h0] at F2
            exact F2
          obtain ⟨c3, E3, F3, M3⟩ := stop c2 _ F2 (by rw [M2.1.1 9 1 (by decide), M1.1 9 1 (by decide)]; exact hsz) k6 q1 q2 q3 q4
          refine ⟨c3, fun Q hQ => ?_, (M1'.trans M2).trans (modV (modFF M3)), fun R hR => ?_⟩
          · obtain ⟨m, hm⟩ := E3 Q hQ
            refine ⟨m + 1, start Q m ?_⟩
            rw [if_neg y]
            exact E2 _ (e152 Q m c2 hm)
          · have eR : R = (some (ln + 1, q.2, q.1), ln + 1, N, h, P) := by
              rw [hR]
              unfold run
              rw [if_pos z, if_neg y, eF]
            rw [eR]
            refine ⟨fun w => (by cases w), fun v w => ?_⟩
            cases w
            exact ⟨F3, q1⟩
        | none =>
          rw [eF, setF_none] at F2
          have S2 := S2 eF
          have hst : dnA cs = true → stF B (lxT B n p) (lbN wh (lxT B n p) N h) h cs (lt0 (lxT B n p)) = none := by
            intro d
            by_cases w1 : wh = 1
            · have : lgF B n wh p N h cs = liF B wh (lxT B n p) N h cs := if_pos d
              rw [this, w1] at eF
              rw [w1]
              exact liF1 eF
            · rw [(lb2 w1 (lxT B n p) N h).1]
              exact (hwl.resolve_left w1) d
          obtain ⟨b1, b2⟩ := lgO_le hh hst
          rw [ptWS] at S2
          have hcnt := ptS_cnt (decide (wh = 3)) h (lgO B n wh p N h cs) P
          have k10 : gF c2 20 10 = nI (ln + 1) := k10'.trans g10
          have hw2 : wh = 1 ∨ Good B n (lgN B n wh p N h cs) f (e + 1) (ln + 1) (lgH B n wh p N h cs) (lgC B n wh p N h cs) := by
            rcases hw with v | v
            · exact Or.inl v
            · by_cases w1 : wh = 1
              · exact Or.inl w1
              · obtain ⟨l1, l2, l3, -⟩ := lg2 (B := B) (n := n) (p := p) w1 N h cs
                rw [l1, l2, l3, he]
                exact Or.inr (v z).2
          obtain ⟨c3, E3, M3, R3⟩ := ih (e + 1) (ln + 1) _ _ _ _ c2 f0 (by omega) (by omega) S2 F2 h0 k10 (by omega) b1 (by omega) (Or.inr k6) hw2
          refine ⟨c3, fun Q hQ => ?_, (M1'.trans M2).trans M3, fun R hR => R3 R ?_⟩
          · obtain ⟨m, hm⟩ := E3 Q hQ
            refine ⟨m + 1, start Q m ?_⟩
            rw [if_neg y]
            exact E2 _ (e152 Q m c2 hm)
          · rw [hR]
            show run B n wh (decide (wh = 3)) (f + 1) p ln N h cs P = _
            unfold run
            rw [if_pos z, if_neg y, eF, he]
            cases f with
            | zero => omega
            | succ f => rfl
    · -- the end
      have st : ∀ (Q : vmD → Prop), (if kb (decide (0 < cs.length)) = 0 then Q c else (Tokens_blamePlace (nI n) 7 c fun d_37 => Q d_37)) → Forger_pass_34 Q 1 (nI p) c := by
        intro Q hQ
        unfold Forger_pass_34 Text_length_src
        dsimp only
        rw [hsz, if_neg (nI_nlt (by omega) (by omega))]
        unfold Forger_pass_163 Text_length_src
        dsimp only
        rw [hsz, if_neg (nI_nlt (by omega) (by omega)), opnC hC]
        by_cases y : kb (decide (0 < cs.length)) = 0
        · rw [if_pos y] at hQ ⊢
          exact hQ
        · rw [if_neg y] at hQ ⊢
          rw [hsz]
          exact hQ
      by_cases y : 0 < cs.length
      · have g6 : gF c 24 6 = nI ln := by
          rcases hcs with v | v
          · rw [v] at y
            exact absurd y (Nat.lt_irrefl 0)
          · exact v
        obtain ⟨c2, E2, F2, M2⟩ := addC hF (l := ln) (p := n) (k := 7) (by omega) (by omega) (by omega)
        have ev : addF f0 ln n 7 = (ln, n, 7) := if_pos (Or.inl h0)
        rw [ev] at F2
        refine ⟨c2, fun Q hQ => ⟨1, st Q ?_⟩, modV (modFF M2), fun R hR => ?_⟩
        · rw [decide_eq_true y, if_neg (show ¬ kb true = 0 by decide)]
          unfold Tokens_blamePlace
          rw [g6]
          exact E2 _ hQ
        · have eR : R = (some (ln, n, 7), ln, N, h, P) := by
            rw [hR]
            unfold run
            rw [if_neg z, if_pos y]
          rw [eR]
          refine ⟨fun w => (by cases w), fun v w => ?_⟩
          cases w
          exact ⟨F2, by show 0 < 7; omega⟩
      · refine ⟨c, fun Q hQ => ⟨1, st Q ?_⟩, ModW.refl _ _, fun R hR => ?_⟩
        · rw [decide_eq_false y, if_pos (show kb false = 0 from rfl)]
          exact hQ
        · have eR : R = (none, ln, N, h, P) := by
            rw [hR]
            unfold run
            rw [if_neg z, if_neg y]
          rw [eR]
          refine ⟨fun _ => ⟨hF, ?_, h10⟩, fun v w => (by cases w)⟩
          have : cs = [] := List.eq_nil_of_length_eq_zero (by omega)
          rw [this] at hB
          exact hB
