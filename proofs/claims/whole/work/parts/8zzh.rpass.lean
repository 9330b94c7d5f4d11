/-! A pass of the reference -/
abbrev UF : List Nat := [2, 3, 4, 5, 6, 8, 9, 16, 18, 19, 22, 28, 13, 20, 29, 30, 31, 32, 33, 34, 35, 36, 39, 40, 45, 55, 56, 57, 21, 41]
theorem modU {r r' : vmD} (h : ModR GRF GRA r r') : ModR UF GRA r r' := h.mono (by decide) (by decide)
theorem lineR {B : Nat → Nat} {n p : Nat} {r : vmD} {N : Nt} {sec : Bool} {h : Nat} {cs : Cs} {P : Pt} (hB : BtR B n r N sec h cs P) (h2 : gF r 42 2 = nI p) (hp : p ≤ n) (hh : h ≤ 65536) (hP : P.2.1 < 2 ^ 27) (hw : sec = true → dnA cs = true → stF B (lxT B n p) N h cs (lt0 (lxT B n p)) = none) : ∃ r' b, (∀ Q : Int32 → vmD → Prop, Q b r' → MO_readLine r Q) ∧ ModR UF GRA r r' ∧ gF r' 42 41 = gF r 42 41 ∧ OutR (lgF B n (whS sec) p N h cs) b r' (BtR B n r' (lgN B n (whS sec) p N h cs) sec (lgH B n (whS sec) p N h cs) (lgC B n (whS sec) p N h cs) (ptS sec h (lgO B n (whS sec) p N h cs) P) ∧ ∃ q, gF r' 42 2 = nI q ∧ p ≤ q ∧ q ≤ sc nlB B n p) := by
  obtain ⟨hO, hSr, hN, h20, h42, h8, hC, hPt⟩ := id hB
  obtain ⟨r1, hr1⟩ : ∃ r1, r1 = sF r 42 21 (nI h) := ⟨_, rfl⟩
  have M1 : ModR [21] [] r r1 := by
    rw [hr1]
    exact (ModR.refl _ _ r).sF (by decide) _
  have h81 : gF r1 42 8 = 0 := by
    rw [M1.2.1 8 (by decide)]
    exact h8
  have hB1 : BtR B n r1 N sec h cs P := hB.mod M1 h81 (by decide) (by decide)
  have h21 : gF r1 42 21 = nI h := by rw [hr1, gF_sF, u1f_eq]
  have h22 : gF r1 42 2 = nI p := by
    rw [M1.2.1 2 (by decide)]
    exact h2
  obtain ⟨k1, k2, k3, k4, k5, k6, k7, k8⟩ := id hB1
  have hl := lineEnd_sc (B := B) hp
  by_cases d : dnA cs = true
  · have e1 : lgF B n (whS sec) p N h cs = liF B (whS sec) (lxT B n p) N h cs := if_pos d
    have e2 : lgN B n (whS sec) p N h cs = liN (whS sec) (lxT B n p) N h := if_pos d
    have e3 : lgH B n (whS sec) p N h cs = stH B (lxT B n p) (lbN (whS sec) (lxT B n p) N h) h (lt0 (lxT B n p)) := if_pos d
    have e4 : lgC B n (whS sec) p N h cs = stCs (lxT B n p) (lbN (whS sec) (lxT B n p) N h) h cs (lt0 (lxT B n p)) := if_pos d
    have e5 : lgO B n (whS sec) p N h cs = stO B (lxT B n p) (lbN (whS sec) (lxT B n p) N h) h (lt0 (lxT B n p)) := if_pos d
    rw [e1, e2, e3, e4, e5]
    obtain ⟨x1, x2⟩ := lx_ok hO hp
    have hS1 : StR B n r1 (lxT B n p) N sec h h cs P := ⟨⟨hO, x1, k2, k3, h21⟩, k4, k5, k6, k7, k8⟩
    obtain ⟨r2, b, E2, M2, H2⟩ := linR hS1 hh hP hp h22 x2 (fun s => hw s d)
    refine ⟨r2, b, fun Q hQ => ?_, (M1.mono (by decide) (by decide)).trans (modU M2), (M2.2.1 41 (by decide)).trans (M1.2.1 41 (by decide)), ?_⟩
    · unfold MO_readLine
      refine bnd_iff.mpr ?_
      rw [h20, ← hr1]
      refine dneR k7 _ ?_
      rw [d, if_neg (show ¬ kb true = 0 by decide)]
      exact E2 Q hQ
    · rcases H2 with ⟨f1, f2, ⟨g1, g2, g3, g4, g5, g6⟩, x, y1, y2, y3⟩ | H2
      · refine Or.inl ⟨f1, f2, ⟨hO, g1.2.2.1, g1.2.2.2.1, g2, g3, g4, g5, g6⟩, (tk (lxT B n p) x).2.2.1, y3, ?_⟩
        exact lex_pl (n + 1 - p) p hp (by omega) hl x y1
      · exact Or.inr H2
  · have e1 : lgF B n (whS sec) p N h cs = skF B n p cs := if_neg d
    have e2 : lgN B n (whS sec) p N h cs = N := if_neg d
    have e3 : lgH B n (whS sec) p N h cs = h := if_neg d
    have e4 : lgC B n (whS sec) p N h cs = skC B n p cs := if_neg d
    have e5 : lgO B n (whS sec) p N h cs = [] := if_neg d
    rw [e1, e2, e3, e4, e5, ptS_nil]
    obtain ⟨r2, b, E2, M2, H2⟩ := skpR hB1 h22 hl
    have hb := H2.b01
    refine ⟨r2, b, fun Q hQ => ?_, (M1.mono (by decide) (by decide)).trans (modU M2), (M2.2.1 41 (by decide)).trans (M1.2.1 41 (by decide)), H2⟩
    unfold MO_readLine
    refine bnd_iff.mpr ?_
    rw [h20, ← hr1]
    refine dneR k7 _ ?_
    rw [Bool.eq_false_iff.mpr d, if_pos (show kb false = 0 from rfl)]
    exact E2 _ ⟨hb, hQ⟩
/-- up to the line's end -/
theorem p71R {B : Nat → Nat} {n p e : Nat} (hO : SrcOk B n) (hl : lineEnd B n p e) (b20 : vmD → Prop) (Q : Int32 → vmD → Prop) : ∀ (k q : Nat) (r : vmD), q + k = e → p ≤ q → SrcR B n r → gF r 42 2 = nI q → b20 (sF r 42 2 (nI (e + 1))) → ∃ m, MO_pass_71 b20 Q m r := by
  have hn := hO.1
  have hen := hl.2.1
  intro k
  induction k with
  | zero =>
    intro q r hk hpq hr h2 hb
    have e1 : q = e := by omega
    subst e1
    refine ⟨1, ?_⟩
    unfold MO_pass_71
    rw [h2, atR hO hr (by omega), hl.at, if_pos (show nI 10 = 10 from rfl)]
    refine bnd_iff.mpr ?_
    rw [h2, nI_p1]
    exact hb
  | succ k ih =>
    intro q r hk hpq hr h2 hb
    have M1 : ModR [2] [] r (sF r 42 2 (nI (q + 1))) := (ModR.refl _ _ r).sF (by decide) _
    obtain ⟨m, hm⟩ := ih (q + 1) (sF r 42 2 (nI (q + 1))) (by omega) (by omega) (hr.mod M1 (by decide) (by decide)) (by rw [gF_sF, u1f_eq]) (by rw [sF_same]; exact hb)
    have hne : ¬ byR B n q = 10 := by
      rw [byR_in (by omega)]
      exact hl.2.2.1 q hpq (by omega)
    have hbq := byR_lt hO q
    refine ⟨m + 1, ?_⟩
    unfold MO_pass_71
    rw [h2, atR hO hr (by omega), if_neg (show ¬ nI (byR B n q) = 10 from fun v => hne ((nI_eq (b := 10) (by omega) (by omega)).mp v))]
    refine bnd_iff.mpr ?_
    rw [h2, nI_p1]
    exact hm
theorem passR {B : Nat → Nat} {n : Nat} {sec : Bool} : ∀ (f p ln : Nat) (N : Nt) (h : Nat) (cs : Cs) (P : Pt) (r : vmD), n + 2 ≤ p + f → p ≤ n + 1 → BtR B n r N sec h cs P → gF r 42 2 = nI p → gF r 42 41 = nI ln → ln ≤ 300 → h ≤ 65536 → P.2.1 ≤ ln * 65536 → (sec = true → Good B n N f p ln h cs) → ∃ r' b, (∀ Q : Int32 → vmD → Prop, Q b r' → ∃ m, MO_pass_20 Q m r) ∧ ModR UF GRA r r' ∧ (∀ R : Rs, R = run B n (whS sec) sec f p ln N h cs P → (R.1 = none → b = 1 ∧ BtR B n r' R.2.2.1 sec R.2.2.2.1 [] R.2.2.2.2 ∧ gF r' 42 41 = nI R.2.1) ∧ (∀ v, R.1 = some v → b = 0 ∧ gF r' 42 8 = nI v.2.2 ∧ gF r' 42 9 = nI v.2.1 ∧ gF r' 42 41 = nI v.1)) := by
  intro f
  induction f with
  | zero => intro p ln N h cs P r hf hp; omega
  | succ f ih =>
    intro p ln N h cs P r hf hp hB h2 h41 hln hh hP hw
    obtain ⟨hO, hSr, hN, h20, h42, h8, hC, hPt⟩ := id hB
    have hn := hO.1
    have hsz : gF r 42 1 = nI n := hSr.1
    have whs : ∀ q, whS sec = q → q = 1 ∨ q = 2 := by
      intro q hq
      subst hq
      cases sec
      · exact Or.inl rfl
      · exact Or.inr rfl
    by_cases z : p < n
    · obtain ⟨r1, hr1⟩ : ∃ r1, r1 = sF r 42 41 (nI (ln + 1)) := ⟨_, rfl⟩
      have M1 : ModR [41] [] r r1 := by
        rw [hr1]
        exact (ModR.refl _ _ r).sF (by decide) _
      have M1' : ModR UF GRA r r1 := M1.mono (by decide) (by decide)
      have h81 : gF r1 42 8 = 0 := by
        rw [M1.2.1 8 (by decide)]
        exact h8
      have hB1 : BtR B n r1 N sec h cs P := hB.mod M1 h81 (by decide) (by decide)
      have h21 : gF r1 42 2 = nI p := by
        rw [M1.2.1 2 (by decide)]
        exact h2
      have g41 : gF r1 42 41 = nI (ln + 1) := by rw [hr1, gF_sF, u1f_eq]
      have start : ∀ (Q : Int32 → vmD → Prop) (m : Nat), (if 300 < ln + 1 then (MO_wrong 9 (nI p) r1 fun r_9 d_8 => (r_9 = 0 ∨ r_9 = 1) ∧ Q r_9 d_8) else (MO_readLine r1 fun r_11 d_10 => if r_11 = 0 then (Q 0 d_10) else (∃ m71, MO_pass_71 (MO_pass_20 Q m) Q m71 d_10))) → MO_pass_20 Q (m + 1) r := by
        intro Q m hQ
        unfold MO_pass_20
        rw [h2, hsz, if_pos (nI_lt z (by omega))]
        refine bnd_iff.mpr ?_
        rw [h41, nI_p1, ← hr1, g41, h21]
        by_cases y : 300 < ln + 1
        · rw [if_pos y] at hQ
          rw [if_pos (show (300 : Int32) < nI (ln + 1) from nI_lt (a := 300) y (by omega))]
          exact hQ
        · rw [if_neg y] at hQ
          rw [if_neg (show ¬ (300 : Int32) < nI (ln + 1) from nI_nlt (a := 300) (by omega) (by omega))]
          exact hQ
      by_cases y : 300 < ln + 1
      · obtain ⟨r2, E2, f2, M2, -⟩ := wrgR h81 9 p
        refine ⟨r2, 0, fun Q hQ => ⟨1, start Q 0 ?_⟩, M1'.trans (M2.mono (by decide) (by decide)), fun R hR => ?_⟩
        · rw [if_pos y]
          exact E2 _ ⟨Or.inl rfl, hQ⟩
        · have eR : R = (some (ln + 1, p, 9), ln + 1, N, h, P) := by
            rw [hR]
            unfold run
            rw [if_pos z, if_pos y]
          rw [eR]
          refine ⟨fun q => (by cases q), fun v q => ?_⟩
          cases q
          exact ⟨rfl, f2.1, f2.2, (M2.2.1 41 (by decide)).trans g41⟩
      · obtain ⟨r2, b2, E2, M2, k41, H2⟩ := lineR hB1 h21 (by omega) hh (by omega) (fun s => (hw s z).1)
        have k41 := k41.trans g41
        cases eF : lgF B n (whS sec) p N h cs with
        | some q =>
          obtain ⟨f0, f1⟩ := H2.bad eF
          refine ⟨r2, 0, fun Q hQ => ⟨1, start Q 0 ?_⟩, M1'.trans M2, fun R hR => ?_⟩
          · rw [if_neg y]
            refine E2 _ ?_
            rw [f0, if_pos rfl]
            exact hQ
          · have eR : R = (some (ln + 1, q.2, q.1), ln + 1, N, h, P) := by
              rw [hR]
              unfold run
              rw [if_pos z, if_neg y, eF]
            rw [eR]
            refine ⟨fun w => (by cases w), fun v w => ?_⟩
            cases w
            exact ⟨rfl, f1.1, f1.2, k41⟩
        | none =>
          obtain ⟨f0, S2, q, q1, q2, q3⟩ := H2.good eF
          have hst : dnA cs = true → stF B (lxT B n p) (lbN (whS sec) (lxT B n p) N h) h cs (lt0 (lxT B n p)) = none := by
            intro d
            cases sec with
            | false =>
              have : lgF B n (whS false) p N h cs = liF B (whS false) (lxT B n p) N h cs := if_pos d
              rw [this] at eF
              exact liF1 eF
            | true =>
              have := (lb2 (wh := whS true) (by decide) (lxT B n p) N h).1
              rw [this]
              exact (hw rfl z).1 d
          obtain ⟨b1, b2⟩ := lgO_le hh hst
          have hcnt := ptS_cnt sec h (lgO B n (whS sec) p N h cs) P
          have hle := sc_le (P := nlB) (B := B) (show p ≤ n by omega)
          obtain ⟨r3, hr3⟩ : ∃ r3, r3 = sF r2 42 2 (nI (sc nlB B n p + 1)) := ⟨_, rfl⟩
          have M3 : ModR [2] [] r2 r3 := by
            rw [hr3]
            exact (ModR.refl _ _ r2).sF (by decide) _
          have h83 : gF r3 42 8 = 0 := by
            rw [M3.2.1 8 (by decide)]
            exact S2.2.2.2.2.2.1
          have S3 := S2.mod M3 h83 (by decide) (by decide)
          have hw2 : sec = true → Good B n (lgN B n (whS sec) p N h cs) f (sc nlB B n p + 1) (ln + 1) (lgH B n (whS sec) p N h cs) (lgC B n (whS sec) p N h cs) := by
            intro s
            subst s
            obtain ⟨l1, l2, l3, -⟩ := lg2 (B := B) (n := n) (wh := whS true) (p := p) (by decide) N h cs
            rw [l1, l2, l3]
            exact (hw rfl z).2
          obtain ⟨r4, b4, E4, M4, R4⟩ := ih (sc nlB B n p + 1) (ln + 1) _ _ _ _ r3 (by omega) (by omega) S3 (by rw [hr3, gF_sF, u1f_eq]) ((M3.2.1 41 (by decide)).trans k41) (by omega) b1 (by omega) hw2
          refine ⟨r4, b4, fun Q hQ => ?_, ((M1'.trans M2).trans (M3.mono (by decide) (by decide))).trans M4, fun R hR => R4 R ?_⟩
          · obtain ⟨m, hm⟩ := E4 Q hQ
            refine ⟨m + 1, start Q m ?_⟩
            rw [if_neg y]
            refine E2 _ ?_
            rw [f0, if_neg (by decide)]
            refine p71R hO (lineEnd_sc (B := B) (show p ≤ n by omega)) _ Q (sc nlB B n p - q) q r2 (by omega) q2 S2.2.1 q1 ?_
            rw [← hr3]
            exact hm
          · rw [hR]
            show run B n (whS sec) sec (f + 1) p ln N h cs P = _
            unfold run
            rw [if_pos z, if_neg y, eF]
            cases f with
            | zero => omega
            | succ f => rfl
    · by_cases y : 0 < cs.length
      · obtain ⟨r2, E2, f2, M2, -⟩ := wrgR h8 7 n
        refine ⟨r2, 0, fun Q hQ => ⟨1, ?_⟩, M2.mono (by decide) (by decide), fun R hR => ?_⟩
        · unfold MO_pass_20
          rw [h2, hsz, if_neg (nI_nlt (by omega) (by omega)), hC.1, if_pos (show (0 : Int32) < nI cs.length from nI_lt (a := 0) y (by have := hC.2.1; omega))]
          exact E2 _ ⟨Or.inl rfl, hQ⟩
        · have eR : R = (some (ln, n, 7), ln, N, h, P) := by
            rw [hR]
            unfold run
            rw [if_neg z, if_pos y]
          rw [eR]
          refine ⟨fun w => (by cases w), fun v w => ?_⟩
          cases w
          exact ⟨rfl, f2.1, f2.2, (M2.2.1 41 (by decide)).trans h41⟩
      · refine ⟨r, 1, fun Q hQ => ⟨1, ?_⟩, ModR.refl _ _ _, fun R hR => ?_⟩
        · unfold MO_pass_20
          rw [h2, hsz, if_neg (nI_nlt (by omega) (by omega)), hC.1, if_neg (show ¬ (0 : Int32) < nI cs.length from nI_nlt (a := 0) (by omega) (by have := hC.2.1; omega))]
          exact hQ
        · have eR : R = (none, ln, N, h, P) := by
            rw [hR]
            unfold run
            rw [if_neg z, if_neg y]
          rw [eR]
          refine ⟨fun _ => ⟨rfl, ?_, h41⟩, fun v w => (by cases w)⟩
          have : cs = [] := List.eq_nil_of_length_eq_zero (by omega)
          rw [this] at hB
          exact hB
