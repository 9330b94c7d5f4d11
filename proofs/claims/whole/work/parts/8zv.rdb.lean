/-! The reference's DB, DW -/
theorem StR.h {B : Nat → Nat} {n : Nat} {r : vmD} {T : List Tk} {N : Nt} {sec : Bool} {ho h h' : Nat} {cs : Cs} {P : Pt} (hS : StR B n r T N sec ho h cs P) (e : h = h') : StR B n r T N sec ho h' cs P := by
  subst e
  exact hS
def hrS (sec : Bool) (h k : Nat) : Nat := if sec = true then h + k else h
/-- a TEXT's octets -/
theorem txtR {B : Nat → Nat} {n : Nat} {T : List Tk} {N : Nt} {sec : Bool} {h : Nat} {cs : Cs} {p v : Nat} {x1 : Int32} (hpn : p + v + 2 ≤ n) : ∀ (m i cnt : Nat) (r : vmD) (P1 : Pt), i + m = v → StR B n r T N sec h (hrS sec h cnt) cs P1 → gF r 42 5 = nI (p + v + 2) → (sec = true → h + cnt + m ≤ 65536) → P1.2.1 + m < 2 ^ 29 → ∃ r', (∀ (b8 : Int32 → Int32 → Int32 → Int32 → vmD → Prop) (Q : Int32 → vmD → Prop), (MO_next r' fun d_12 => MO_data_189 b8 x1 0 (nI (cnt + m)) (nI h) d_12 Q) → ∃ f, MO_data_28 b8 Q f x1 0 (nI cnt) (nI h) (nI (p + 1 + i)) r) ∧ StR B n r' T N sec h (hrS sec h (cnt + m)) cs (ptS sec (h + cnt) (txL B (p + 1 + i) m) P1) ∧ ModR [20, 39, 40] [56] r r' ∧ gG r' = gG r := by
  intro m
  induction m with
  | zero =>
    intro i cnt r P1 hi hS h5 hh hp
    have hn := hS.1.1.1
    refine ⟨r, fun b8 Q hQ => ⟨1, ?_⟩, by rw [show txL B (p + 1 + i) 0 = [] from rfl, ptS_nil]; exact hS, ModR.refl _ _ _, rfl⟩
    unfold MO_data_28
    rw [h5, show p + v + 2 = (p + v + 1) + 1 from rfl, nI_pred, if_neg (nI_nlt (by omega) (by omega))]
    exact hQ
  | succ m ih =>
    intro i cnt r P1 hi hS h5 hh hp
    have hn := hS.1.1.1
    obtain ⟨hLn, h20, h42, h8, hCs, hP⟩ := id hS
    have cond : nI (p + 1 + i) < gF r 42 5 - 1 := by
      rw [h5, show p + v + 2 = (p + v + 1) + 1 from rfl, nI_pred]
      exact nI_lt (by omega) (by omega)
    cases sec with
    | false =>
      have hS' : StR B n r T N false h (hrS false h (cnt + 1)) cs P1 := hS
      obtain ⟨r', E, S, M, G⟩ := ih (i + 1) (cnt + 1) r P1 (by omega) hS' h5 (fun q => Bool.noConfusion q) (by omega)
      refine ⟨r', fun b8 Q hQ => ?_, ?_, M, G⟩
      · obtain ⟨f, hf⟩ := E b8 Q (by rw [show cnt + 1 + m = cnt + (m + 1) by omega]; exact hQ)
        refine ⟨f + 1, ?_⟩
        unfold MO_data_28
        rw [if_pos cond]
        refine bnd_iff.mpr ?_
        rw [h42, if_pos (show kb false = 0 from rfl)]
        unfold MO_data_60
        refine bnd_iff.mpr ?_
        rw [nI_p1, nI_p1]
        exact hf
      · exact S
    | true =>
      have hhr : hrS true h cnt = h + cnt := rfl
      rw [hhr] at h20
      obtain ⟨r1, E1, P1', g1, M1, G1⟩ := layR hP h20 (by have := hh rfl; omega) (by omega) (nI (B (p + 1 + i)))
      have hS1 : StR B n r1 T N true h (hrS true h (cnt + 1)) cs (ptL (h + cnt) [nI (B (p + 1 + i))] P1) := hS.lay M1 P1' g1
      have h51 : gF r1 42 5 = nI (p + v + 2) := by
        rw [M1.2.1 5 (by decide)]
        exact h5
      obtain ⟨r', E, S, M, G⟩ := ih (i + 1) (cnt + 1) r1 _ (by omega) hS1 h51 (fun _ => by have := hh rfl; omega) (by show P1.2.1 + 1 + m < 2 ^ 29; omega)
      refine ⟨r', fun b8 Q hQ => ?_, ?_, M1.trans M, G.trans G1⟩
      · obtain ⟨f, hf⟩ := E b8 Q (by rw [show cnt + 1 + m = cnt + (m + 1) by omega]; exact hQ)
        refine ⟨f + 1, ?_⟩
        unfold MO_data_28
        rw [if_pos cond]
        refine bnd_iff.mpr ?_
        rw [h42, if_neg (show ¬ kb true = 0 by decide)]
        refine ⟨nI_in (by omega) (by omega), bnd_iff.mpr ?_⟩
        rw [nI_clamp (by omega), hLn.2.2.1.2 _ (by omega)]
        refine E1 _ ?_
        unfold MO_data_60
        refine bnd_iff.mpr ?_
        rw [nI_p1, nI_p1]
        exact hf
      · have e : ptS true (h + cnt) (txL B (p + 1 + i) (m + 1)) P1 = ptS true (h + (cnt + 1)) (txL B (p + 1 + (i + 1)) m) (ptL (h + cnt) [nI (B (p + 1 + i))] P1) := ptS_app true [nI (B (p + 1 + i))] (txL B (p + 1 + i + 1) m) (h + cnt) P1
        rw [e]
        rw [show cnt + 1 + m = cnt + (m + 1) by omega] at S
        exact S
/-- the octets of a number -/
theorem layO {B : Nat → Nat} {n : Nat} {T : List Tk} {N : Nt} {h cnt : Nat} {cs : Cs} {r : vmD} {P1 : Pt} (hS : StR B n r T N true h (h + cnt) cs P1) (o : Bool) (v : Int32) (hh : h + cnt + (if o = true then 1 else 2) ≤ 65536) (hp : P1.2.1 < 2 ^ 29) (h22 : gF r 42 22 = v) : ∃ r', (∀ (b8 : Int32 → Int32 → Int32 → Int32 → vmD → Prop) (x1 x3 x4 : Int32) (Q : Int32 → vmD → Prop), MO_data_189 b8 x1 (kb (!o)) x3 x4 r' Q → MO_data_164 b8 x1 (kb (!o)) x3 x4 r Q) ∧ StR B n r' T N true h (h + (cnt + (if o = true then 1 else 2))) cs (ptL (h + cnt) (numO (if o = true then 1 else 2) v) P1) ∧ ModR [20, 39, 40] [56] r r' ∧ gG r' = gG r := by
  obtain ⟨hLn, h20, h42, h8, hCs, hP⟩ := id hS
  cases o with
  | true =>
    rw [if_pos rfl] at hh ⊢
    obtain ⟨r1, E1, P1', g1, M1, G1⟩ := layR hP h20 (by omega) (by omega) v
    refine ⟨r1, fun b8 x1 x3 x4 Q hQ => ?_, hS.lay M1 P1' g1, M1, G1⟩
    unfold MO_data_164
    refine bnd_iff.mpr ?_
    rw [h22]
    refine E1 _ ?_
    rw [if_pos (show kb (!true) = 0 from rfl)]
    exact hQ
  | false =>
    rw [if_neg Bool.false_ne_true] at hh ⊢
    obtain ⟨r1, E1, P1', g1, M1, G1⟩ := layR hP h20 (by omega) (by omega) v
    obtain ⟨r2, E2, P2', g2, M2, G2⟩ := layR P1' g1 (by omega) (by show P1.2.1 + 1 < 2 ^ 30; omega) (v >>> ((8 : Int32) &&& 31))
    have e : ptL (h + cnt) (numO 2 v) P1 = ptL (h + cnt + 1) [v >>> ((8 : Int32) &&& 31)] (ptL (h + cnt) [v] P1) := ptL_app [v] [v >>> ((8 : Int32) &&& 31)] (h + cnt) P1
    rw [e]
    refine ⟨r2, fun b8 x1 x3 x4 Q hQ => ?_, hS.lay (M1.trans M2) P2' g2, M1.trans M2, G2.trans G1⟩
    unfold MO_data_164
    refine bnd_iff.mpr ?_
    rw [h22]
    refine E1 _ ?_
    rw [if_neg (show ¬ kb (!false) = 0 by decide)]
    exact E2 _ hQ
theorem hrS_s {sec : Bool} {h a b : Nat} (e : a = b) : hrS sec h a = hrS sec h b := by rw [e]
/-- an item -/
theorem itmR {B : Nat → Nat} {n : Nat} {T : List Tk} {N : Nt} {sec o : Bool} {h t : Nat} {cs : Cs} {p cnt : Nat} {r : vmD} {P1 : Pt} (hp : p < T.length) (hC : CurR r (tk T p)) (hS : StR B n r T N sec h (hrS sec h cnt) cs P1) (hh : sec = true → h + cnt + (itO B o T N (nI h) p).length ≤ 65536) (hw : sec = true → itS o T N (nI h) p = none) (hP1 : P1.2.1 < 2 ^ 28) : ∃ r1 b, (∀ (Q : Int32 → vmD → Prop) (m : Nat), (if b = 0 then Q 0 r1 else MO_data_189 (MO_data_8 Q m) (nI (plaT T t)) (kb (!o)) (nI (cnt + (itO B o T N (nI h) p).length)) (nI h) r1 Q) → MO_data_8 Q (m + 1) (nI (plaT T t)) (kb (!o)) (nI cnt) (nI h) r) ∧ ModR GRF GRA r r1 ∧ OutR (if sec = true then itF o T N (nI h) p else itS o T N (nI h) p) b r1 (StR B n r1 T N sec h (hrS sec h (cnt + (itO B o T N (nI h) p).length)) cs (ptS sec (h + cnt) (itO B o T N (nI h) p) P1) ∧ CurR r1 (tk T (itX o T N (nI h) p))) := by
  obtain ⟨hLn, h20, h42, h8, hCs, hP⟩ := id hS
  have hL := hLn.2.1
  have hkp := tk_kd hL p
  by_cases z : itT o T p = true
  · have eX : itX o T N (nI h) p = p + 1 := if_pos z
    have eS : itS o T N (nI h) p = none := if_pos z
    have eF : itF o T N (nI h) p = none := if_pos z
    have eO : itO B o T N (nI h) p = txL B (plaT T p + 1) (tk T p).2.2.2 := if_pos z
    have eG : (if sec = true then itF o T N (nI h) p else itS o T N (nI h) p) = none := by
      rw [eF, eS]
      split <;> rfl
    have z2 := z
    unfold itT at z2
    rw [Bool.and_eq_true, decide_eq_true_eq] at z2
    obtain ⟨o1, k4⟩ := z2
    subst o1
    obtain ⟨t1, t2⟩ := text_tk hL hp k4
    have hn := hLn.1.1
    rw [eO, txL_len] at hh
    rw [eG, eX, eO, txL_len]
    obtain ⟨r1, E1, S1, M1, G1⟩ := txtR (x1 := nI (plaT T t)) t2 (tk T p).2.2.2 0 cnt r P1 (by omega) hS (by rw [hC.2.2.2.1, t1]) hh (by omega)
    have hC1 : CurR r1 (tk T p) := hC.mod M1 (by decide) (by decide) (by decide) (by decide) (by decide) (by rw [G1])
    obtain ⟨r2, E2, hC2, M2⟩ := nxR S1.1 (more hL hp (by omega)) hC1
    have h82 : gF r2 42 8 = 0 := by
      rw [M2.2.1 8 (by decide)]
      exact S1.2.2.2.1
    have S2 : StR B n r2 T N sec h (hrS sec h (cnt + (tk T p).2.2.2)) cs (ptS sec (h + cnt) (txL B (plaT T p + 1) (tk T p).2.2.2) P1) := S1.mod M2 h82 (by decide) (by decide)
    refine ⟨r2, 1, fun Q m hQ => ?_, (modLay M1).trans (modLF M2), Or.inl ⟨rfl, rfl, S2, hC2⟩⟩
    rw [if_neg (by decide)] at hQ
    unfold MO_data_8
    rw [if_pos (show kb (!true) = 0 from rfl), hC.1, if_pos ((rk1 hkp).2.2.mpr k4)]
    refine bnd_iff.mpr ?_
    rw [hC.2.1, nI_p1]
    exact E1 (MO_data_8 Q m) Q (E2 _ hQ)
  · have eX : itX o T N (nI h) p = xat T N (nI h) p := if_neg z
    have eS : itS o T N (nI h) p = xS T N (nI h) p := if_neg z
    have eF : itF o T N (nI h) p = nmF T N (nI h) p (loI o) (hiI o) := if_neg z
    have eO : itO B o T N (nI h) p = numO (if o = true then 1 else 2) (xvl T N (nI h) p) := if_neg z
    rw [eO, numO_len] at hh
    rw [eS] at hw
    rw [eX, eS, eF, eO, numO_len]
    have s73 : ∀ (Q : Int32 → vmD → Prop) (m : Nat), MO_data_73 (MO_data_8 Q m) (nI (plaT T t)) (kb (!o)) (nI cnt) (nI h) r Q → MO_data_8 Q (m + 1) (nI (plaT T t)) (kb (!o)) (nI cnt) (nI h) r := by
      intro Q m hQ
      unfold MO_data_8
      cases o with
      | false =>
        rw [if_neg (show ¬ kb (!false) = 0 by decide)]
        exact hQ
      | true =>
        rw [if_pos (show kb (!true) = 0 from rfl), hC.1, if_neg]
        · exact hQ
        · intro w
          apply z
          unfold itT
          rw [decide_eq_true ((rk1 hkp).2.2.mp w)]
          rfl
    obtain ⟨r1, b1, E1, M1, H1⟩ := xprR sec hp hLn hC h8
    have start : ∀ (Q : Int32 → vmD → Prop) (m : Nat), (if b1 = 0 then Q 0 r1 else MO_data_102 (MO_data_8 Q m) (nI (plaT T t)) (kb (!o)) (nI h) (nI (plaT T p)) (nI (if o = true then 1 else 2)) (nI cnt) r1 Q) → MO_data_8 Q (m + 1) (nI (plaT T t)) (kb (!o)) (nI cnt) (nI h) r := by
      intro Q m hQ
      refine s73 Q m ?_
      unfold MO_data_73
      refine bnd_iff.mpr ?_
      rw [hC.2.1, h42]
      refine E1 _ ?_
      by_cases w : b1 = 0
      · rw [if_pos w] at hQ ⊢
        exact hQ
      · rw [if_neg w] at hQ ⊢
        cases o with
        | false =>
          rw [if_neg (show ¬ kb (!false) = 0 by decide)]
          exact hQ
        | true =>
          rw [if_pos (show kb (!true) = 0 from rfl)]
          exact hQ
    have eFq : ∀ q, (if sec = true then xF T N (nI h) p else xS T N (nI h) p) = some q → (if sec = true then nmF T N (nI h) p (loI o) (hiI o) else xS T N (nI h) p) = some q := by
      intro q hq
      cases sec with
      | true =>
        rw [if_pos rfl] at hq ⊢
        unfold nmF
        rw [hq, thF_some]
      | false => exact hq
    cases eG : (if sec = true then xF T N (nI h) p else xS T N (nI h) p) with
    | some q =>
      obtain ⟨f0, f1⟩ := H1.bad eG
      refine ⟨r1, 0, fun Q m hQ => start Q m ?_, modRF M1, Or.inr ⟨q, eFq q eG, rfl, f1⟩⟩
      rw [f0, if_pos rfl]
      rw [if_pos rfl] at hQ
      exact hQ
    | none =>
      obtain ⟨f0, hC1, h81, hok, hv⟩ := H1.good eG
      have hS1 : StR B n r1 T N sec h (hrS sec h cnt) cs P1 := hS.mod M1 h81 (by decide) (by decide)
      cases sec with
      | false =>
        have eP : ptS false (h + cnt) (numO (if o = true then 1 else 2) (xvl T N (nI h) p)) P1 = P1 := rfl
        rw [eP]
        refine ⟨r1, 1, fun Q m hQ => start Q m ?_, modRF M1, Or.inl ⟨eG, rfl, hS1, hC1⟩⟩
        rw [if_neg (by decide)] at hQ
        rw [f0, if_neg (by decide)]
        unfold MO_data_102
        refine bnd_iff.mpr ?_
        rw [hS1.2.2.1, if_pos (show kb false = 0 from rfl), nI_add]
        exact hQ
      | true =>
        have hv := hv rfl
        rw [if_pos rfl] at eG ⊢
        have hS1' : StR B n r1 T N true h (h + cnt) cs P1 := hS1
        have start : ∀ (Q : Int32 → vmD → Prop) (m : Nat), (if xvl T N (nI h) p < loI o then MO_data_156 (nI (plaT T p)) r1 Q else if hiI o < xvl T N (nI h) p then MO_data_156 (nI (plaT T p)) r1 Q else MO_data_164 (MO_data_8 Q m) (nI (plaT T t)) (kb (!o)) (nI (cnt + (if o = true then 1 else 2))) (nI h) r1 Q) → MO_data_8 Q (m + 1) (nI (plaT T t)) (kb (!o)) (nI cnt) (nI h) r := by
          intro Q m hQ
          refine start Q m ?_
          rw [f0, if_neg (by decide)]
          unfold MO_data_102
          refine bnd_iff.mpr ?_
          rw [hS1.2.2.1, if_neg (show ¬ kb true = 0 by decide), nI_add, hv]
          cases o with
          | false =>
            rw [if_neg (show ¬ kb (!false) = 0 by decide)]
            exact hQ
          | true =>
            rw [if_pos (show kb (!true) = 0 from rfl)]
            exact hQ
        have bad : rgF (xvl T N (nI h) p) (loI o) (hiI o) (plaT T p) = some (5, plaT T p) → (∀ (Q : Int32 → vmD → Prop) (m : Nat), MO_data_156 (nI (plaT T p)) r1 Q → MO_data_8 Q (m + 1) (nI (plaT T t)) (kb (!o)) (nI cnt) (nI h) r) → ∃ r1 b, (∀ (Q : Int32 → vmD → Prop) (m : Nat), (if b = 0 then Q 0 r1 else MO_data_189 (MO_data_8 Q m) (nI (plaT T t)) (kb (!o)) (nI (cnt + (if o = true then 1 else 2))) (nI h) r1 Q) → MO_data_8 Q (m + 1) (nI (plaT T t)) (kb (!o)) (nI cnt) (nI h) r) ∧ ModR GRF GRA r r1 ∧ OutR (nmF T N (nI h) p (loI o) (hiI o)) b r1 (StR B n r1 T N true h (hrS true h (cnt + (if o = true then 1 else 2))) cs (ptS true (h + cnt) (numO (if o = true then 1 else 2) (xvl T N (nI h) p)) P1) ∧ CurR r1 (tk T (xat T N (nI h) p))) := by
          intro hr hgo
          obtain ⟨r2, -, -, E2, f2, M2⟩ := wrg30 h81 (plaT T p)
          refine ⟨r2, 0, fun Q m hQ => hgo Q m (E2 Q ?_), (modRF M1).trans (mod89 M2), Or.inr ⟨(5, plaT T p), ?_, rfl, f2⟩⟩
          · rw [if_pos rfl] at hQ
            exact hQ
          · unfold nmF
            rw [eG, thF_none, hr]
        by_cases g1 : xvl T N (nI h) p < loI o
        · exact bad (if_pos g1) (fun Q m hQ => start Q m (by rw [if_pos g1]; exact hQ))
        · by_cases g2 : hiI o < xvl T N (nI h) p
          · exact bad ((if_neg g1).trans (if_pos g2)) (fun Q m hQ => start Q m (by rw [if_neg g1, if_pos g2]; exact hQ))
          · obtain ⟨r2, E2, S2, M2, G2⟩ := layO hS1' o (xvl T N (nI h) p) (hh rfl) (by omega) hv
            refine ⟨r2, 1, fun Q m hQ => start Q m ?_, (modRF M1).trans (modLay M2), Or.inl ⟨?_, rfl, S2, hC1.mod M2 (by decide) (by decide) (by decide) (by decide) (by decide) (by rw [G2])⟩⟩
            · rw [if_neg (by decide)] at hQ
              rw [if_neg g1, if_neg g2]
              exact E2 _ _ _ _ Q hQ
            · unfold nmF rgF
              rw [eG, thF_none, if_neg g1, if_neg g2]
theorem c65K (s : Nat) (hs : s < 2 ^ 31) : (65536 : Int32) < nI s ↔ 65536 < s := by
  refine ⟨fun q => Decidable.byContradiction fun w => ?_, fun q => ?_⟩
  · exact absurd q (show ¬ (65536 : Int32) < nI s from nI_nlt (a := 65536) (by omega) (by omega))
  · exact (show (65536 : Int32) < nI s from nI_lt (a := 65536) q (by omega))
theorem datLR {B : Nat → Nat} {n : Nat} {T : List Tk} {N : Nt} {sec o : Bool} {h t : Nat} {cs : Cs} : ∀ (f p cnt : Nat) (r : vmD) (P1 : Pt), T.length ≤ p + f → p < T.length → CurR r (tk T p) → StR B n r T N sec h (hrS sec h cnt) cs P1 → (sec = true → dtS o T N (nI h) f p = none ∧ h + cnt + (dtO B o T N (nI h) f p).length ≤ 65536) → P1.2.1 + 6000 * f < 2 ^ 28 → h + cnt + 6000 * f < 2 ^ 30 → ∃ r' b, (∀ Q : Int32 → vmD → Prop, Q b r' → ∃ m, MO_data_8 Q m (nI (plaT T t)) (kb (!o)) (nI cnt) (nI h) r) ∧ ModR GRF GRA r r' ∧ OutR (thF (if sec = true then dtF o T N (nI h) f p else dtS o T N (nI h) f p) (goF T t h (cnt + (dtO B o T N (nI h) f p).length))) b r' (StR B n r' T N sec h (h + (cnt + (dtO B o T N (nI h) f p).length)) cs (ptS sec (h + cnt) (dtO B o T N (nI h) f p) P1) ∧ AtE r' T) := by
  intro f
  induction f with
  | zero => intro p cnt r P1 hf hp; omega
  | succ f ih =>
    intro p cnt r P1 hf hp hC hS hw hP hcnt
    have hLn := hS.1
    have hL := hLn.2.1
    have hTl := hL.2.1
    obtain ⟨x, hx⟩ : ∃ x, x = itX o T N (nI h) p := ⟨_, rfl⟩
    have hxl : x < T.length := by rw [hx]; exact itX_lt hL hp
    have hxg : p ≤ x := by rw [hx]; exact itX_ge
    have hlen := itO_len hLn.1 hL (o := o) (N := N) (here := nI h) hp
    have hkx := tk_kd hL x
    have eS : dtS o T N (nI h) (f + 1) p = thF (itS o T N (nI h) p) (if (tk T x).1 = 44 then dtS o T N (nI h) f (x + 1) else endF T x) := by
      rw [hx]
      rfl
    have eF : dtF o T N (nI h) (f + 1) p = thF (itF o T N (nI h) p) (if (tk T x).1 = 44 then dtF o T N (nI h) f (x + 1) else none) := by
      rw [hx]
      rfl
    have eO : dtO B o T N (nI h) (f + 1) p = itO B o T N (nI h) p ++ (if (tk T x).1 = 44 then dtO B o T N (nI h) f (x + 1) else []) := by
      rw [hx]
      rfl
    rw [eS, eF, eO]
    rw [eS, eO] at hw
    rw [List.length_append] at hw ⊢
    obtain ⟨r1, b1, E1, M1, H1⟩ := itmR (t := t) hp hC hS (fun z => by have := (hw z).2; omega) (fun z => (thF_eq (hw z).1).1) (by omega)
    rw [← hx] at H1
    obtain ⟨rest, hrest⟩ : ∃ rest : Fo, rest = (if sec = true then (if (tk T x).1 = 44 then dtF o T N (nI h) f (x + 1) else none) else (if (tk T x).1 = 44 then dtS o T N (nI h) f (x + 1) else endF T x)) := ⟨_, rfl⟩
    have eAll : (if sec = true then thF (itF o T N (nI h) p) (if (tk T x).1 = 44 then dtF o T N (nI h) f (x + 1) else none) else thF (itS o T N (nI h) p) (if (tk T x).1 = 44 then dtS o T N (nI h) f (x + 1) else endF T x)) = thF (if sec = true then itF o T N (nI h) p else itS o T N (nI h) p) rest := by
      rw [hrest]
      cases sec with
      | true => rw [if_pos rfl, if_pos rfl, if_pos rfl]
      | false => rw [if_neg Bool.false_ne_true, if_neg Bool.false_ne_true, if_neg Bool.false_ne_true]
    rw [eAll]
    cases eG : (if sec = true then itF o T N (nI h) p else itS o T N (nI h) p) with
    | some q =>
      obtain ⟨f0, f1⟩ := H1.bad eG
      refine ⟨r1, 0, fun Q hQ => ⟨1, E1 Q 0 ?_⟩, M1, Or.inr ⟨q, rfl, rfl, f1⟩⟩
      rw [f0, if_pos rfl]
      exact hQ
    | none =>
      obtain ⟨f0, S1, hC1⟩ := H1.good eG
      rw [thF_none]
      have E1 : ∀ (Q : Int32 → vmD → Prop) (m : Nat), MO_data_189 (MO_data_8 Q m) (nI (plaT T t)) (kb (!o)) (nI (cnt + (itO B o T N (nI h) p).length)) (nI h) r1 Q → MO_data_8 Q (m + 1) (nI (plaT T t)) (kb (!o)) (nI cnt) (nI h) r := fun Q m hQ => E1 Q m (by rw [f0, if_neg (by decide)]; exact hQ)
      have k1 : gF r1 42 3 = 1 ↔ (tk T x).1 = 0 := by
        rw [hC1.1]
        exact (rk1 hkx).1
      have hpt : (ptS sec (h + cnt) (itO B o T N (nI h) p) P1).2.1 + 6000 * f < 2 ^ 28 := by
        unfold ptS
        split
        · show P1.2.1 + (itO B o T N (nI h) p).length + 6000 * f < 2 ^ 28
          omega
        · omega
      by_cases kc : (tk T x).1 = 44
      · rw [if_pos kc, if_pos kc] at hrest
        rw [if_pos kc, if_pos kc] at hw
        rw [if_pos kc]
        have hx1 : x + 1 < T.length := more hL hxl (by omega)
        have n1 : ¬ gF r1 42 3 = 1 := fun q => by have := k1.mp q; omega
        obtain ⟨r2, E2, hC2, M2⟩ := nxR S1.1 hx1 hC1
        have h82 : gF r2 42 8 = 0 := by
          rw [M2.2.1 8 (by decide)]
          exact S1.2.2.2.1
        have S2 := S1.mod M2 h82 (by decide) (by decide)
        obtain ⟨r3, b3, E3, M3, H3⟩ := ih (x + 1) (cnt + (itO B o T N (nI h) p).length) r2 _ (by omega) hx1 hC2 S2 (fun z => ⟨(thF_eq (hw z).1).2, by have := (hw z).2; omega⟩) hpt (by omega)
        rw [← hrest] at H3
        rw [← Nat.add_assoc, ptS_app]
        rw [show h + (cnt + (itO B o T N (nI h) p).length) = h + cnt + (itO B o T N (nI h) p).length from (Nat.add_assoc _ _ _).symm] at H3
        refine ⟨r3, b3, fun Q hQ => ?_, (M1.trans (modLF M2)).trans M3, H3⟩
        obtain ⟨m, hm⟩ := E3 Q hQ
        refine ⟨m + 1, E1 Q m ?_⟩
        unfold MO_data_189
        rw [if_neg n1, show (44 : Int32) = nI 44 from rfl, sign_e hC1 hkx (by omega) (by omega) (by omega) (by omega), if_pos kc, if_neg (by decide)]
        exact E2 _ hm
      · rw [if_neg kc, if_neg kc] at hrest
        rw [if_neg kc, if_neg kc] at hw
        rw [if_neg kc, List.append_nil]
        show ∃ r' b, _ ∧ _ ∧ OutR (thF rest (goF T t h (cnt + ((itO B o T N (nI h) p).length + 0)))) b r' (StR B n r' T N sec h (h + (cnt + ((itO B o T N (nI h) p).length + 0))) cs _ ∧ _)
        rw [Nat.add_zero]
        by_cases z : (tk T x).1 = 0
        · have er : rest = none := by
            rw [hrest]
            cases sec with
            | true => rfl
            | false => exact if_pos z
          rw [er, thF_none]
          have c65 : (65536 : Int32) < nI h + nI (cnt + (itO B o T N (nI h) p).length) ↔ 65536 < h + (cnt + (itO B o T N (nI h) p).length) := by
            rw [nI_add]
            exact c65K _ (by omega)
          by_cases g : 65536 < h + (cnt + (itO B o T N (nI h) p).length)
          · have eg : goF T t h (cnt + (itO B o T N (nI h) p).length) = some (8, plaT T t) := if_pos g
            obtain ⟨r2, E2, f2, M2, -⟩ := wrgR S1.2.2.2.1 8 (plaT T t)
            refine ⟨r2, 0, fun Q hQ => ⟨1, E1 Q 0 ?_⟩, M1.trans (mod89 M2), Or.inr ⟨_, eg, rfl, f2⟩⟩
            unfold MO_data_189
            rw [if_pos (k1.mpr z), if_pos (c65.mpr g)]
            exact E2 _ ⟨Or.inl rfl, hQ⟩
          · have eg : goF T t h (cnt + (itO B o T N (nI h) p).length) = none := if_neg g
            have M2 : ModR [20, 39, 40] [56] r1 (sF r1 42 20 (nI (h + (cnt + (itO B o T N (nI h) p).length)))) := (ModR.refl _ _ r1).sF (by decide) _
            refine ⟨sF r1 42 20 (nI (h + (cnt + (itO B o T N (nI h) p).length))), 1, fun Q hQ => ⟨1, E1 Q 0 ?_⟩, M1.trans (modLay M2), Or.inl ⟨eg, rfl, S1.lay M2 ?_ (by rw [gF_sF, u1f_eq]), x, hxl, z, ?_⟩⟩
            · unfold MO_data_189
              rw [if_pos (k1.mpr z), if_neg (fun q => g (c65.mp q)), nI_add]
              exact bnd_iff.mpr hQ
            · have g2 := S1.2.2.2.2.2
              unfold PtR at g2 ⊢
              refine ⟨g2.1, fun q => ⟨?_, ?_⟩⟩
              · rw [gF_sF, u1f_ne _ _ (by decide)]
                exact (g2.2 q).1
              · rw [gF_sF, u1f_ne _ _ (by decide)]
                exact (g2.2 q).2
            · rw [M2.2.1 2 (by decide)]
              exact hC1.2.2.1
        · have z1 : sec = false := by
            cases sec with
            | false => rfl
            | true => exact absurd (endF_none (thF_eq (hw rfl).1).2) z
          have er : rest = some (rfc T x, plaT T x) := by
            rw [hrest, z1]
            exact if_neg z
          obtain ⟨r2, E2, f2, M2⟩ := rfsR hC1 S1.2.2.2.1 hkx
          refine ⟨r2, 0, fun Q hQ => ⟨1, E1 Q 0 ?_⟩, M1.trans (mod89 M2), Or.inr ⟨_, by rw [er, thF_some], rfl, f2⟩⟩
          unfold MO_data_189
          rw [if_neg (fun q => z (k1.mp q)), show (44 : Int32) = nI 44 from rfl, sign_e hC1 hkx (by omega) (by omega) (by omega) (by omega), if_neg kc, if_pos rfl]
          exact E2 _ ⟨Or.inl rfl, hQ⟩
theorem datR {B : Nat → Nat} {n : Nat} {r : vmD} {T : List Tk} {N : Nt} {sec : Bool} {h : Nat} {cs : Cs} {P : Pt} (hS : StR B n r T N sec h h cs P) (hh : h ≤ 65536) (hp : P.2.1 < 2 ^ 27) (o : Bool) {t : Nat} (ht : t + 1 < T.length) (hC : CurR r (tk T (t + 1))) (hw : sec = true → daF B o T N (nI h) t h = none) : SoR B n r T sec h (fun r Q => MO_data (nI (plaT T t)) (kb (!o)) r Q) (if sec = true then dtF o T N (nI h) T.length (t + 1) else daF B o T N (nI h) t h) N (h + (dtO B o T N (nI h) T.length (t + 1)).length) cs (ptS sec h (dtO B o T N (nI h) T.length (t + 1)) P) := by
  have hL := hS.1.2.1
  have hTl := hL.2.1
  have hgo : ∀ {s : Nat}, goF T t h s = none → h + s ≤ 65536 := by
    intro s hs
    unfold goF at hs
    by_cases q : 65536 < h + s
    · rw [if_pos q] at hs
      cases hs
    · omega
  have hS0 : StR B n r T N sec h (hrS sec h 0) cs P := by
    have : hrS sec h 0 = h := by
      unfold hrS
      split <;> rfl
    rw [this]
    exact hS
  obtain ⟨r', b, E, M, H⟩ := datLR (t := t) (o := o) T.length (t + 1) 0 r P (by omega) ht hC hS0 (fun z => by
    obtain ⟨a, b⟩ := thF_eq (hw z)
    exact ⟨a, by have := hgo b; omega⟩) (by omega) (by omega)
  rw [Nat.zero_add, Nat.add_zero] at H
  refine ⟨r', b, fun Q hQ => ?_, M, ?_⟩
  · show MO_data (nI (plaT T t)) (kb (!o)) r Q
    unfold MO_data
    refine bnd_iff.mpr ?_
    rw [hS.2.1]
    exact E Q hQ
  · have e : (if sec = true then dtF o T N (nI h) T.length (t + 1) else daF B o T N (nI h) t h) = thF (if sec = true then dtF o T N (nI h) T.length (t + 1) else dtS o T N (nI h) T.length (t + 1)) (goF T t h (dtO B o T N (nI h) T.length (t + 1)).length) := by
      cases sec with
      | true =>
        rw [if_pos rfl, if_pos rfl, (thF_eq (hw rfl)).2, thF_n]
      | false => rfl
    rw [e]
    exact H
