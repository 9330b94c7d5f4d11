/-! Lines that are done, on both sides -/
theorem OutR.b01 {F : Fo} {b : Int32} {r : vmD} {S : Prop} (h : OutR F b r S) : b = 0 ∨ b = 1 := by
  rcases h with ⟨-, h, -⟩ | ⟨q, -, h, -⟩
  · exact Or.inr h
  · exact Or.inl h
theorem stmR {B : Nat → Nat} {n : Nat} {r : vmD} {T : List Tk} {N : Nt} {sec : Bool} {h : Nat} {cs : Cs} {P : Pt} (hS : StR B n r T N sec h h cs P) (hh : h ≤ 65536) (hp : P.2.1 < 2 ^ 27) {t : Nat} (ht : t + 1 < T.length) (hk : (tk T t).1 = 2) (hne : ¬ isEq T t = true) (hC : CurR r (tk T (t + 1))) (hw : sec = true → stF B T N h cs t = none) : SoR B n r T sec h (fun r Q => MO_statement (nI (plaT T t)) (wOfK (tk T t).2.2.2) r Q) (if sec = true then stB T N h t else stF B T N h cs t) N (stH B T N h t) (stCs T N h cs t) (ptS sec h (stO B T N h t) P) := by
  obtain ⟨hLn, h20, h42, h8, hCs, hP⟩ := id hS
  have hL := hLn.2.1
  have z0 : ¬ (tk T t).1 = 0 := by omega
  have a1 : ¬ ¬ (tk T t).1 = 2 := fun q => q hk
  have hg := nm_g hL (t := t) (by omega) hk
  have hid := idN_lt (tk T t).2.2.2
  obtain ⟨w, hwd⟩ : ∃ w, w = idN (tk T t).2.2.2 := ⟨_, rfl⟩
  obtain ⟨W, hW⟩ : ∃ W, W = wOfK (tk T t).2.2.2 := ⟨_, rfl⟩
  have q99 := wORG hg
  have q101 := wDB hg
  have q102 := wDW hg
  have q103 := wDS hg
  have q104 := wIF hg
  have q105 := wELSE hg
  have q106 := wENDIF hg
  have qSt := wSt hg
  have qIn := wIn hg
  rw [← hwd, ← hW] at q99 q101 q102 q103 q104 q105 q106 qSt qIn
  rw [← hwd] at hid
  rw [← hW]
  by_cases wi : 32 ≤ w ∧ w < 99
  · have wi2 := wi
    rw [hwd] at wi2
    have e1 : stF B T N h cs t = inF T N (nI h) t w h := by
      unfold stF
      rw [if_neg z0, if_neg a1, if_neg hne, if_pos wi2, hwd]
    have e2 : stB T N h t = inBo T N (nI h) t w h := by
      unfold stB
      rw [if_neg z0, if_neg a1, if_neg hne, if_pos wi2, hwd]
    have e3 : stO B T N h t = inOo T N (nI h) t w h := by
      unfold stO
      rw [if_neg z0, if_neg a1, if_neg hne, if_pos wi2, hwd]
    have e4 : stH B T N h t = h + (stO B T N h t).length := if_neg (fun v => by have := v.2.2; omega)
    have e5 : stCs T N h cs t = cs := if_neg (fun v => by have := v.2.2; omega)
    rw [e1] at hw
    obtain ⟨r', b, E, M, H⟩ := insR hS hh hp wi ht hC hw
    rw [e1, e2, e5, e4, e3]
    have eW : W = wId w := by
      rw [hW, hwd]
      exact wId_k (by omega)
    refine ⟨r', b, fun Q hQ => ?_, M, H⟩
    show MO_statement (nI (plaT T t)) W r Q
    unfold MO_statement
    rw [MO_isStatement_e, if_pos (qSt.mpr (by omega)), MO_plain_e]
    have E := E Q hQ
    rw [← eW] at E
    by_cases y : MO_plain_v W < 0
    · rw [if_pos y, MO_isMany_e, if_neg (fun y2 => (qIn.mp ⟨y, y2⟩) wi)]
      exact E
    · rw [if_neg y]
      exact E
  · have wi2 := wi
    rw [hwd] at wi2
    have d1 : stF B T N h cs t = (if w = 99 then orgF T N (nI h) t else if w = 101 then daF B true T N (nI h) t h else if w = 102 then daF B false T N (nI h) t h else if w = 103 then spF T N (nI h) t h else if w = 104 ∨ w = 105 ∨ w = 106 then cdF T N (nI h) t w cs else some (6, plaT T t)) := by
      unfold stF
      rw [if_neg z0, if_neg a1, if_neg hne, if_neg wi2, hwd]
    have d2 : stB T N h t = (if w = 99 then none else if w = 101 then dtF true T N (nI h) T.length (t + 1) else if w = 102 then dtF false T N (nI h) T.length (t + 1) else if w = 103 then spB T N (nI h) t else none) := by
      unfold stB
      rw [if_neg z0, if_neg a1, if_neg hne, if_neg wi2, hwd]
    have d3 : stO B T N h t = (if w = 99 then [] else if w = 101 then dtO B true T N (nI h) T.length (t + 1) else if w = 102 then dtO B false T N (nI h) T.length (t + 1) else if w = 103 then spO T N (nI h) t else []) := by
      unfold stO
      rw [if_neg z0, if_neg a1, if_neg hne, if_neg wi2, hwd]
    have d4 : ¬ w = 99 → stH B T N h t = h + (stO B T N h t).length := fun v => if_neg (fun u => v (hwd.trans u.2.2))
    have d5 : ¬ (w = 104 ∨ w = 105 ∨ w = 106) → stCs T N h cs t = cs := fun v => if_neg (fun u => v (hwd ▸ u.2.2))
    by_cases wd : w = 99 ∨ w = 101 ∨ w = 102 ∨ w = 103 ∨ w = 104 ∨ w = 105 ∨ w = 106
    · have start : ∀ Q : Int32 → vmD → Prop, (MO_directive (nI (plaT T t)) W r fun r_30 d_29 => (r_30 = 0 ∨ r_30 = 1) ∧ Q r_30 d_29) → MO_statement (nI (plaT T t)) W r Q := by
        intro Q hQ
        unfold MO_statement
        rw [MO_isStatement_e, if_neg (fun q => (qSt.mp q) wd)]
        exact hQ
      by_cases w99 : w = 99
      · rw [if_pos w99] at d1 d2 d3
        have e4 : stH B T N h t = (xvl T N (nI h) (t + 1)).toNatClampNeg := if_pos ⟨hk, hne, hwd ▸ w99⟩
        obtain ⟨r', b, E, M, H⟩ := orgR hS ht hC
        have hb := H.b01
        rw [d1, d2, d3, d5 (by omega), e4, ptS_nil]
        have eF : (if sec = true then none else orgF T N (nI h) t) = orgF T N (nI h) t := by
          cases sec with
          | false => rfl
          | true =>
            have := hw rfl
            rw [d1] at this
            rw [this]
            rfl
        rw [eF]
        refine ⟨r', b, fun Q hQ => start Q ?_, M, H⟩
        unfold MO_directive
        rw [if_neg (fun v => by have := q101.mp v; omega), if_neg (fun v => by have := q102.mp v; omega), if_pos (q99.mpr w99)]
        exact E _ ⟨hb, hQ⟩
      · rw [if_neg w99] at d1 d2 d3
        rw [d4 w99]
        by_cases w101 : w = 101
        · rw [if_pos w101] at d1 d2 d3
          rw [d1] at hw
          obtain ⟨r', b, E, M, H⟩ := datR hS hh hp true ht hC hw
          have hb := H.b01
          rw [d1, d2, d3, d5 (by omega)]
          refine ⟨r', b, fun Q hQ => start Q ?_, M, H⟩
          unfold MO_directive
          rw [if_pos (q101.mpr w101)]
          unfold MO_directive_16
          rw [if_neg (fun v => by have := q102.mp v; omega)]
          unfold MO_directive_31
          exact E _ ⟨hb, hb, hQ⟩
        · rw [if_neg w101] at d1 d2 d3
          by_cases w102 : w = 102
          · rw [if_pos w102] at d1 d2 d3
            rw [d1] at hw
            obtain ⟨r', b, E, M, H⟩ := datR hS hh hp false ht hC hw
            have hb := H.b01
            rw [d1, d2, d3, d5 (by omega)]
            refine ⟨r', b, fun Q hQ => start Q ?_, M, H⟩
            unfold MO_directive
            rw [if_neg (fun v => by have := q101.mp v; omega), if_pos (q102.mpr w102)]
            unfold MO_directive_16
            rw [if_pos (q102.mpr w102)]
            unfold MO_directive_31
            exact E _ ⟨hb, hb, hQ⟩
          · rw [if_neg w102] at d1 d2 d3
            have nd : ¬ lg_cmp W 17474 = 0 ∧ ¬ lg_cmp W 17495 = 0 ∧ ¬ lg_cmp W 5198407 = 0 := ⟨fun v => w101 (q101.mp v), fun v => w102 (q102.mp v), fun v => w99 (q99.mp v)⟩
            by_cases w103 : w = 103
            · rw [if_pos w103] at d1 d2 d3
              rw [d1] at hw
              obtain ⟨r', b, E, M, H⟩ := spcR hS hh (by omega) ht hC hw
              have hb := H.b01
              have e8 : (spO T N (nI h) t).length = spN T N (nI h) t := List.length_replicate
              rw [d1, d2, d3, d5 (by omega), e8]
              refine ⟨r', b, fun Q hQ => start Q ?_, M, H⟩
              unfold MO_directive
              rw [if_neg nd.1, if_neg nd.2.1, if_neg nd.2.2, if_pos (q103.mpr w103)]
              exact E _ ⟨hb, hb, hQ⟩
            · rw [if_neg w103] at d1 d2 d3
              have wc : w = 104 ∨ w = 105 ∨ w = 106 := by omega
              rw [if_pos wc] at d1
              have e5 : stCs T N h cs t = pas w (decide (¬ xvl T N (nI h) (t + 1) = 0)) cs := by
                unfold stCs
                rw [← hwd]
                exact if_pos ⟨hk, hne, wc⟩
              rw [d3, d2, d1, e5, ptS_nil]
              have eF : (if sec = true then none else cdF T N (nI h) t w cs) = cdF T N (nI h) t w cs := by
                cases sec with
                | false => rfl
                | true =>
                  have := hw rfl
                  rw [d1] at this
                  rw [this]
                  rfl
              rw [eF]
              have n103 : ¬ lg_cmp W 17491 = 0 := fun v => w103 (q103.mp v)
              by_cases w104 : w = 104
              · obtain ⟨r', b, E, M, H⟩ := ifR hS ht hC
                have hb := H.b01
                rw [w104]
                refine ⟨r', b, fun Q hQ => start Q ?_, M, H⟩
                unfold MO_directive
                rw [if_neg nd.1, if_neg nd.2.1, if_neg nd.2.2, if_neg n103, if_pos (q104.mpr w104)]
                exact E _ ⟨hb, hQ⟩
              · have n104 : ¬ lg_cmp W 18758 = 0 := fun v => w104 (q104.mp v)
                obtain ⟨r', b, E, M, H⟩ := trnR (p := plaT T t) (W := W) hCs h8 (show w = 105 ∨ w = 106 by omega) q105 false T (t + 1) (fun _ => ⟨hC, tk_kd hL (t + 1)⟩) (decide (¬ xvl T N (nI h) (t + 1) = 0))
                have hb := H.b01
                have eC : cdF T N (nI h) t w cs = (if alw w cs = true then (if false = true then none else endF T (t + 1)) else some (7, plaT T t)) := by
                  unfold cdF
                  by_cases y : alw w cs = true
                  · rw [if_pos y, if_pos y, if_neg w104, if_neg Bool.false_ne_true]
                  · rw [if_neg y, if_neg y]
                rw [eC]
                refine ⟨r', b, fun Q hQ => start Q ?_, M.mono (by decide) (by decide), ?_⟩
                · unfold MO_directive
                  rw [if_neg nd.1, if_neg nd.2.1, if_neg nd.2.2, if_neg n103, if_neg n104]
                  exact E _ ⟨hb, hb, hQ⟩
                · rcases H with ⟨f1, f2, f3, f4⟩ | H
                  · refine Or.inl ⟨f1, f2, ⟨hLn.mod M (by decide) (by decide), ?_, ?_, f4, f3, ?_⟩, t + 1, ht, ?_, ?_⟩
                    · rw [M.2.1 20 (by decide)]
                      exact h20
                    · rw [M.2.1 42 (by decide)]
                      exact h42
                    · unfold PtR at hP ⊢
                      rw [M.2.1 39 (by decide), M.2.1 40 (by decide), M.2.2.1 56 (by decide)]
                      exact hP
                    · by_cases y : alw w cs = true
                      · rw [if_pos y, if_neg Bool.false_ne_true] at f1
                        exact endF_none f1
                      · rw [if_neg y] at f1
                        cases f1
                    · rw [M.2.1 2 (by decide)]
                      exact hC.2.2.1
                  · exact Or.inr H
    · have e1 : stF B T N h cs t = some (6, plaT T t) := by
        rw [d1, if_neg (by omega), if_neg (by omega), if_neg (by omega), if_neg (by omega), if_neg (by omega)]
      have s0 : sec = false := by
        cases sec with
        | false => rfl
        | true =>
          have := hw rfl
          rw [e1] at this
          cases this
      obtain ⟨r', E, f, M, -⟩ := wrgR h8 6 (plaT T t)
      refine ⟨r', 0, fun Q hQ => ?_, mod89 M, Or.inr ⟨_, by rw [s0, if_neg Bool.false_ne_true]; exact e1, rfl, f⟩⟩
      show MO_statement (nI (plaT T t)) W r Q
      obtain ⟨y1, y2⟩ := qIn.mpr wi
      unfold MO_statement
      rw [MO_isStatement_e, if_pos (qSt.mpr wd), MO_plain_e, if_pos y1, MO_isMany_e, if_pos y2]
      exact E _ ⟨Or.inl rfl, hQ⟩
/-- a statement that has a name at its head -/
theorem s143R {B : Nat → Nat} {n : Nat} {r : vmD} {T : List Tk} {N : Nt} {sec : Bool} {h : Nat} {cs : Cs} {P : Pt} (hS : StR B n r T N sec h h cs P) (hh : h ≤ 65536) (hp : P.2.1 < 2 ^ 27) {t : Nat} (ht : t + 1 < T.length) (hk : (tk T t).1 = 2) (hC : CurR r (tk T (t + 1))) (hw : sec = true → stF B T N h cs t = none) : SoR B n r T sec h (fun r Q => MO_readLine_143 (nI (plaT T t)) (nI (tk T t).2.2.1) (wOfK (tk T t).2.2.2) r Q) (if sec = true then stB T N h t else thF (stFr 1 T N t) (stF B T N h cs t)) (stNt (whS sec) T N h t) (stH B T N h t) (stCs T N h cs t) (ptS sec h (stO B T N h t) P) := by
  have hL := hS.1.2.1
  have z0 : ¬ (tk T t).1 = 0 := by omega
  have a1 : ¬ ¬ (tk T t).1 = 2 := fun q => q hk
  have hk1 := tk_kd hL (t + 1)
  by_cases q : isEq T t = true
  · have q2 := q
    unfold isEq at q2
    rw [Bool.and_eq_true, decide_eq_true_eq, decide_eq_true_eq] at q2
    have ht2 : t + 2 < T.length := more hL ht (by omega)
    have hg1 := nm_g hL ht q2.1
    have e1 : stF B T N h cs t = eqF T N (nI h) t := by
      unfold stF
      rw [if_neg z0, if_neg a1, if_pos q]
    have e2 : stB T N h t = none := by
      unfold stB
      rw [if_neg z0, if_neg a1, if_pos q]
    have e3 : stO B T N h t = [] := by
      unfold stO
      rw [if_neg z0, if_neg a1, if_pos q]
    have e4 : stH B T N h t = h + (stO B T N h t).length := if_neg (fun w => w.2.1 q)
    have e5 : stCs T N h cs t = cs := if_neg (fun w => w.2.1 q)
    have e6 : stFr 1 T N t = frF 1 T N t := if_pos ⟨hk, q⟩
    have e7 : stNt (whS sec) T N h t = tlN (whS sec) T N t (xvl T N (nI h) (t + 2)) := if_pos ⟨hk, q⟩
    obtain ⟨r1, E1, C1, M1⟩ := nxR hS.1 ht2 hC
    have h81 : gF r1 42 8 = 0 := by
      rw [M1.2.1 8 (by decide)]
      exact hS.2.2.2.1
    have hS1 := hS.mod M1 h81 (by decide) (by decide)
    obtain ⟨r2, b, E2, M2, H2⟩ := equR hS1 ht2 hk C1
    have hb := H2.b01
    have eF : (if sec = true then stB T N h t else thF (stFr 1 T N t) (stF B T N h cs t)) = thF (frF (whS sec) T N t) (eqF T N (nI h) t) := by
      cases sec with
      | false =>
        rw [if_neg Bool.false_ne_true, e1, e6]
        rfl
      | true =>
        have hn := hw rfl
        rw [e1] at hn
        have : frF (whS true) T N t = none := if_neg (fun z => absurd z.1 (by decide))
        rw [if_pos rfl, e2, this, hn]
        rfl
    rw [eF, e7, e5, e4, e3, ptS_nil]
    refine ⟨r2, b, fun Q hQ => ?_, (modLF M1).trans M2, H2⟩
    show MO_readLine_143 (nI (plaT T t)) (nI (tk T t).2.2.1) (wOfK (tk T t).2.2.2) r Q
    unfold MO_readLine_143
    rw [hC.1, if_pos ((rk1 hk1).2.1.mpr q2.1), cur_w hC q2.1, if_pos ((wEQU hg1).mpr q2.2)]
    exact E1 _ (E2 _ ⟨hb, hQ⟩)
  · have e6 : stFr 1 T N t = none := if_neg (fun w => q w.2)
    have e7 : stNt (whS sec) T N h t = N := if_neg (fun w => q w.2)
    obtain ⟨r2, b, E2, M2, H2⟩ := stmR hS hh hp ht hk q hC hw
    have hb := H2.b01
    rw [e6, thF_none, e7]
    refine ⟨r2, b, fun Q hQ => ?_, M2, H2⟩
    show MO_readLine_143 (nI (plaT T t)) (nI (tk T t).2.2.1) (wOfK (tk T t).2.2.2) r Q
    have e174 : MO_readLine_174 (nI (plaT T t)) (wOfK (tk T t).2.2.2) r Q := by
      unfold MO_readLine_174
      exact E2 _ ⟨hb, hQ⟩
    unfold MO_readLine_143
    by_cases y : (tk T (t + 1)).1 = 2
    · have hg1 := nm_g hL ht y
      rw [hC.1, if_pos ((rk1 hk1).2.1.mpr y), cur_w hC y, if_neg]
      · exact e174
      · intro v
        apply q
        unfold isEq
        rw [decide_eq_true y, decide_eq_true ((wEQU hg1).mp v)]
        rfl
    · rw [hC.1, if_neg (fun v => y ((rk1 hk1).2.1.mp v))]
      exact e174
/-- a line -/
def lbB (T : List Tk) : Bool := decide ((tk T 0).1 = 2) && decide ((tk T 1).1 = 58)
def lt0 (T : List Tk) : Nat := if lbB T = true then 2 else 0
def lbF (wh : Nat) (T : List Tk) (N : Nt) : Fo := if lbB T = true then frF wh T N 0 else none
def lbN (wh : Nat) (T : List Tk) (N : Nt) (h : Nat) : Nt := if lbB T = true then tlN wh T N 0 (nI h) else N
def liF (B : Nat → Nat) (wh : Nat) (T : List Tk) (N : Nt) (h : Nat) (cs : Cs) : Fo := thF (lbF wh T N) (if wh = 1 then thF (stFr wh T (lbN wh T N h) (lt0 T)) (stF B T (lbN wh T N h) h cs (lt0 T)) else if wh = 2 then stB T (lbN wh T N h) h (lt0 T) else none)
def liN (wh : Nat) (T : List Tk) (N : Nt) (h : Nat) : Nt := stNt wh T (lbN wh T N h) h (lt0 T)
def rdL (d : vmD) (Q : Int32 → vmD → Prop) : Prop := MO_next d fun d_7 => if (gF d_7 42 3) = 2 then (bnd (gF d_7 42 4) fun x1_9 => bnd (gF d_7 42 5) fun x2_10 => bnd (gG d_7 42 7) fun x3_11 => MO_next d_7 fun d_12 => MO_isSign 58 d_12 fun r_14 d_13 => if r_14 = 0 then (MO_readLine_143 x1_9 x2_10 x3_11 d_13 Q) else (MO_tell x1_9 x2_10 x3_11 (gF d_13 42 20) d_13 fun r_24 d_23 => if r_24 = 0 then (Q 0 d_23) else (MO_next d_23 fun d_26 => if (gF d_26 42 3) = 1 then (Q 1 d_26) else (if (gF d_26 42 3) = 2 then (bnd (gF d_26 42 4) fun x1_29 => bnd (gF d_26 42 5) fun x2_30 => bnd (gG d_26 42 7) fun x3_31 => MO_next d_26 fun d_32 => MO_readLine_143 x1_29 x2_30 x3_31 d_32 Q) else (MO_refuse d_26 fun r_34 d_33 => (r_34 = 0 ∨ r_34 = 1) ∧ Q r_34 d_33))))) else (if (gF d_7 42 3) = 1 then (Q 1 d_7) else (MO_refuse d_7 fun r_37 d_36 => if r_37 = 0 then (Q 0 d_36) else (Q 1 d_36)))
theorem end_st {B : Nat → Nat} {T : List Tk} {N : Nt} {h t : Nat} {cs : Cs} (wh : Nat) (z : (tk T t).1 = 0) : stF B T N h cs t = none ∧ stB T N h t = none ∧ stO B T N h t = [] ∧ stH B T N h t = h ∧ stCs T N h cs t = cs ∧ stFr wh T N t = none ∧ stNt wh T N h t = N := by
  have n2 : ¬ (tk T t).1 = 2 := by omega
  have e3 : stO B T N h t = [] := if_pos z
  refine ⟨if_pos z, if_pos z, e3, ?_, if_neg (fun q => n2 q.1), if_neg (fun q => n2 q.1), if_neg (fun q => n2 q.1)⟩
  have e4 : stH B T N h t = h + (stO B T N h t).length := if_neg (fun q => n2 q.1)
  rw [e4, e3]
  rfl
theorem bad_st {B : Nat → Nat} {T : List Tk} {N : Nt} {h t : Nat} {cs : Cs} (wh : Nat) (z : ¬ (tk T t).1 = 0) (z2 : ¬ (tk T t).1 = 2) : stF B T N h cs t = some (rfc T t, plaT T t) ∧ stFr wh T N t = none := by
  refine ⟨?_, if_neg (fun q => z2 q.1)⟩
  unfold stF
  rw [if_neg z, if_pos z2]
  rfl
theorem linR {B : Nat → Nat} {n p : Nat} {r : vmD} {T : List Tk} {N : Nt} {sec : Bool} {h : Nat} {cs : Cs} {P : Pt} (hS : StR B n r T N sec h h cs P) (hh : h ≤ 65536) (hp : P.2.1 < 2 ^ 27) (hpn : p ≤ n) (h2 : gF r 42 2 = nI p) (hT0 : tk T 0 = tkA B n p) (hw : sec = true → stF B T N h cs (lt0 T) = none) : SoR B n r T sec h rdL (liF B (whS sec) T N h cs) (liN (whS sec) T N h) (stH B T (lbN (whS sec) T N h) h (lt0 T)) (stCs T (lbN (whS sec) T N h) h cs (lt0 T)) (ptS sec h (stO B T (lbN (whS sec) T N h) h (lt0 T)) P) := by
  obtain ⟨hLn, h20, h42, h8, hCs, hP⟩ := id hS
  have hL := hLn.2.1
  have hT := hL.1
  obtain ⟨r1, E1, C1, M1⟩ := next_ok hLn.1 hLn.2.2.1 hpn h2
  rw [← hT0] at C1
  have h81 : gF r1 42 8 = 0 := by
    rw [M1.2.1 8 (by decide)]
    exact h8
  have hS1 : StR B n r1 T N sec h h cs P := hS.mod M1 h81 (by decide) (by decide)
  have hk0 := tk_kd hL 0
  have hk1 := tk_kd hL 1
  have hk2 := tk_kd hL 2
  have whs : whS sec = 1 ∨ whS sec = 2 := by
    cases sec
    · exact Or.inl rfl
    · exact Or.inr rfl
  have eWh : ∀ F G : Fo, (if whS sec = 1 then F else if whS sec = 2 then G else none) = (if sec = true then G else F) := by
    intro F G
    cases sec <;> rfl
  by_cases z2 : (tk T 0).1 = 2
  · have ht1 : 1 < T.length := more hL hT (by omega)
    obtain ⟨r2, E2, C2, M2⟩ := nxR hS1.1 (t := 0) ht1 C1
    have h82 : gF r2 42 8 = 0 := by
      rw [M2.2.1 8 (by decide)]
      exact h81
    have hS2 : StR B n r2 T N sec h h cs P := hS1.mod M2 h82 (by decide) (by decide)
    have start : ∀ Q : Int32 → vmD → Prop, (if (tk T 1).1 = 58 then (MO_tell (nI (plaT T 0)) (nI (tk T 0).2.2.1) (wOfK (tk T 0).2.2.2) (nI h) r2 fun r_24 d_23 => if r_24 = 0 then (Q 0 d_23) else (MO_next d_23 fun d_26 => if (gF d_26 42 3) = 1 then (Q 1 d_26) else (if (gF d_26 42 3) = 2 then (bnd (gF d_26 42 4) fun x1_29 => bnd (gF d_26 42 5) fun x2_30 => bnd (gG d_26 42 7) fun x3_31 => MO_next d_26 fun d_32 => MO_readLine_143 x1_29 x2_30 x3_31 d_32 Q) else (MO_refuse d_26 fun r_34 d_33 => (r_34 = 0 ∨ r_34 = 1) ∧ Q r_34 d_33)))) else (MO_readLine_143 (nI (plaT T 0)) (nI (tk T 0).2.2.1) (wOfK (tk T 0).2.2.2) r2 Q)) → rdL r Q := by
      intro Q hQ
      unfold rdL
      refine E1 _ ?_
      rw [C1.1, if_pos ((rk1 hk0).2.1.mpr z2)]
      refine bnd_iff.mpr (bnd_iff.mpr (bnd_iff.mpr ?_))
      rw [C1.2.1, C1.2.2.2.1, cur_w C1 z2]
      refine E2 _ ?_
      rw [show (58 : Int32) = nI 58 from rfl, sign_e C2 hk1 (by omega) (by omega) (by omega) (by omega)]
      by_cases y : (tk T 1).1 = 58
      · rw [if_pos y] at hQ
        rw [if_pos y, if_neg (by decide), hS2.2.1]
        exact hQ
      · rw [if_neg y] at hQ
        rw [if_neg y, if_pos rfl]
        exact hQ
    by_cases y : (tk T 1).1 = 58
    · have eB : lbB T = true := by
        unfold lbB
        rw [decide_eq_true z2, decide_eq_true y]
        rfl
      have eT : lt0 T = 2 := if_pos eB
      have eN : lbN (whS sec) T N h = tlN (whS sec) T N 0 (nI h) := if_pos eB
      have eF : lbF (whS sec) T N = frF (whS sec) T N 0 := if_pos eB
      have ht2 : 2 < T.length := more hL ht1 (by omega)
      obtain ⟨r3, b3, E3, M3, G3, H3⟩ := lblR hS2 (t := 0) hT z2 (nI h)
      have M13 : ModR GRF GRA r r3 := ((modLF M1).trans (modLF M2)).trans (M3.mono (by decide) (by decide))
      unfold liF liN
      rw [eF, eN, eT]
      rw [eT] at hw
      cases eG : frF (whS sec) T N 0 with
      | some q =>
        obtain ⟨f0, f1⟩ := H3.bad eG
        refine ⟨r3, 0, fun Q hQ => start Q ?_, M13, Or.inr ⟨q, rfl, rfl, f1⟩⟩
        rw [if_pos y]
        refine E3 _ ?_
        rw [f0, if_pos rfl]
        exact hQ
      | none =>
        obtain ⟨f0, S3⟩ := H3.good eG
        rw [thF_none, eWh]
        have C3 : CurR r3 (tk T 1) := C2.mod M3 (by decide) (by decide) (by decide) (by decide) (by decide) (by rw [G3])
        obtain ⟨r4, E4, C4, M4⟩ := nxR S3.1 (t := 1) ht2 C3
        have h84 : gF r4 42 8 = 0 := by
          rw [M4.2.1 8 (by decide)]
          exact S3.2.2.2.1
        have S4 := S3.mod M4 h84 (by decide) (by decide)
        have M14 := M13.trans (modLF M4)
        obtain ⟨N1, hN1⟩ : ∃ N1, N1 = tlN (whS sec) T N 0 (nI h) := ⟨_, rfl⟩
        rw [← hN1] at S4 ⊢
        have hw1 : sec = true → stF B T N1 h cs 2 = none := by
          intro s
          rw [hN1]
          have : tlN (whS sec) T N 0 (nI h) = N := by
            rw [s]
            exact if_neg (by decide)
          rw [this]
          exact hw s
        have start : ∀ Q : Int32 → vmD → Prop, (if (gF r4 42 3) = 1 then (Q 1 r4) else (if (gF r4 42 3) = 2 then (bnd (gF r4 42 4) fun x1_29 => bnd (gF r4 42 5) fun x2_30 => bnd (gG r4 42 7) fun x3_31 => MO_next r4 fun d_32 => MO_readLine_143 x1_29 x2_30 x3_31 d_32 Q) else (MO_refuse r4 fun r_34 d_33 => (r_34 = 0 ∨ r_34 = 1) ∧ Q r_34 d_33))) → rdL r Q := by
          intro Q hQ
          refine start Q ?_
          rw [if_pos y]
          refine E3 _ ?_
          rw [f0, if_neg (by decide)]
          exact E4 _ hQ
        by_cases q0 : (tk T 2).1 = 0
        · obtain ⟨a1, a2, a3, a4, a5, a6, a7⟩ := end_st (B := B) (N := N1) (h := h) (cs := cs) (whS sec) q0
          rw [a1, a2, a3, a4, a5, a6, a7, ptS_nil]
          refine ⟨r4, 1, fun Q hQ => start Q ?_, M14, Or.inl ⟨by cases sec <;> rfl, rfl, S4, 2, ht2, q0, C4.2.2.1⟩⟩
          rw [if_pos (show gF r4 42 3 = 1 by rw [C4.1]; exact (rk1 hk2).1.mpr q0)]
          exact hQ
        · have n1 : ¬ gF r4 42 3 = 1 := by
            rw [C4.1]
            exact fun v => q0 ((rk1 hk2).1.mp v)
          by_cases q2 : (tk T 2).1 = 2
          · have ht3 : 3 < T.length := more hL ht2 (by omega)
            obtain ⟨r5, E5, C5, M5⟩ := nxR S4.1 (t := 2) ht3 C4
            have h85 : gF r5 42 8 = 0 := by
              rw [M5.2.1 8 (by decide)]
              exact h84
            have S5 := S4.mod M5 h85 (by decide) (by decide)
            obtain ⟨r6, b6, E6, M6, H6⟩ := s143R S5 hh hp (t := 2) ht3 q2 C5 hw1
            have eq6 : (if sec = true then stB T N1 h 2 else thF (stFr (whS sec) T N1 2) (stF B T N1 h cs 2)) = (if sec = true then stB T N1 h 2 else thF (stFr 1 T N1 2) (stF B T N1 h cs 2)) := by
              cases sec <;> rfl
            rw [eq6]
            refine ⟨r6, b6, fun Q hQ => start Q ?_, (M14.trans (modLF M5)).trans M6, H6⟩
            rw [if_neg n1, if_pos (show gF r4 42 3 = 2 by rw [C4.1]; exact (rk1 hk2).2.1.mpr q2)]
            refine bnd_iff.mpr (bnd_iff.mpr (bnd_iff.mpr ?_))
            rw [C4.2.1, C4.2.2.2.1, cur_w C4 q2]
            exact E5 _ (E6 Q hQ)
          · obtain ⟨a1, a2⟩ := bad_st (B := B) (N := N1) (h := h) (cs := cs) (whS sec) q0 q2
            have s0 : sec = false := by
              cases sec with
              | false => rfl
              | true =>
                have := hw1 rfl
                rw [a1] at this
                cases this
            obtain ⟨r5, E5, f5, M5⟩ := rfsR C4 h84 hk2
            refine ⟨r5, 0, fun Q hQ => start Q ?_, M14.trans (mod89 M5), Or.inr ⟨_, by rw [s0, if_neg Bool.false_ne_true, a1]; rw [s0] at a2; rw [a2, thF_none], rfl, f5⟩⟩
            rw [if_neg n1, if_neg (show ¬ gF r4 42 3 = 2 by rw [C4.1]; exact fun v => q2 ((rk1 hk2).2.1.mp v))]
            exact E5 _ ⟨Or.inl rfl, hQ⟩
    · have eB : ¬ lbB T = true := by
        unfold lbB
        rw [decide_eq_false y, Bool.and_false]
        exact Bool.false_ne_true
      have eT : lt0 T = 0 := if_neg eB
      have eN : lbN (whS sec) T N h = N := if_neg eB
      have eF : lbF (whS sec) T N = none := if_neg eB
      unfold liF liN
      rw [eF, eN, eT, thF_none, eWh]
      rw [eT] at hw
      obtain ⟨r6, b6, E6, M6, H6⟩ := s143R hS2 hh hp (t := 0) ht1 z2 C2 hw
      have eq6 : (if sec = true then stB T N h 0 else thF (stFr (whS sec) T N 0) (stF B T N h cs 0)) = (if sec = true then stB T N h 0 else thF (stFr 1 T N 0) (stF B T N h cs 0)) := by
        cases sec <;> rfl
      rw [eq6]
      refine ⟨r6, b6, fun Q hQ => start Q ?_, ((modLF M1).trans (modLF M2)).trans M6, H6⟩
      rw [if_neg y]
      exact E6 Q hQ
  · have eB : ¬ lbB T = true := by
      unfold lbB
      rw [decide_eq_false z2, Bool.false_and]
      exact Bool.false_ne_true
    have eT : lt0 T = 0 := if_neg eB
    have eN : lbN (whS sec) T N h = N := if_neg eB
    have eF : lbF (whS sec) T N = none := if_neg eB
    unfold liF liN
    rw [eF, eN, eT, thF_none, eWh]
    rw [eT] at hw
    have n2 : ¬ gF r1 42 3 = 2 := by
      rw [C1.1]
      exact fun v => z2 ((rk1 hk0).2.1.mp v)
    by_cases q0 : (tk T 0).1 = 0
    · obtain ⟨a1, a2, a3, a4, a5, a6, a7⟩ := end_st (B := B) (N := N) (h := h) (cs := cs) (whS sec) q0
      rw [a1, a2, a3, a4, a5, a6, a7, ptS_nil]
      refine ⟨r1, 1, fun Q hQ => E1 _ ?_, modLF M1, Or.inl ⟨by cases sec <;> rfl, rfl, hS1, 0, hT, q0, C1.2.2.1⟩⟩
      rw [if_neg n2, if_pos (show gF r1 42 3 = 1 by rw [C1.1]; exact (rk1 hk0).1.mpr q0)]
      exact hQ
    · obtain ⟨a1, a2⟩ := bad_st (B := B) (N := N) (h := h) (cs := cs) (whS sec) q0 z2
      have s0 : sec = false := by
        cases sec with
        | false => rfl
        | true =>
          have := hw rfl
          rw [a1] at this
          cases this
      obtain ⟨r5, E5, f5, M5⟩ := rfsR C1 h81 hk0
      refine ⟨r5, 0, fun Q hQ => E1 _ ?_, (modLF M1).trans (mod89 M5), Or.inr ⟨_, by rw [s0, if_neg Bool.false_ne_true, a1]; rw [s0] at a2; rw [a2, thF_none], rfl, f5⟩⟩
      rw [if_neg n2, if_neg (show ¬ gF r1 42 3 = 1 by rw [C1.1]; exact fun v => q0 ((rk1 hk0).1.mp v))]
      refine E5 _ ?_
      rw [if_pos rfl]
      exact hQ
