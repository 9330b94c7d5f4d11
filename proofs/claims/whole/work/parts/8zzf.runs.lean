/-! Under more names; runs over all lines -/
theorem xF_M {T : List Tk} {N N' : Nt} (hN : NSub N N') {here : Int32} {t : Nat} (h : xF T N here t = none) : xF T N' here t = none ∧ xvl T N' here t = xvl T N here t ∧ xat T N' here t = xat T N here t := by
  obtain ⟨a, b⟩ := xF_none h
  have e1 := xtr_M hN a
  have e2 := xok_N T N' N here t
  refine ⟨?_, xvl_M hN a, xat_N T N' N here t⟩
  unfold xF xT xS
  rw [e1, if_pos a, thF_none, e2, if_pos b]
theorem nmF_M {T : List Tk} {N N' : Nt} (hN : NSub N N') {here : Int32} {t : Nat} {lo hi : Int32} (h : nmF T N here t lo hi = none) : nmF T N' here t lo hi = none ∧ xvl T N' here t = xvl T N here t ∧ xat T N' here t = xat T N here t := by
  obtain ⟨a, b⟩ := thF_eq h
  obtain ⟨c, d, e⟩ := xF_M hN a
  refine ⟨?_, d, e⟩
  unfold nmF
  rw [c, thF_none, d]
  exact b
theorem xS_N (T : List Tk) (N N' : Nt) (here : Int32) (t : Nat) : xS T N here t = xS T N' here t := by
  unfold xS
  rw [xok_N T N N' here t, xat_N T N N' here t]
theorem itX_N (o : Bool) (T : List Tk) (N N' : Nt) (here : Int32) (p : Nat) : itX o T N here p = itX o T N' here p := by
  unfold itX
  rw [xat_N T N N' here p]
theorem itS_N (o : Bool) (T : List Tk) (N N' : Nt) (here : Int32) (p : Nat) : itS o T N here p = itS o T N' here p := by
  unfold itS
  rw [xS_N T N N' here p]
theorem itO_N (B : Nat → Nat) (o : Bool) (T : List Tk) (N N' : Nt) (here : Int32) (p : Nat) : (itO B o T N here p).length = (itO B o T N' here p).length := by
  unfold itO
  split
  · rfl
  · rw [numO_len, numO_len]
theorem dtS_N (o : Bool) (T : List Tk) (N N' : Nt) (here : Int32) : ∀ f p, dtS o T N here f p = dtS o T N' here f p := by
  intro f
  induction f with
  | zero => intro p; rfl
  | succ f ih =>
    intro p
    unfold dtS
    rw [itS_N o T N N' here p, itX_N o T N N' here p, ih]
theorem dtO_N (B : Nat → Nat) (o : Bool) (T : List Tk) (N N' : Nt) (here : Int32) : ∀ f p, (dtO B o T N here f p).length = (dtO B o T N' here f p).length := by
  intro f
  induction f with
  | zero => intro p; rfl
  | succ f ih =>
    intro p
    unfold dtO
    rw [List.length_append, List.length_append, itO_N B o T N N' here p, itX_N o T N N' here p]
    split
    · rw [ih]
    · rfl
theorem kdN_N (T : List Tk) (N N' : Nt) (here : Int32) (p i : Nat) : kdN T N here p i = kdN T N' here p i := by
  unfold kdN
  rw [lsN_N T N N' here p, lsT_N T N N' here p i]
theorem inX_N (T : List Tk) (N N' : Nt) (here : Int32) (t w : Nat) : inX T N here t w = inX T N' here t w := by
  unfold inX
  rw [kdN_N T N N' here (t + 1) 0, kdN_N T N N' here (t + 1) 1]
theorem inF_N (T : List Tk) (N N' : Nt) (here : Int32) (t w h : Nat) : inF T N here t w h = inF T N' here t w h ∧ (inOo T N here t w h).length = (inOo T N' here t w h).length := by
  constructor
  · unfold inF
    rw [lsOk_N T N N' here (t + 1), inX_N T N N' here t w, lsB_N T N N' here (t + 1)]
  · unfold inOo
    rw [inX_N T N N' here t w]
    cases inX T N' here t w with
    | none => rfl
    | some x =>
      dsimp only
      rw [inO_len, inO_len]
theorem stF_M {B : Nat → Nat} {T : List Tk} {N N' : Nt} {h t : Nat} {cs : Cs} (hN : NSub N N') (hF : stF B T N h cs t = none) : stF B T N' h cs t = none ∧ stH B T N' h t = stH B T N h t ∧ stCs T N' h cs t = stCs T N h cs t := by
  by_cases z0 : (tk T t).1 = 0
  · obtain ⟨a1, -, -, a4, a5, -, -⟩ := end_st (B := B) (N := N) (h := h) (cs := cs) 1 z0
    obtain ⟨b1, -, -, b4, b5, -, -⟩ := end_st (B := B) (N := N') (h := h) (cs := cs) 1 z0
    exact ⟨b1, by rw [a4, b4], by rw [a5, b5]⟩
  by_cases z2 : (tk T t).1 = 2
  · have a1 : ¬ ¬ (tk T t).1 = 2 := fun q => q z2
    by_cases q : isEq T t = true
    · have e1 : ∀ M : Nt, stF B T M h cs t = eqF T M (nI h) t := fun M => by
        unfold stF
        rw [if_neg z0, if_neg a1, if_pos q]
      have e4 : ∀ M : Nt, stH B T M h t = h := fun M => by
        have e3 : stO B T M h t = [] := by
          unfold stO
          rw [if_neg z0, if_neg a1, if_pos q]
        have e5 : stH B T M h t = h + (stO B T M h t).length := if_neg (fun w => w.2.1 q)
        rw [e5, e3]
        rfl
      have e5 : ∀ M : Nt, stCs T M h cs t = cs := fun M => if_neg (fun w => w.2.1 q)
      rw [e1] at hF ⊢
      rw [e4, e4, e5, e5]
      obtain ⟨b, c⟩ := thF_eq hF
      obtain ⟨x1, x2, x3⟩ := xF_M hN b
      refine ⟨?_, rfl, rfl⟩
      unfold eqF
      rw [x1, thF_none, x3]
      exact c
    · obtain ⟨w, hwd⟩ : ∃ w, w = idN (tk T t).2.2.2 := ⟨_, rfl⟩
      by_cases wi : 32 ≤ w ∧ w < 99
      · have wi2 := wi
        rw [hwd] at wi2
        have e1 : ∀ M : Nt, stF B T M h cs t = inF T M (nI h) t w h := fun M => by
          unfold stF
          rw [if_neg z0, if_neg a1, if_neg q, if_pos wi2, hwd]
        have e4 : ∀ M : Nt, stH B T M h t = h + (inOo T M (nI h) t w h).length := fun M => by
          have e3 : stO B T M h t = inOo T M (nI h) t w h := by
            unfold stO
            rw [if_neg z0, if_neg a1, if_neg q, if_pos wi2, hwd]
          have e5 : stH B T M h t = h + (stO B T M h t).length := if_neg (fun v => by have := v.2.2; omega)
          rw [e5, e3]
        have e5 : ∀ M : Nt, stCs T M h cs t = cs := fun M => if_neg (fun v => by have := v.2.2; omega)
        rw [e1] at hF ⊢
        rw [e4, e4, e5, e5]
        obtain ⟨c1, c2⟩ := inF_N T N' N (nI h) t w h
        exact ⟨c1.trans hF, by rw [c2], rfl⟩
      · have wi2 := wi
        rw [hwd] at wi2
        have d1 : ∀ M : Nt, stF B T M h cs t = (if w = 99 then orgF T M (nI h) t else if w = 101 then daF B true T M (nI h) t h else if w = 102 then daF B false T M (nI h) t h else if w = 103 then spF T M (nI h) t h else if w = 104 ∨ w = 105 ∨ w = 106 then cdF T M (nI h) t w cs else some (6, plaT T t)) := fun M => by
          unfold stF
          rw [if_neg z0, if_neg a1, if_neg q, if_neg wi2, hwd]
        have d3 : ∀ M : Nt, stO B T M h t = (if w = 99 then [] else if w = 101 then dtO B true T M (nI h) T.length (t + 1) else if w = 102 then dtO B false T M (nI h) T.length (t + 1) else if w = 103 then spO T M (nI h) t else []) := fun M => by
          unfold stO
          rw [if_neg z0, if_neg a1, if_neg q, if_neg wi2, hwd]
        have d4 : ∀ M : Nt, ¬ w = 99 → stH B T M h t = h + (stO B T M h t).length := fun M v => if_neg (fun u => v (hwd.trans u.2.2))
        have d5 : ∀ M : Nt, ¬ (w = 104 ∨ w = 105 ∨ w = 106) → stCs T M h cs t = cs := fun M v => if_neg (fun u => v (hwd ▸ u.2.2))
        have d1N := d1 N
        have d1M := d1 N'
        rw [d1N] at hF
        by_cases w99 : w = 99
        · rw [if_pos w99] at hF d1M
          have e4 : ∀ M : Nt, stH B T M h t = (xvl T M (nI h) (t + 1)).toNatClampNeg := fun M => if_pos ⟨z2, q, hwd ▸ w99⟩
          obtain ⟨b, c⟩ := thF_eq hF
          obtain ⟨x1, x2, x3⟩ := nmF_M hN b
          refine ⟨?_, by rw [e4, e4, x2], by rw [d5 _ (by omega), d5 _ (by omega)]⟩
          rw [d1M]
          unfold orgF
          rw [x1, thF_none, x3]
          exact c
        · rw [if_neg w99] at hF d1M
          rw [d4 _ w99, d4 _ w99, d3, d3, if_neg w99, if_neg w99]
          have da : ∀ o : Bool, daF B o T N (nI h) t h = none → daF B o T N' (nI h) t h = none ∧ (dtO B o T N' (nI h) T.length (t + 1)).length = (dtO B o T N (nI h) T.length (t + 1)).length := by
            intro o ho
            have e1 := dtS_N o T N' N (nI h) T.length (t + 1)
            have e2 := dtO_N B o T N' N (nI h) T.length (t + 1)
            refine ⟨?_, e2⟩
            unfold daF
            rw [e1, e2]
            exact ho
          by_cases w101 : w = 101
          · rw [if_pos w101] at hF d1M
            obtain ⟨c1, c2⟩ := da true hF
            exact ⟨d1M.trans c1, by rw [if_pos w101, if_pos w101, c2], by rw [d5 _ (by omega), d5 _ (by omega)]⟩
          · rw [if_neg w101] at hF d1M
            rw [if_neg w101, if_neg w101]
            by_cases w102 : w = 102
            · rw [if_pos w102] at hF d1M
              obtain ⟨c1, c2⟩ := da false hF
              exact ⟨d1M.trans c1, by rw [if_pos w102, if_pos w102, c2], by rw [d5 _ (by omega), d5 _ (by omega)]⟩
            · rw [if_neg w102] at hF d1M
              rw [if_neg w102, if_neg w102]
              by_cases w103 : w = 103
              · rw [if_pos w103] at hF d1M
                rw [if_pos w103, if_pos w103]
                obtain ⟨b, c⟩ := thF_eq hF
                obtain ⟨x1, x2, x3⟩ := nmF_M hN b
                have s1 : spX T N' (nI h) t = spX T N (nI h) t := x3
                have s2 : spC T N' (nI h) t = spC T N (nI h) t := by unfold spC; rw [s1]
                have s3 : spS T N' (nI h) t = spS T N (nI h) t := by unfold spS; rw [s2, s1, xS_N T N' N]
                have s4 : spE T N' (nI h) t = spE T N (nI h) t := by unfold spE; rw [s2, s1, xat_N T N' N]
                have s5 : spN T N' (nI h) t = spN T N (nI h) t := by unfold spN; rw [x2]
                refine ⟨?_, ?_, by rw [d5 _ (by omega), d5 _ (by omega)]⟩
                · rw [d1M]
                  unfold spF
                  rw [x1, thF_none, s3, s4, s5]
                  exact c
                · show h + (spO T N' (nI h) t).length = h + (spO T N (nI h) t).length
                  unfold spO
                  rw [List.length_replicate, List.length_replicate, s5]
              · rw [if_neg w103] at hF d1M
                rw [if_neg w103, if_neg w103]
                by_cases wc : w = 104 ∨ w = 105 ∨ w = 106
                · rw [if_pos wc] at hF d1M
                  have e5 : ∀ M : Nt, stCs T M h cs t = pas w (decide (¬ xvl T M (nI h) (t + 1) = 0)) cs := fun M => by
                    unfold stCs
                    rw [← hwd]
                    exact if_pos ⟨z2, q, wc⟩
                  have ha : alw w cs = true := Decidable.byContradiction fun v => by
                    unfold cdF at hF
                    rw [if_neg v] at hF
                    cases hF
                  rw [d1M, e5, e5]
                  unfold cdF at hF ⊢
                  rw [if_pos ha] at hF ⊢
                  by_cases w4 : w = 104
                  · rw [if_pos w4] at hF ⊢
                    obtain ⟨b, c⟩ := thF_eq hF
                    obtain ⟨x1, x2, x3⟩ := xF_M hN b
                    rw [x1, thF_none, x3, x2]
                    exact ⟨c, rfl, rfl⟩
                  · rw [if_neg w4] at hF ⊢
                    exact ⟨hF, rfl, pas_y w4 _ _ _⟩
                · rw [if_neg wc] at hF
                  cases hF
  · obtain ⟨a1, -⟩ := bad_st (B := B) (N := N) (h := h) (cs := cs) 1 z0 z2
    rw [a1] at hF
    cases hF
/-- bounds -/
theorem goF_le {T : List Tk} {t h s : Nat} (hs : goF T t h s = none) : h + s ≤ 65536 := by
  unfold goF at hs
  by_cases q : 65536 < h + s
  · rw [if_pos q] at hs
    cases hs
  · omega
theorem stH_le {B : Nat → Nat} {T : List Tk} {N : Nt} {h t : Nat} {cs : Cs} (hh : h ≤ 65536) (hF : stF B T N h cs t = none) : stH B T N h t ≤ 65536 ∧ h + (stO B T N h t).length ≤ 65536 := by
  by_cases z0 : (tk T t).1 = 0
  · obtain ⟨-, -, a3, a4, -, -, -⟩ := end_st (B := B) (N := N) (h := h) (cs := cs) 1 z0
    rw [a4, a3]
    exact ⟨hh, hh⟩
  by_cases z2 : (tk T t).1 = 2
  · have a1 : ¬ ¬ (tk T t).1 = 2 := fun q => q z2
    have two : h + (stO B T N h t).length ≤ 65536 := by
      unfold stF at hF
      unfold stO
      rw [if_neg z0, if_neg a1] at hF ⊢
      by_cases q : isEq T t = true
      · rw [if_pos q]
        exact hh
      · rw [if_neg q] at hF ⊢
        by_cases wi : 32 ≤ idN (tk T t).2.2.2 ∧ idN (tk T t).2.2.2 < 99
        · rw [if_pos wi] at hF ⊢
          unfold inF at hF
          unfold inOo
          by_cases ok : lsOk T N (nI h) (t + 1) = true
          · rw [if_pos ok] at hF
            cases e : inX T N (nI h) t (idN (tk T t).2.2.2) with
            | none => rw [e] at hF; cases hF
            | some x =>
              rw [e] at hF
              dsimp only at hF ⊢
              rw [inO_len]
              exact goF_le hF
          · rw [if_neg ok] at hF
            cases hF
        · rw [if_neg wi] at hF ⊢
          by_cases w99 : idN (tk T t).2.2.2 = 99
          · rw [if_pos w99]
            exact hh
          · rw [if_neg w99] at hF ⊢
            by_cases w101 : idN (tk T t).2.2.2 = 101
            · rw [if_pos w101] at hF ⊢
              exact goF_le (thF_eq hF).2
            · rw [if_neg w101] at hF ⊢
              by_cases w102 : idN (tk T t).2.2.2 = 102
              · rw [if_pos w102] at hF ⊢
                exact goF_le (thF_eq hF).2
              · rw [if_neg w102] at hF ⊢
                by_cases w103 : idN (tk T t).2.2.2 = 103
                · rw [if_pos w103] at hF ⊢
                  unfold spO
                  rw [List.length_replicate]
                  exact goF_le (thF_eq (thF_eq (thF_eq hF).2).2).2
                · rw [if_neg w103]
                  exact hh
    refine ⟨?_, two⟩
    unfold stH
    by_cases z : (tk T t).1 = 2 ∧ ¬ isEq T t = true ∧ idN (tk T t).2.2.2 = 99
    · rw [if_pos z]
      unfold stF at hF
      rw [if_neg z0, if_neg a1, if_neg z.2.1, if_neg (by omega), if_pos z.2.2] at hF
      obtain ⟨b, -⟩ := thF_eq hF
      obtain ⟨-, -, g1, g2⟩ := nmF_none b
      obtain ⟨j, hj, e⟩ := nat_of_le (n := 65535) (N := 65535) rfl (by omega) g1 g2
      rw [e, nI_clamp (by omega)]
      omega
    · rw [if_neg z]
      exact two
  · obtain ⟨a1, -⟩ := bad_st (B := B) (N := N) (h := h) (cs := cs) 1 z0 z2
    rw [a1] at hF
    cases hF
/-- runs -/
def lxT (B : Nat → Nat) (n p : Nat) : List Tk := lexT B n (sc nlB B n p) (n + 1 - p) p
def lgF (B : Nat → Nat) (n wh p : Nat) (N : Nt) (h : Nat) (cs : Cs) : Fo := if dnA cs = true then liF B wh (lxT B n p) N h cs else skF B n p cs
def lgN (B : Nat → Nat) (n wh p : Nat) (N : Nt) (h : Nat) (cs : Cs) : Nt := if dnA cs = true then liN wh (lxT B n p) N h else N
def lgH (B : Nat → Nat) (n wh p : Nat) (N : Nt) (h : Nat) (cs : Cs) : Nat := if dnA cs = true then stH B (lxT B n p) (lbN wh (lxT B n p) N h) h (lt0 (lxT B n p)) else h
def lgC (B : Nat → Nat) (n wh p : Nat) (N : Nt) (h : Nat) (cs : Cs) : Cs := if dnA cs = true then stCs (lxT B n p) (lbN wh (lxT B n p) N h) h cs (lt0 (lxT B n p)) else skC B n p cs
def lgO (B : Nat → Nat) (n wh p : Nat) (N : Nt) (h : Nat) (cs : Cs) : List Int32 := if dnA cs = true then stO B (lxT B n p) (lbN wh (lxT B n p) N h) h (lt0 (lxT B n p)) else []
abbrev Rs : Type := Option (Nat × Nat × Nat) × Nat × Nt × Nat × Pt
def run (B : Nat → Nat) (n wh : Nat) (put : Bool) : Nat → Nat → Nat → Nt → Nat → Cs → Pt → Rs
  | 0, _, ln, N, h, _, P => (none, ln, N, h, P)
  | f + 1, p, ln, N, h, cs, P => if p < n then (if 300 < ln + 1 then (some (ln + 1, p, 9), ln + 1, N, h, P) else match lgF B n wh p N h cs with
    | some q => (some (ln + 1, q.2, q.1), ln + 1, N, h, P)
    | none => run B n wh put f (sc nlB B n p + 1) (ln + 1) (lgN B n wh p N h cs) (lgH B n wh p N h cs) (lgC B n wh p N h cs) (ptS put h (lgO B n wh p N h cs) P)) else if 0 < cs.length then (some (ln, n, 7), ln, N, h, P) else (none, ln, N, h, P)
/-- lines that have no FAULT of their form -/
def Good (B : Nat → Nat) (n : Nat) (N : Nt) : Nat → Nat → Nat → Nat → Cs → Prop
  | 0, _, _, _, _ => True
  | f + 1, p, ln, h, cs => p < n → (dnA cs = true → stF B (lxT B n p) N h cs (lt0 (lxT B n p)) = none) ∧ Good B n N f (sc nlB B n p + 1) (ln + 1) (lgH B n 2 p N h cs) (lgC B n 2 p N h cs)
theorem lb2 {wh : Nat} (hw : ¬ wh = 1) (T : List Tk) (N : Nt) (h : Nat) : lbN wh T N h = N ∧ liN wh T N h = N := by
  have e : ∀ (M : Nt) (t : Nat) (v : Int32), tlN wh T M t v = M := fun M t v => if_neg hw
  have e1 : lbN wh T N h = N := by
    unfold lbN
    rw [e]
    split <;> rfl
  refine ⟨e1, ?_⟩
  unfold liN stNt
  rw [e1, e]
  split <;> rfl
theorem lg2 {B : Nat → Nat} {n wh p : Nat} (hw : ¬ wh = 1) (N : Nt) (h : Nat) (cs : Cs) : lgN B n wh p N h cs = N ∧ lgH B n wh p N h cs = lgH B n 2 p N h cs ∧ lgC B n wh p N h cs = lgC B n 2 p N h cs ∧ lgO B n wh p N h cs = lgO B n 2 p N h cs := by
  obtain ⟨a, b⟩ := lb2 hw (lxT B n p) N h
  obtain ⟨a2, b2⟩ := lb2 (wh := 2) (by decide) (lxT B n p) N h
  unfold lgN lgH lgC lgO
  rw [a, b, a2]
  refine ⟨?_, rfl, rfl, rfl⟩
  split <;> rfl
theorem liF1 {B : Nat → Nat} {T : List Tk} {N : Nt} {h : Nat} {cs : Cs} (e : liF B 1 T N h cs = none) : stF B T (lbN 1 T N h) h cs (lt0 T) = none := by
  unfold liF at e
  obtain ⟨-, e2⟩ := thF_eq e
  rw [if_pos rfl] at e2
  exact (thF_eq e2).2
theorem lbN_sub (wh : Nat) (T : List Tk) (N : Nt) (h : Nat) : NSub N (lbN wh T N h) ∧ NSub (lbN wh T N h) (liN wh T N h) := by
  have e : ∀ (M : Nt) (t : Nat) (v : Int32), NSub M (tlN wh T M t v) := by
    intro M t v
    unfold tlN
    split
    · exact NSub.app _ _
    · exact NSub.refl _
  constructor
  · unfold lbN
    split
    · exact e _ _ _
    · exact NSub.refl _
  · unfold liN stNt
    split
    · exact e _ _ _
    · exact NSub.refl _
theorem run1_good {B : Nat → Nat} {n : Nat} {put : Bool} : ∀ (f p ln : Nat) (N : Nt) (h : Nat) (cs : Cs) (P : Pt), (run B n 1 put f p ln N h cs P).1 = none → Good B n (run B n 1 put f p ln N h cs P).2.2.1 f p ln h cs ∧ NSub N (run B n 1 put f p ln N h cs P).2.2.1 := by
  intro f
  induction f with
  | zero => intro p ln N h cs P _; exact ⟨True.intro, NSub.refl _⟩
  | succ f ih =>
    intro p ln N h cs P e
    unfold run at e ⊢
    by_cases z : p < n
    · rw [if_pos z] at e ⊢
      by_cases y : 300 < ln + 1
      · rw [if_pos y] at e
        cases e
      · rw [if_neg y] at e ⊢
        cases eF : lgF B n 1 p N h cs with
        | some q => rw [eF] at e; cases e
        | none =>
          rw [eF] at e
          dsimp only at e ⊢
          obtain ⟨g1, g2⟩ := ih _ _ _ _ _ _ e
          obtain ⟨N', hN'⟩ : ∃ N', N' = (run B n 1 put f (sc nlB B n p + 1) (ln + 1) (lgN B n 1 p N h cs) (lgH B n 1 p N h cs) (lgC B n 1 p N h cs) (ptS put h (lgO B n 1 p N h cs) P)).2.2.1 := ⟨_, rfl⟩
          rw [← hN'] at g1 g2 ⊢
          obtain ⟨s1, s2⟩ := lbN_sub 1 (lxT B n p) N h
          obtain ⟨b1, -⟩ := lb2 (wh := 2) (by decide) (lxT B n p) N' h
          by_cases d : dnA cs = true
          · have eF2 : liF B 1 (lxT B n p) N h cs = none := by
              unfold lgF at eF
              rw [if_pos d] at eF
              exact eF
            have s3 : NSub (liN 1 (lxT B n p) N h) N' := by
              have : lgN B n 1 p N h cs = liN 1 (lxT B n p) N h := if_pos d
              rw [this] at g2
              exact g2
            obtain ⟨m1, m2, m3⟩ := stF_M (s2.trans s3) (liF1 eF2)
            have h1 : lgH B n 2 p N' h cs = lgH B n 1 p N h cs := by
              unfold lgH
              rw [if_pos d, if_pos d, b1]
              exact m2
            have h2 : lgC B n 2 p N' h cs = lgC B n 1 p N h cs := by
              unfold lgC
              rw [if_pos d, if_pos d, b1]
              exact m3
            refine ⟨fun _ => ⟨fun _ => m1, ?_⟩, (s1.trans s2).trans s3⟩
            rw [h1, h2]
            exact g1
          · have s3 : NSub N N' := by
              have : lgN B n 1 p N h cs = N := if_neg d
              rw [this] at g2
              exact g2
            have h1 : lgH B n 2 p N' h cs = lgH B n 1 p N h cs := by
              unfold lgH
              rw [if_neg d, if_neg d]
            have h2 : lgC B n 2 p N' h cs = lgC B n 1 p N h cs := by
              unfold lgC
              rw [if_neg d, if_neg d]
            refine ⟨fun _ => ⟨fun v => absurd v d, ?_⟩, s3⟩
            rw [h1, h2]
            exact g1
    · rw [if_neg z] at e ⊢
      by_cases y : 0 < cs.length
      · rw [if_pos y] at e
        cases e
      · rw [if_neg y]
        exact ⟨fun v => absurd v z, NSub.refl _⟩
/-- the last passes: names stay; FAULTS don't hang on what is put -/
theorem run_put {B : Nat → Nat} {n wh : Nat} {put : Bool} : ∀ (f p ln : Nat) (N : Nt) (h : Nat) (cs : Cs) (P P' : Pt), (run B n wh put f p ln N h cs P).1 = (run B n wh false f p ln N h cs P').1 ∧ (run B n wh put f p ln N h cs P).2.1 = (run B n wh false f p ln N h cs P').2.1 ∧ (run B n wh put f p ln N h cs P).2.2.1 = (run B n wh false f p ln N h cs P').2.2.1 ∧ (run B n wh put f p ln N h cs P).2.2.2.1 = (run B n wh false f p ln N h cs P').2.2.2.1 := by
  intro f
  induction f with
  | zero => intro p ln N h cs P P'; exact ⟨rfl, rfl, rfl, rfl⟩
  | succ f ih =>
    intro p ln N h cs P P'
    unfold run
    by_cases z : p < n
    · rw [if_pos z, if_pos z]
      by_cases y : 300 < ln + 1
      · rw [if_pos y, if_pos y]
        exact ⟨rfl, rfl, rfl, rfl⟩
      · rw [if_neg y, if_neg y]
        cases lgF B n wh p N h cs with
        | some q => exact ⟨rfl, rfl, rfl, rfl⟩
        | none => exact ih _ _ _ _ _ _ _
    · rw [if_neg z, if_neg z]
      by_cases y : 0 < cs.length
      · rw [if_pos y, if_pos y]
        exact ⟨rfl, rfl, rfl, rfl⟩
      · rw [if_neg y, if_neg y]
        exact ⟨rfl, rfl, rfl, rfl⟩
theorem run_N {B : Nat → Nat} {n wh : Nat} {put : Bool} (hw : ¬ wh = 1) : ∀ (f p ln : Nat) (N : Nt) (h : Nat) (cs : Cs) (P : Pt), (run B n wh put f p ln N h cs P).2.2.1 = N := by
  intro f
  induction f with
  | zero => intro p ln N h cs P; rfl
  | succ f ih =>
    intro p ln N h cs P
    unfold run
    by_cases z : p < n
    · rw [if_pos z]
      by_cases y : 300 < ln + 1
      · rw [if_pos y]
      · rw [if_neg y]
        cases lgF B n wh p N h cs with
        | some q => rfl
        | none =>
          dsimp only
          rw [(lg2 hw N h cs).1]
          exact ih _ _ _ _ _ _
    · rw [if_neg z]
      by_cases y : 0 < cs.length
      · rw [if_pos y]
      · rw [if_neg y]
theorem run_23 {B : Nat → Nat} {n : Nat} {put : Bool} : ∀ (f p ln : Nat) (N : Nt) (h : Nat) (cs : Cs) (P : Pt), (run B n 2 put f p ln N h cs P).1 = none → run B n 3 put f p ln N h cs P = run B n 2 put f p ln N h cs P := by
  intro f
  induction f with
  | zero => intro p ln N h cs P _; rfl
  | succ f ih =>
    intro p ln N h cs P e
    unfold run at e ⊢
    by_cases z : p < n
    · rw [if_pos z] at e ⊢
      rw [if_pos z]
      by_cases y : 300 < ln + 1
      · rw [if_pos y] at e
        cases e
      · rw [if_neg y] at e ⊢
        rw [if_neg y]
        obtain ⟨a1, a2, a3, a4⟩ := lg2 (B := B) (n := n) (wh := 3) (p := p) (by decide) N h cs
        obtain ⟨b1, -⟩ := lg2 (B := B) (n := n) (wh := 2) (p := p) (by decide) N h cs
        cases eF : lgF B n 2 p N h cs with
        | some q => rw [eF] at e; cases e
        | none =>
          rw [eF] at e
          have e3 : lgF B n 3 p N h cs = none := by
            unfold lgF at eF ⊢
            by_cases d : dnA cs = true
            · rw [if_pos d]
              have ef : frF 3 (lxT B n p) N 0 = none := if_neg (fun q => absurd q.1 (by decide))
              have e1 : lbF 3 (lxT B n p) N = none := by
                unfold lbF
                rw [ef]
                split <;> rfl
              unfold liF
              rw [e1, thF_none, if_neg (show ¬ (3 : Nat) = 1 by decide), if_neg (show ¬ (3 : Nat) = 2 by decide)]
            · rw [if_neg d] at eF ⊢
              exact eF
          rw [e3]
          dsimp only at e ⊢
          rw [b1] at e
          rw [a1, a2, a3, a4, b1]
          exact ih _ _ _ _ _ _ e
    · rw [if_neg z, if_neg z]
