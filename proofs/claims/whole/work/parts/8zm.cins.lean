/-! Statements: the class checks operands -/
theorem stl_ltT (L x : Nat) : ∀ (os : List Op) (v : List Vl) (tr : Nat × Nat), (∀ o, o ∈ os → o.2 < x) → (¬ tr.1 = 0 → tr.2 < x) → (∀ o, o ∈ (stl L os v tr).1 → o.2 < x) ∧ (¬ (stl L os v tr).2.2.1 = 0 → (stl L os v tr).2.2.2 < x) := by
  intro os
  induction os with
  | nil => intro v tr h1 h2; exact ⟨h1, h2⟩
  | cons o os ih =>
    intro v tr h1 h2
    unfold stl
    by_cases e : lev o.1 < L
    · rw [if_pos e]
      exact ⟨h1, h2⟩
    · rw [if_neg e]
      refine ih _ _ (fun o' h' => h1 o' (List.mem_cons_of_mem _ h')) ?_
      unfold apT2
      by_cases e7 : lev o.1 = 7
      · rw [if_pos e7]
        exact h2
      · rw [if_neg e7]
        unfold apt
        cases v with
        | nil => exact h2
        | cons b v =>
          dsimp only
          by_cases q : o.1 = 47 ∧ b.1 = 0 ∧ b.2 = true ∧ tr.1 = 0
          · rw [if_pos q]
            exact fun _ => h1 o (List.mem_cons_self ..)
          · rw [if_neg q]
            exact h2
theorem xrun_ltT (T : List Tk) (N : Nt) (here : Int32) : ∀ (f : Nat) (w : Bool) (os : List Op) (v : List Vl) (tr : Nat × Nat) (t : Nat), (∀ o, o ∈ os → o.2 < t) → (¬ tr.1 = 0 → tr.2 < t) → (∀ o, o ∈ (xrun T N here f w os v tr t).2.2.1 → o.2 < (xrun T N here f w os v tr t).2.1) ∧ (¬ (xrun T N here f w os v tr t).2.2.2.2.1 = 0 → (xrun T N here f w os v tr t).2.2.2.2.2 < (xrun T N here f w os v tr t).2.1) := by
  intro f
  induction f with
  | zero => intro w os v tr t h1 h2; exact ⟨h1, h2⟩
  | succ f ih =>
    intro w os v tr t h1 h2
    unfold xrun
    by_cases a : w = true
    · rw [if_pos a]
      by_cases b : (tk T t).1 = 40 ∨ (tk T t).1 = 126 ∨ (tk T t).1 = 45
      · rw [if_pos b]
        by_cases c : 40 ≤ opn os
        · rw [if_pos c]
          exact ⟨h1, h2⟩
        · rw [if_neg c]
          refine ih _ _ _ _ _ ?_ (fun z => Nat.lt_succ_of_lt (h2 z))
          intro o h'
          rcases List.mem_cons.mp h' with rfl | h'
          · exact Nat.lt_succ_self t
          · exact Nat.lt_succ_of_lt (h1 o h')
      · rw [if_neg b]
        cases e : xval T N here t with
        | none => exact ⟨h1, h2⟩
        | some y =>
          dsimp only
          have h3 : ¬ (tro y tr t).1 = 0 → (tro y tr t).2 < t + 1 := by
            unfold tro
            split
            · exact fun _ => Nat.lt_succ_self t
            · exact fun z => Nat.lt_succ_of_lt (h2 z)
          obtain ⟨g1, g2⟩ := stl_ltT 6 (t + 1) os (y :: v) _ (fun o h' => Nat.lt_succ_of_lt (h1 o h')) h3
          exact ih _ _ _ _ _ g1 g2
    · rw [if_neg a]
      by_cases b : (tk T t).1 = 41 ∧ 0 < parn os
      · rw [if_pos b]
        obtain ⟨g1, g2⟩ := stl_ltT 1 (t + 1) os v tr (fun o h' => Nat.lt_succ_of_lt (h1 o h')) (fun z => Nat.lt_succ_of_lt (h2 z))
        obtain ⟨g3, g4⟩ := stl_ltT 6 (t + 1) (stl 1 os v tr).1.tail (stl 1 os v tr).2.1 (stl 1 os v tr).2.2 (fun o h' => g1 o (List.mem_of_mem_tail h')) g2
        exact ih _ _ _ _ _ g3 g4
      · rw [if_neg b]
        by_cases c : 0 < lev (tk T t).1 ∧ lev (tk T t).1 < 7
        · rw [if_pos c]
          obtain ⟨g1, g2⟩ := stl_ltT (lev (tk T t).1) (t + 1) os v tr (fun o h' => Nat.lt_succ_of_lt (h1 o h')) (fun z => Nat.lt_succ_of_lt (h2 z))
          refine ih _ _ _ _ _ ?_ g2
          intro o h'
          rcases List.mem_cons.mp h' with rfl | h'
          · exact Nat.lt_succ_self t
          · exact g1 o h'
        · rw [if_neg c]
          exact ⟨h1, h2⟩
theorem xtr_ltT (T : List Tk) (N : Nt) (here : Int32) (t : Nat) (h : ¬ (xtr T N here t).1 = 0) : (xtr T N here t).2 < xat T N here t := by
  obtain ⟨g1, g2⟩ := xrun_ltT T N here (T.length - t) true [] [] (0, 0) t (fun o h => by cases h) (fun h => absurd rfl h)
  unfold xtr at h ⊢
  by_cases a : xok T N here t = true
  · rw [if_pos a] at h ⊢
    exact (stl_ltT 1 _ _ _ _ g1 g2).2 h
  · rw [if_neg a] at h ⊢
    exact g2 h
theorem xtr_6 (T : List Tk) (N : Nt) (here : Int32) (t : Nat) : (xtr T N here t).1 < 6 := by
  have h := xrun_6 (T := T) (N := N) (here := here) (T.length - t) true [] [] (0, 0) t (by decide)
  unfold xtr
  split
  · exact stl_6 1 _ _ _ h
  · exact h
theorem xT_i {B : Nat → Nat} {n : Nat} {T : List Tk} (hL : Lx B n T) {N : Nt} {here : Int32} {t : Nat} (ht : t < T.length) : InF (xT T N here t) (plaT T t) (plaT T (xat T N here t)) := xT_in hL ht (xtr_ltT T N here t) (xtr_6 T N here t)
/-- operands as the class holds them -/
theorem lsN_2 (T : List Tk) (N : Nt) (here : Int32) (p : Nat) : lsN T N here p ≤ 2 := by
  unfold lsN
  repeat' split
  all_goals omega
def OpsC (c : vmD) (T : List Tk) (N : Nt) (here : Int32) (p : Nat) : Prop := gF c 33 8 = nI (lsN T N here p) ∧ (∀ i, i < 2 → gA c 34 i = nI (kdN T N here p i) ∧ gA c 35 i = vlI T N here p i) ∧ (∀ i, i < lsN T N here p → (oFr T (lsT T N here p i) = none → gA c 37 i = 1) ∧ (∀ q, oFr T (lsT T N here p i) = some q → gA c 36 i = nI (plaT T q) ∧ gA c 37 i = kb (decide ((xtr T N here q).1 = 0))))
theorem OpsC.mod {F : List (Nat × Nat)} {A L : List Nat} {c c' : vmD} {T : List Tk} {N : Nt} {here : Int32} {p : Nat} (h : OpsC c T N here p) (M : ModC F A L c c') (h1 : ¬ (33, 8) ∈ F) (h2 : ¬ 34 ∈ A ∧ ¬ 35 ∈ A ∧ ¬ 36 ∈ A ∧ ¬ 37 ∈ A) : OpsC c' T N here p := by
  unfold OpsC at h ⊢
  rw [M.1 33 8 h1, M.2.1 34 h2.1, M.2.1 35 h2.2.1, M.2.1 36 h2.2.2.1, M.2.1 37 h2.2.2.2]
  exact h
theorem OpsC.of {c : vmD} {T : List Tk} {N : Nt} {here : Int32} {p : Nat} (h8 : gF c 33 8 = nI (lsN T N here p)) (h1 : ∀ i, i < lsN T N here p → OPC c i T N here (lsT T N here p i)) (h2 : ∀ i, lsN T N here p ≤ i → i < 2 → OP0 c i) : OpsC c T N here p := by
  refine ⟨h8, fun i hi => ?_, fun i hi => ⟨fun e => ((h1 i hi).2.1 e).2.2, fun q e => ((h1 i hi).2.2 q e).2⟩⟩
  unfold kdN vlI
  by_cases z : i < lsN T N here p
  · rw [if_pos z, if_pos z]
    refine ⟨(h1 i z).1, ?_⟩
    cases e : oFr T (lsT T N here p i) with
    | none => exact ((h1 i z).2.1 e).1
    | some q => exact ((h1 i z).2.2 q e).1
  · rw [if_neg z, if_neg z]
    have := h2 i (by omega) hi
    exact ⟨this.1, this.2.1⟩
theorem opkC {c : vmD} {i w k : Nat} (hi : i < 2) (hw : w < 107) (hk : k < 64) (h : gA c 34 i = nI k) (Q : Int32 → vmD → Prop) : Operands_kind (nI i) (nI w) c Q = Q (nI (adjK w k)) c := by
  have c59 : nI w = 59 ↔ w = 59 := nI_eq (b := 59) (by omega) (by omega)
  have c30 : nI k = 30 ↔ k = 30 := nI_eq (b := 30) (by omega) (by omega)
  have c31 : nI k = 31 ↔ k = 31 := nI_eq (b := 31) (by omega) (by omega)
  unfold Operands_kind
  rw [if_neg (nI_pos (by omega)), if_pos (show nI i < 2 from nI_lt (b := 2) hi (by omega)), tA (nI_in hi (by omega))]
  refine (propext bnd_iff).trans ?_
  rw [nI_clamp (by omega), h]
  unfold Operands_kind_19 Operands_kind_35 adjK
  by_cases e : w = 59
  · rw [if_pos (c59.mpr e), if_pos (c59.mpr e), if_pos e]
  · rw [if_neg (fun q => e (c59.mp q)), if_neg (fun q => e (c59.mp q)), if_neg e]
    by_cases e0 : k = 30
    · rw [if_pos (c30.mpr e0), if_pos e0]
      rfl
    · rw [if_neg (fun q => e0 (c30.mp q)), if_neg e0]
      by_cases e1 : k = 31
      · rw [if_pos (c31.mpr e1), if_pos e1]
        rfl
      · rw [if_neg (fun q => e1 (c31.mp q)), if_neg e1]
theorem opvC {c : vmD} {i : Nat} (hi : i < 2) (Q : Int32 → vmD → Prop) : Operands_value (nI i) c Q = Q (gA c 35 i) c := by
  unfold Operands_value
  rw [if_neg (nI_pos (by omega)), if_pos (show nI i < 2 from nI_lt (b := 2) hi (by omega)), tA (nI_in hi (by omega))]
  refine (propext bnd_iff).trans ?_
  rw [nI_clamp (by omega)]
theorem oppC {c : vmD} {i : Nat} (hi : i < 2) (Q : Int32 → vmD → Prop) : Operands_place (nI i) c Q = Q (gA c 36 i) c := by
  unfold Operands_place
  rw [if_neg (nI_pos (by omega)), if_pos (show nI i < 2 from nI_lt (b := 2) hi (by omega)), tA (nI_in hi (by omega))]
  refine (propext bnd_iff).trans ?_
  rw [nI_clamp (by omega)]
theorem opnoC {c : vmD} {i : Nat} (hi : i < 2) (Q : Int32 → vmD → Prop) : Operands_known (nI i) c Q = Q (if gA c 37 i = 0 then 0 else 1) c := by
  unfold Operands_known
  rw [if_neg (nI_pos (by omega)), if_pos (show nI i < 2 from nI_lt (b := 2) hi (by omega)), tA (nI_in hi (by omega))]
  refine (propext bnd_iff).trans ?_
  rw [nI_clamp (by omega)]
  split <;> rfl
theorem shkC {c : vmD} (hC : CC c) {x i : Nat} (hx : x < 1792) (h0 : ¬ tabS x < 0) (hi : i < 2) (Q : Int32 → vmD → Prop) : Shapes_kind (nI x) (nI i) c Q = Q (shF x i) c := by
  have : i = 0 ∨ i = 1 := by omega
  rcases this with rfl | rfl
  · exact (kindSC hC hx h0 Q).1
  · exact (kindSC hC hx h0 Q).2
theorem rng2 (v lo hi : Int32) (c : vmD) (Q : Int32 → vmD → Prop) : (if v < lo then Q 0 c else if hi < v then Q 0 c else Q 1 c) = Q (kb (!(decide (v < lo) || decide (hi < v)))) c := by
  by_cases a : v < lo
  · rw [if_pos a, decide_eq_true a]
    rfl
  · rw [if_neg a, decide_eq_false a]
    by_cases b : hi < v
    · rw [if_pos b, decide_eq_true b]
      rfl
    · rw [if_neg b, decide_eq_false b]
      rfl
theorem fitC (k v : Int32) (c : vmD) (Q : Int32 → vmD → Prop) : Forger_fits k v c Q = Q (kb (fiI k v)) c := by
  unfold Forger_fits
  by_cases a : k = 32
  · have e : fiI k v = !(decide (v < -128) || decide (127 < v)) := if_pos (Or.inl a)
    rw [if_pos a, e]
    exact rng2 _ _ _ _ _
  rw [if_neg a]
  by_cases b : k = 33
  · have e : fiI k v = !(decide (v < -128) || decide (127 < v)) := if_pos (Or.inr (Or.inl b))
    rw [if_pos b, e]
    exact rng2 _ _ _ _ _
  rw [if_neg b]
  by_cases d : k = 36
  · subst d
    have e : fiI 36 v = !(decide (v < -128) || decide (255 < v)) := (if_neg (by decide)).trans (if_pos (by decide))
    rw [if_pos rfl, e]
    exact rng2 _ _ _ _ _
  rw [if_neg d]
  by_cases d2 : k = 37
  · subst d2
    have e : fiI 37 v = !(decide (v < -32768) || decide (65535 < v)) := (if_neg (by decide)).trans ((if_neg (by decide)).trans (if_pos (by decide)))
    rw [if_pos rfl, e]
    exact rng2 _ _ _ _ _
  rw [if_neg d2]
  by_cases d3 : k = 38
  · have e : fiI k v = !(decide (v < -128) || decide (127 < v)) := if_pos (Or.inr (Or.inr d3))
    rw [if_pos d3, e]
    exact rng2 _ _ _ _ _
  rw [if_neg d3]
  by_cases d4 : k = 39
  · subst d4
    have e : fiI 39 v = !(decide (v < 0) || decide (7 < v)) := (if_neg (by decide)).trans ((if_neg (by decide)).trans ((if_neg (by decide)).trans (if_pos (by decide))))
    rw [if_pos rfl, e]
    exact rng2 _ _ _ _ _
  rw [if_neg d4]
  by_cases d5 : k = 40
  · subst d5
    have e : fiI 40 v = (!(decide (v < 0) || decide (56 < v)) && decide (v &&& 7 = 0)) := (if_neg (by decide)).trans ((if_neg (by decide)).trans ((if_neg (by decide)).trans ((if_neg (by decide)).trans (if_pos (by decide)))))
    rw [if_pos rfl, e]
    by_cases x1 : v < 0
    · rw [if_pos x1, decide_eq_true x1]
      rfl
    · rw [if_neg x1, decide_eq_false x1]
      by_cases x2 : 56 < v
      · rw [if_pos x2, decide_eq_true x2]
        rfl
      · rw [if_neg x2, decide_eq_false x2]
        by_cases x3 : v &&& 7 = 0
        · rw [if_pos x3, decide_eq_true x3]
          rfl
        · rw [if_neg x3, decide_eq_false x3]
          rfl
  rw [if_neg d5]
  by_cases d6 : k = 41
  · subst d6
    have e : fiI 41 v = !(decide (v < 0) || decide (2 < v)) := (if_neg (by decide)).trans ((if_neg (by decide)).trans ((if_neg (by decide)).trans ((if_neg (by decide)).trans ((if_neg (by decide)).trans (if_pos (by decide))))))
    rw [if_pos rfl, e]
    exact rng2 _ _ _ _ _
  rw [if_neg d6]
  by_cases d7 : k = 42
  · subst d7
    have e : fiI 42 v = !(decide (v < -128) || decide (255 < v)) := (if_neg (by decide)).trans (if_pos (by decide))
    rw [if_pos rfl, e]
    exact rng2 _ _ _ _ _
  rw [if_neg d7]
  by_cases d8 : k = 43
  · subst d8
    have e : fiI 43 v = !(decide (v < -32768) || decide (65535 < v)) := (if_neg (by decide)).trans ((if_neg (by decide)).trans (if_pos (by decide)))
    rw [if_pos rfl, e]
    exact rng2 _ _ _ _ _
  rw [if_neg d8]
  have e : fiI k v = true := by
    unfold fiI
    rw [if_neg (by rintro (q | q | q) <;> contradiction), if_neg (by rintro (q | q) <;> contradiction), if_neg (by rintro (q | q) <;> contradiction), if_neg d4, if_neg d5, if_neg d6]
  rw [e]
  rfl
/-- the FAULTS of the ranges -/
def chn (ln : Nat) (T : List Tk) (N : Nt) (here : Int32) (p h x : Nat) : Nat → Nat → Fl → Fl
  | 0, _, f => f
  | r + 1, i, f => chn ln T N here p h x r (i + 1) (adO ln (opR T N here p h x i) f)
theorem chkL {B : Nat → Nat} {n : Nat} {T : List Tk} {N : Nt} {ln h p x : Nat} (hx : x < 1792) (h0 : ¬ tabS x < 0) (hno : ∀ i, i < lsN T N (nI h) p → oFr T (lsT T N (nI h) p i) = none → fiI (shF x i) (cvI T N (nI h) p h x i) = true) : ∀ (r i : Nat) (c : vmD) (f : Fl), i + r = lsN T N (nI h) p → LnC B n c T N ln → FltC c f → OpsC c T N (nI h) p → gF c 20 11 = nI h → ∃ c', (∀ Q : vmD → Prop, Q c' → ∃ m, Forger_checkOperands_2 Q m (nI x) (nI (szN x)) (nI i) c) ∧ FltC c' (chn ln T N (nI h) p h x r i f) ∧ ModC FF [] [] c c' := by
  intro r
  induction r with
  | zero =>
    intro i c f hi hLn hF hO h11
    have h2 := lsN_2 T N (nI h) p
    refine ⟨c, fun Q hQ => ⟨1, ?_⟩, hF, ModC.refl _ _ _ _⟩
    unfold Forger_checkOperands_2 Operands_count
    rw [hO.1]
    dsimp only
    rw [if_neg (nI_nlt (by omega) (by omega))]
    exact hQ
  | succ r ih =>
    intro i c f hi hLn hF hO h11
    have h2 := lsN_2 T N (nI h) p
    have hL := hLn.2.1
    have step : ∀ (m : Nat) (Q : vmD → Prop), (if gA c 37 i = 0 then Forger_checkOperands_2 Q m (nI x) (nI (szN x)) (nI (i + 1)) c else (if kb (fiI (shF x i) (cvI T N (nI h) p h x i)) = 0 then (Tokens_blamePlace (gA c 36 i) 5 c fun d_20 => Forger_checkOperands_2 Q m (nI x) (nI (szN x)) (nI (i + 1)) d_20) else Forger_checkOperands_2 Q m (nI x) (nI (szN x)) (nI (i + 1)) c)) → Forger_checkOperands_2 Q (m + 1) (nI x) (nI (szN x)) (nI i) c := by
      intro m Q hQ
      have e87 : ∀ d : vmD, Forger_checkOperands_2 Q m (nI x) (nI (szN x)) (nI (i + 1)) d → Forger_checkOperands_87 (Forger_checkOperands_2 Q m) (nI x) (nI (szN x)) (nI i) d Q := by
        intro d hd
        unfold Forger_checkOperands_87
        refine bnd_iff.mpr ?_
        rw [nI_p1]
        exact hd
      have e50 : ∀ v : Int32, v = cvI T N (nI h) p h x i → Forger_checkOperands_50 (Forger_checkOperands_2 Q m) (nI x) (nI (szN x)) (nI i) (shF x i) v c Q := by
        intro v hv
        subst hv
        unfold Forger_checkOperands_50
        rw [opnoC (by omega)]
        by_cases z : gA c 37 i = 0
        · rw [if_pos z] at hQ ⊢
          rw [if_pos rfl]
          exact e87 c hQ
        · rw [if_neg z] at hQ ⊢
          rw [if_neg (by decide), fitC]
          by_cases y : kb (fiI (shF x i) (cvI T N (nI h) p h x i)) = 0
          · rw [if_pos y] at hQ ⊢
            rw [oppC (by omega)]
            unfold Tokens_blamePlace at hQ ⊢
            unfold Forger_checkOperands_87
            simp only [bnd_iff, nI_p1]
            exact hQ
          · rw [if_neg y] at hQ ⊢
            exact e87 c hQ
      unfold Forger_checkOperands_2 Operands_count
      rw [hO.1]
      dsimp only
      rw [if_pos (nI_lt (by omega) (by omega)), shkC hLn.2.2.2.2.1 hx h0 (by omega), opvC (by omega), (hO.2.1 i (by omega)).2]
      by_cases z : shF x i = 38
      · rw [if_pos z]
        unfold Forger_distance
        rw [h11]
        refine e50 _ ?_
        unfold cvI
        rw [if_pos z]
        rfl
      · rw [if_neg z]
        refine e50 _ ?_
        unfold cvI
        rw [if_neg z]
    obtain ⟨g1, g2⟩ := hO.2.2 i (by omega)
    have skip : opR T N (nI h) p h x i = none → (gA c 37 i = 0 ∨ ¬ kb (fiI (shF x i) (cvI T N (nI h) p h x i)) = 0) → ∃ c', (∀ Q : vmD → Prop, Q c' → ∃ m, Forger_checkOperands_2 Q m (nI x) (nI (szN x)) (nI i) c) ∧ FltC c' (chn ln T N (nI h) p h x (r + 1) i f) ∧ ModC FF [] [] c c' := by
      intro hr hs
      obtain ⟨c', E, F, M⟩ := ih (i + 1) c f (by omega) hLn hF hO h11
      refine ⟨c', fun Q hQ => ?_, ?_, M⟩
      · obtain ⟨m, hm⟩ := E Q hQ
        refine ⟨m + 1, step m Q ?_⟩
        by_cases z : gA c 37 i = 0
        · rw [if_pos z]
          exact hm
        · rw [if_neg z, if_neg (hs.resolve_left z)]
          exact hm
      · unfold chn
        rw [hr]
        exact F
    cases e : oFr T (lsT T N (nI h) p i) with
    | none =>
      refine skip ?_ (Or.inr ?_)
      · unfold opR
        rw [if_pos (by omega), e]
      · rw [hno i (by omega) e]
        decide
    | some q =>
      obtain ⟨g3, g4⟩ := g2 q e
      by_cases zk : (xtr T N (nI h) q).1 = 0
      · by_cases zf : fiI (shF x i) (cvI T N (nI h) p h x i) = true
        · refine skip ?_ (Or.inr ?_)
          · unfold opR
            rw [if_pos (by omega), e]
            exact if_neg (fun w => w.2 zf)
          · rw [zf]
            decide
        · have hr : opR T N (nI h) p h x i = some (5, plaT T q) := by
            unfold opR
            rw [if_pos (by omega), e]
            exact if_pos ⟨zk, zf⟩
          obtain ⟨c1, E1, F1, M1⟩ := addC hF (l := ln) (p := plaT T q) (k := 5) hLn.2.2.2.2.2.2 (tk_pl hLn.1 hL q) (by omega)
          have hLn1 : LnC B n c1 T N ln := hLn.flt M1
          obtain ⟨c', E, F, M⟩ := ih (i + 1) c1 _ (by omega) hLn1 F1 (hO.mod M1 (by decide) (by decide)) (by rw [M1.1 20 11 (by decide)]; exact h11)
          refine ⟨c', fun Q hQ => ?_, ?_, M1.trans M⟩
          · obtain ⟨m, hm⟩ := E Q hQ
            refine ⟨m + 1, step m Q ?_⟩
            rw [g4, decide_eq_true zk, if_neg (by decide), Bool.eq_false_iff.mpr zf, if_pos (show kb false = 0 from rfl), g3]
            unfold Tokens_blamePlace
            rw [hLn.2.2.2.2.2.1]
            exact E1 _ hm
          · unfold chn
            rw [hr]
            exact F
      · refine skip ?_ (Or.inl ?_)
        · unfold opR
          rw [if_pos (by omega), e]
          exact if_neg (fun w => zk w.1)
        · rw [g4, decide_eq_false zk]
          rfl
