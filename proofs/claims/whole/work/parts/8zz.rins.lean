/-! The reference's instructions: what is laid -/
theorem wrD_cong : ∀ (l l' : List Int32) (D : Nat → Int32) (h : Nat), l.map (fun x => x &&& 255) = l'.map (fun x => x &&& 255) → wrD D h l = wrD D h l' := by
  intro l
  induction l with
  | nil =>
    intro l' D h e
    cases l' with
    | nil => rfl
    | cons y l' => cases e
  | cons x l ih =>
    intro l' D h e
    cases l' with
    | nil => cases e
    | cons y l' =>
      rw [List.map_cons, List.map_cons] at e
      injection e with e1 e2
      show wrD (u1f D h (x &&& 255)) (h + 1) l = wrD (u1f D h (y &&& 255)) (h + 1) l'
      have e1 : x &&& 255 = y &&& 255 := e1
      rw [e1]
      exact ih l' _ _ e2
theorem ptL_cong {l l' : List Int32} (h : Nat) (P : Pt) (e : l.map (fun x => x &&& 255) = l'.map (fun x => x &&& 255)) : ptL h l P = ptL h l' P := by
  have el : l.length = l'.length := by
    have := congrArg List.length e
    rw [List.length_map, List.length_map] at this
    exact this
  unfold ptL
  rw [wrD_cong l l' _ _ e, el]
theorem optL {r0 r : vmD} {P : Pt} {a : Nat} (c : Prop) [Decidable c] (x : Int32) (hP : PtR true r P) (h20 : gF r 42 20 = nI a) (ha : c → a < 65536) (hp : P.2.1 < 2 ^ 30) (M : ModR [20, 39, 40] [56] r0 r) : ∃ r', (∀ K : vmD → Prop, K r' → if c then MO_lay x r K else K r) ∧ PtR true r' (ptL a (if c then [x] else []) P) ∧ gF r' 42 20 = nI (a + (if c then [x] else []).length) ∧ ModR [20, 39, 40] [56] r0 r' := by
  by_cases z : c
  · obtain ⟨r', E, P', g, M', -⟩ := layR hP h20 (ha z) hp x
    refine ⟨r', fun K hK => ?_, ?_, ?_, M.trans M'⟩
    · rw [if_pos z]
      exact E K hK
    · rw [if_pos z]
      exact P'
    · rw [if_pos z]
      exact g
  · refine ⟨r, fun K hK => ?_, ?_, ?_, M⟩
    · rw [if_neg z]
      exact hK
    · rw [if_neg z, ptL_nil]
      exact hP
    · rw [if_neg z]
      exact h20
theorem opc1 : ∀ o, o < 256 → o / 8 % 8 = 0 → ∀ j, j < 8 → (nI o + ((8 : Int32) * nI j) * 1) + 0 = nI o ||| (nI j <<< ((3 : Int32) &&& 31)) := by decide +kernel
theorem opc2 : ∀ o, o < 256 → o / 8 % 8 = 0 → ∀ j, j < 57 → nI j &&& 7 = 0 → (nI o + ((8 : Int32) * nI j) * 0) + nI j = nI o ||| nI j := by decide +kernel
theorem opc3 : ∀ o, o < 256 → o / 8 % 8 = 0 → ∀ j, j < 3 → (nI o + ((8 : Int32) * (if nI j = 0 then 0 else nI j + 1)) * 1) + 0 = nI o ||| (if nI j = 0 then 0 else (nI j + 1) <<< ((3 : Int32) &&& 31)) := by decide +kernel
/-- the opcode on the reference's side -/
def d55V (pk v : Int32) : Int32 := if pk = 3 then (if v = 0 then 0 else v + 1) else v
def opcV (o : Nat) (pk v : Int32) : Int32 := (nI o + ((8 : Int32) * d55V pk v) * (if pk = 2 then 0 else 1)) + (if pk = 2 then d55V pk v else 0)
theorem opcE {x : Nat} {v u : Int32} (h8 : pkI (shF x 0) = 0 ∨ x % 256 / 8 % 8 = 0) (hv : v = if pkI (shF x 0) = 0 then 0 else u) (hf : ¬ pkI (shF x 0) = 0 → fiI (shF x 0) u = true) (hx : x < 1792) : opcV (x % 256) (pkI (shF x 0)) v = (nI x &&& 255) ||| wiI (shF x 0) u := by
  have eo : nI x &&& 255 = nI (x % 256) := pk_andN (k := 8) (by omega) rfl
  have ho : x % 256 < 256 := by omega
  rw [eo]
  obtain ⟨s, hs⟩ : ∃ s, s = shF x 0 := ⟨_, rfl⟩
  rw [← hs] at h8 hv hf ⊢
  by_cases a : s = 39
  · have ep : pkI s = 1 := if_pos a
    have hf := hf (by rw [ep]; decide)
    have h8 := h8.resolve_left (by rw [ep]; decide)
    rw [ep, if_neg (by decide)] at hv
    rw [hv]
    have ef : fiI s u = !(decide (u < 0) || decide (7 < u)) := by
      rw [a]
      exact (if_neg (by decide)).trans ((if_neg (by decide)).trans ((if_neg (by decide)).trans (if_pos (by decide))))
    rw [ef, Bool.not_eq_true', Bool.or_eq_false_iff, decide_eq_false_iff_not, decide_eq_false_iff_not] at hf
    obtain ⟨j, hj, e⟩ := nat_of_le (n := 7) (N := 7) rfl (by omega) hf.1 hf.2
    rw [ep, e]
    have ew : wiI s (nI j) = nI j <<< ((3 : Int32) &&& 31) := if_pos a
    rw [ew]
    exact opc1 _ ho h8 j (by omega)
  · by_cases b : s = 40
    · have ep : pkI s = 2 := (if_neg a).trans (if_pos b)
      have hf := hf (by rw [ep]; decide)
      have h8 := h8.resolve_left (by rw [ep]; decide)
      rw [ep, if_neg (by decide)] at hv
      rw [hv]
      have ef : fiI s u = (!(decide (u < 0) || decide (56 < u)) && decide (u &&& 7 = 0)) := by
        rw [b]
        exact (if_neg (by decide)).trans ((if_neg (by decide)).trans ((if_neg (by decide)).trans ((if_neg (by decide)).trans (if_pos (by decide)))))
      rw [ef, Bool.and_eq_true, decide_eq_true_eq, Bool.not_eq_true', Bool.or_eq_false_iff, decide_eq_false_iff_not, decide_eq_false_iff_not] at hf
      obtain ⟨j, hj, e⟩ := nat_of_le (n := 56) (N := 56) rfl (by omega) hf.1.1 hf.1.2
      rw [e] at hf
      rw [ep, e]
      have ew : wiI s (nI j) = nI j := (if_neg a).trans (if_pos b)
      rw [ew]
      exact opc2 _ ho h8 j (by omega) hf.2
    · by_cases c : s = 41
      · have ep : pkI s = 3 := (if_neg a).trans ((if_neg b).trans (if_pos c))
        have hf := hf (by rw [ep]; decide)
        have h8 := h8.resolve_left (by rw [ep]; decide)
        rw [ep, if_neg (by decide)] at hv
        rw [hv]
        have ef : fiI s u = !(decide (u < 0) || decide (2 < u)) := by
          rw [c]
          exact (if_neg (by decide)).trans ((if_neg (by decide)).trans ((if_neg (by decide)).trans ((if_neg (by decide)).trans ((if_neg (by decide)).trans (if_pos (by decide))))))
        rw [ef, Bool.not_eq_true', Bool.or_eq_false_iff, decide_eq_false_iff_not, decide_eq_false_iff_not] at hf
        obtain ⟨j, hj, e⟩ := nat_of_le (n := 2) (N := 2) rfl (by omega) hf.1 hf.2
        rw [ep, e]
        have ew : wiI s (nI j) = (if nI j = 0 then 0 else (nI j + 1) <<< ((3 : Int32) &&& 31)) := (if_neg a).trans ((if_neg b).trans (if_pos c))
        rw [ew]
        exact opc3 _ ho h8 j (by omega)
      · have ep : pkI s = 0 := (if_neg a).trans ((if_neg b).trans (if_neg c))
        rw [ep, if_pos rfl] at hv
        rw [hv, ep]
        have ew : wiI s u = 0 := (if_neg a).trans ((if_neg b).trans (if_neg c))
        rw [ew]
        show (nI (x % 256) + ((8 : Int32) * 0) * 1) + 0 = nI (x % 256) ||| 0
        rw [Int32.mul_zero, Int32.zero_mul, Int32.add_zero, Int32.add_zero, Int32.or_zero]
/-- what is behind the opcode -/
theorem lnN_k (s : Int32) : ((s = 32 ∨ s = 33) → lnN s = 1 ∧ bkI s = 0) ∧ (bkI s = 1 → lnN s = 1) ∧ (bkI s = 2 → lnN s = 2) ∧ (bkI s = 3 → lnN s = 1) ∧ (¬ (s = 32 ∨ s = 33) → bkI s = 0 → lnN s = 0) ∧ (bkI s = 0 ∨ bkI s = 1 ∨ bkI s = 2 ∨ bkI s = 3) := by
  by_cases a : s = 32
  · subst a; decide
  by_cases b : s = 33
  · subst b; decide
  by_cases c : s = 36
  · subst c; decide
  by_cases d : s = 37
  · subst d; decide
  by_cases e : s = 38
  · subst e; decide
  by_cases f : s = 42
  · subst f; decide
  by_cases g : s = 43
  · subst g; decide
  have eb : bkI s = 0 := by
    unfold bkI
    rw [if_neg (fun q => q.elim c f), if_neg (fun q => q.elim d g), if_neg e]
  have el : lnN s = 0 := by
    unfold lnN lenI
    rw [if_neg a, if_neg b, if_neg c, if_neg d, if_neg e, if_neg f, if_neg g]
    decide
  rw [eb, el]
  exact ⟨fun q => absurd q (fun q => q.elim a b), fun q => absurd q (by decide), fun q => absurd q (by decide), fun q => absurd q (by decide), fun _ _ => rfl, Or.inl rfl⟩
def tlR (mv bk d56 d57 : Int32) : List Int32 := (if ¬ mv < 0 then [d56] else []) ++ ((if 0 < bk then [d57] else []) ++ (if bk = 2 then [d57 >>> ((8 : Int32) &&& 31)] else []))
theorem bk_one {s c d57 : Int32} (hd : ¬ bkI s = 0 → d57 = c) (hn : ¬ (s = 32 ∨ s = 33)) : numO (lnN s) c = (if 0 < bkI s then [d57] else []) ++ (if bkI s = 2 then [d57 >>> ((8 : Int32) &&& 31)] else []) := by
  obtain ⟨l1, l2, l3, l4, l5, l6⟩ := lnN_k s
  rcases l6 with e | e | e | e
  · rw [l5 hn e, e]
    rfl
  · have := hd (by rw [e]; decide)
    rw [l2 e, e, this]
    rfl
  · have := hd (by rw [e]; decide)
    rw [l3 e, e, this]
    rfl
  · have := hd (by rw [e]; decide)
    rw [l4 e, e, this]
    rfl
theorem tails {x : Nat} {c0 c1 v0 v1 d56 d57 : Int32} (hX : agX x = true) (h0 : (shF x 0 = 32 ∨ shF x 0 = 33) → d56 = v0 ∧ c0 = v0) (h1 : (shF x 1 = 32 ∨ shF x 1 = 33) → d56 = v1 ∧ c1 = v1) (k0 : ¬ bkI (shF x 0) = 0 → d57 = c0) (k1 : ¬ bkI (shF x 1) = 0 → d57 = c1) : numO (lnN (shF x 0)) c0 ++ numO (lnN (shF x 1)) c1 = tlR (mvI (shF x 0) (shF x 1)) (bkI (shF x 0) + bkI (shF x 1)) d56 d57 := by
  unfold agX at hX
  simp only [Bool.and_eq_true, Bool.or_eq_true, decide_eq_true_eq] at hX
  obtain ⟨⟨⟨⟨-, x2⟩, x3⟩, x4⟩, x5⟩ := hX
  obtain ⟨l1, l2, l3, l4, l5, l6⟩ := lnN_k (shF x 0)
  obtain ⟨m1, m2, m3, m4, m5, m6⟩ := lnN_k (shF x 1)
  unfold tlR
  by_cases a : shF x 0 = 32 ∨ shF x 0 = 33
  · obtain ⟨p1, p2⟩ := h0 a
    have emv : mvI (shF x 0) (shF x 1) = 0 := if_pos a
    have n1 : ¬ (shF x 1 = 32 ∨ shF x 1 = 33) := by
      intro q
      have e1 : mvI 0 (shF x 1) = 1 := (if_neg (by decide)).trans (if_pos q)
      have e0 : mvI (shF x 0) 0 = 0 := if_pos a
      rw [e1, e0] at x5
      rcases x5 with z | z
      · exact absurd z (by decide)
      · exact absurd z.2 (by decide)
    rw [emv, (l1 a).1, (l1 a).2, Int32.zero_add, if_pos (by decide), bk_one k1 n1, p2, p1]
    rfl
  · by_cases b : shF x 1 = 32 ∨ shF x 1 = 33
    · obtain ⟨p1, p2⟩ := h1 b
      have emv : mvI (shF x 0) (shF x 1) = 1 := (if_neg a).trans (if_pos b)
      have e1 : mvI 0 (shF x 1) = 1 := (if_neg (by decide)).trans (if_pos b)
      rw [e1] at x5
      have b0 : bkI (shF x 0) = 0 := (x5.resolve_left (by decide)).1
      rw [emv, l5 a b0, b0, (m1 b).1, (m1 b).2, p2, p1]
      rfl
    · have emv : mvI (shF x 0) (shF x 1) = -1 := (if_neg a).trans (if_neg b)
      rw [emv, if_neg (by decide), List.nil_append]
      by_cases z : bkI (shF x 0) = 0
      · rw [l5 a z, z, Int32.zero_add, bk_one k1 b]
        rfl
      · have z1 : bkI (shF x 1) = 0 := x2.resolve_left z
        rw [m5 b z1, z1, Int32.add_zero, bk_one k0 a]
        exact List.append_nil _
/-- all of it -/
def refL (x : Nat) (v d56 d57 : Int32) : List Int32 := (if 0 < frG (x / 256) then [frG (x / 256)] else []) ++ ((if 0 < mdG (x / 256) then [mdG (x / 256)] else []) ++ ((if ¬ mvI (shF x 0) (shF x 1) < 0 ∧ 0 < mdG (x / 256) then [d56] else []) ++ ([opcV (x % 256) (pkI (shF x 0)) v] ++ ((if ¬ mvI (shF x 0) (shF x 1) < 0 ∧ mdG (x / 256) = 0 then [d56] else []) ++ ((if 0 < bkI (shF x 0) + bkI (shF x 1) then [d57] else []) ++ (if bkI (shF x 0) + bkI (shF x 1) = 2 then [d57 >>> ((8 : Int32) &&& 31)] else []))))))
theorem refL_e {T : List Tk} {N : Nt} {here : Int32} {t h x : Nat} {v d56 d57 : Int32} (hX : agX x = true) (hG : agG x = true) (hx : x < 1792) (h8 : pkI (shF x 0) = 0 ∨ x % 256 / 8 % 8 = 0) (hv : v = if pkI (shF x 0) = 0 then 0 else vlI T N here (t + 1) 0) (hf : ¬ pkI (shF x 0) = 0 → fiI (shF x 0) (vlI T N here (t + 1) 0) = true) (h0 : (shF x 0 = 32 ∨ shF x 0 = 33) → d56 = vlI T N here (t + 1) 0) (h1 : (shF x 1 = 32 ∨ shF x 1 = 33) → d56 = vlI T N here (t + 1) 1) (k0 : ¬ bkI (shF x 0) = 0 → d57 = cvI T N here (t + 1) h x 0) (k1 : ¬ bkI (shF x 1) = 0 → d57 = cvI T N here (t + 1) h x 1) : refL x v d56 d57 = inO T N here t h x := by
  have near : ∀ i, (shF x i = 32 ∨ shF x i = 33) → cvI T N here (t + 1) h x i = vlI T N here (t + 1) i := by
    intro i hi
    refine if_neg ?_
    rcases hi with e | e <;> rw [e] <;> decide
  have tl := tails (x := x) (c0 := cvI T N here (t + 1) h x 0) (c1 := cvI T N here (t + 1) h x 1) hX (fun q => ⟨h0 q, near 0 q⟩) (fun q => ⟨h1 q, near 1 q⟩) k0 k1
  unfold tlR at tl
  unfold refL inO
  rw [opcE h8 hv hf hx]
  obtain ⟨g, hg⟩ : ∃ g, g = x / 256 := ⟨_, rfl⟩
  unfold agG at hG
  rw [← hg] at hG ⊢
  by_cases g4 : 4 < g
  · rw [show Nat.blt 4 g = true from by rw [Nat.blt_eq]; exact g4, cond_true] at hG
    simp only [Bool.and_eq_true, decide_eq_true_eq] at hG
    obtain ⟨⟨g7, gm⟩, gb⟩ := hG
    have n0 : ¬ g = 0 := by omega
    have zb : btG g = true := by
      have : g = 5 ∨ g = 6 := by omega
      rcases this with e | e <;> rw [e] <;> rfl
    have ef : 0 < frG g ∧ frG g = lgI g ∧ mdG g = 203 := by
      have : g = 5 ∨ g = 6 := by omega
      rcases this with e | e <;> rw [e] <;> decide
    have nm : ¬ mvI (shF x 0) (shF x 1) < 0 := by
      rw [gm]
      split <;> decide
    have ed : d56 = (if shF x 0 = 39 then vlI T N here (t + 1) 1 else vlI T N here (t + 1) 0) := by
      by_cases z : shF x 0 = 39
      · rw [if_pos z] at gm ⊢
        refine h1 (Decidable.byContradiction fun q => ?_)
        unfold mvI at gm
        rw [if_neg (by rw [z]; decide), if_neg q] at gm
        exact absurd gm (by decide)
      · rw [if_neg z] at gm ⊢
        refine h0 (Decidable.byContradiction fun q => ?_)
        unfold mvI at gm
        rw [if_neg q] at gm
        split at gm
        · exact absurd gm (by decide)
        · exact absurd gm (by decide)
    rw [if_pos ef.1, ef.2.2, if_pos (by decide), if_pos ⟨nm, by decide⟩, if_neg (fun q => absurd q.2 (by decide)), gb, if_neg (by decide), if_neg (by decide), if_neg n0, zb, if_pos rfl, if_pos rfl, if_pos rfl, ef.2.1, ed]
    rfl
  · rw [show Nat.blt 4 g = false from by
      cases e : Nat.blt 4 g with
      | false => rfl
      | true => exact absurd ((Nat.blt_eq).mp e) g4, cond_false] at hG
    simp only [Bool.or_eq_true, decide_eq_true_eq] at hG
    have zb : btG g = false := by
      unfold btG
      rw [decide_eq_false (by omega), decide_eq_false (by omega)]
      rfl
    rw [zb, if_neg Bool.false_ne_true, if_neg Bool.false_ne_true, if_neg Bool.false_ne_true, tl]
    by_cases g34 : g = 3 ∨ g = 4
    · have n0 : ¬ g = 0 := by omega
      have ef : 0 < frG g ∧ frG g = lgI g ∧ mdG g = 0 := by
        rcases g34 with e | e <;> rw [e] <;> decide
      rw [if_pos ef.1, ef.2.2, if_neg (by decide), if_neg (fun q => absurd q.2 (by decide)), if_neg n0, ef.2.1]
      by_cases nm : mvI (shF x 0) (shF x 1) < 0
      · rw [if_neg (show ¬ (¬ mvI (shF x 0) (shF x 1) < 0 ∧ (0 : Int32) = 0) from fun q => q.1 nm), if_neg (show ¬ ¬ mvI (shF x 0) (shF x 1) < 0 from fun q => q nm)]
        rfl
      · rw [if_pos ⟨nm, rfl⟩, if_pos nm]
        rfl
    · have nm : mvI (shF x 0) (shF x 1) < 0 := by
        have : mvI (shF x 0) (shF x 1) = -1 := by
          rcases hG with (q | q) | q
          · exact absurd (Or.inl q) g34
          · exact absurd (Or.inr q) g34
          · exact q
        rw [this]
        decide
      rw [if_neg (show ¬ (¬ mvI (shF x 0) (shF x 1) < 0 ∧ 0 < mdG g) from fun q => q.1 nm), if_neg (show ¬ (¬ mvI (shF x 0) (shF x 1) < 0 ∧ mdG g = 0) from fun q => q.1 nm), if_neg (show ¬ ¬ mvI (shF x 0) (shF x 1) < 0 from fun q => q nm)]
      have : g = 0 ∨ g = 1 ∨ g = 2 := by omega
      rcases this with e | e | e
      · rw [e, show frG 0 = 0 from rfl, show mdG 0 = 0 from rfl, if_neg (show ¬ (0 : Int32) < 0 by decide), if_pos (show (0 : Nat) = 0 from rfl)]
        rfl
      · rw [e, show frG 1 = 0 from rfl, show mdG 1 = 203 from rfl, if_neg (show ¬ (0 : Int32) < 0 by decide), if_pos (show (0 : Int32) < 203 by decide), if_neg (show ¬ (1 : Nat) = 0 by decide)]
        rfl
      · rw [e, show frG 2 = 0 from rfl, show mdG 2 = 237 from rfl, if_neg (show ¬ (0 : Int32) < 0 by decide), if_pos (show (0 : Int32) < 237 by decide), if_neg (show ¬ (2 : Nat) = 0 by decide)]
        rfl
