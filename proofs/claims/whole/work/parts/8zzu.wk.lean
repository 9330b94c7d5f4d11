/-! The constructors' time: worlds that grow -/
def inL (o f : Nat) : List (Nat × Nat) → Bool
  | [] => false
  | q :: l => (Nat.beq o q.1 && Nat.beq f q.2) || inL o f l
def Rq (l : List (Nat × Nat)) : Nat → Nat → Nat := fun o f => bif inL o f l then S0r o f else 0
def wK (n : Nat) (l : List (Nat × Nat)) (m L : Nat) (d : vmD) : vmW := ((n, S0k, Rq l, S0n L, m), d)
def Zr (o : Nat) (d : vmD) : Prop := d.1 o = (fun _ => 0) ∧ d.2.1 o = (fun _ => 0) ∧ d.2.2.1 o = (fun _ => 0) ∧ d.2.2.2 o = (fun _ => 0)
/-- no object from n on has any content -/
def Zs (n : Nat) (d : vmD) : Prop := ∀ o, n ≤ o → o < 900 → Zr o d
theorem upz_id {α : Type} {f : Nat → Nat → α} {o : Nat} {v : α} (h : f o = fun _ => v) : upz f o v = f := by
  funext a b
  unfold upz
  by_cases z : a = o
  · subst z
    rw [if_pos rfl, h]
  · rw [if_neg z]
theorem up1_id {α : Type} {f : Nat → α} {o : Nat} {v : α} (h : f o = v) : up1 f o v = f := by
  funext a
  unfold up1
  by_cases z : a = o
  · subst z
    rw [if_pos rfl, h]
  · rw [if_neg z]
def noL (o : Nat) : List (Nat × Nat) → Bool
  | [] => true
  | q :: l => !(Nat.beq o q.1) && noL o l
theorem noL_in {o f : Nat} : ∀ {l : List (Nat × Nat)}, noL o l = true → inL o f l = false
  | [], _ => rfl
  | q :: l, h => by
    obtain ⟨h1, h2⟩ := Bool.and_eq_true_iff.mp h
    have h1 : Nat.beq o q.1 = false := by
      cases e : Nat.beq o q.1 with
      | false => rfl
      | true => rw [e] at h1; cases h1
    show ((Nat.beq o q.1 && Nat.beq f q.2) || inL o f l) = false
    rw [h1, noL_in h2]
    rfl
theorem Rq_no {o : Nat} {l : List (Nat × Nat)} (h : noL o l = true) : Rq l o = fun _ => 0 := by
  funext f
  unfold Rq
  rw [noL_in h]
  rfl
theorem new_wK {n m L kind len : Nat} {l : List (Nat × Nat)} {d : vmD} (hk : S0k n = kind) (hn : S0n L n = len) (hl : noL n l = true) (hz : Zr n d) : vmNew (wK n l m L d) kind len = wK (n + 1) l (m + len) L d := by
  obtain ⟨z1, z2, z3, z4⟩ := hz
  show ((n + 1, up1 S0k n kind, upz (Rq l) n 0, up1 (S0n L) n len, m + len), (upz d.1 n 0, upz d.2.1 n 0, upz d.2.2.1 n 0, upz d.2.2.2 n 0)) = ((n + 1, S0k, Rq l, S0n L, m + len), d)
  rw [up1_id hk, up1_id hn, upz_id (Rq_no hl), upz_id z1, upz_id z2, upz_id z3, upz_id z4]
theorem Zs.at {n : Nat} {d : vmD} (h : Zs n d) (hn : n < 900) : Zr n d := h n (Nat.le_refl n) hn
theorem Zs.up {n : Nat} {d : vmD} (h : Zs n d) : Zs (n + 1) d := fun o h1 h2 => h o (by omega) h2
theorem ct_arr {k pc tg n len kind m L : Nat} {cv : Int32} {ty : ArrayType} {ft : FieldType} {x : Int32} {l : List (Nat × Nat)} {d : vmD} {lo : vmL} {st : List Value} {Q : Option Value → vmW → Prop} (hI : mI k pc = some (.newarray ty, 2, cv, tg)) (hT : vmAt ty = some (kind, ft)) (hx : x = nI len) (hlen : len ≤ 65536) (hn : n < 900) (hk : S0k n = kind) (hs : S0n L n = len) (hl : noL n l = true) (hz : Zs n d) (h : vmWp k (pc + 2) lo (.ref n :: st) (wK (n + 1) l (m + len) L d) Q) : vmWp k pc lo (.int x :: st) (wK n l m L d) Q := by
  subst hx
  refine vmWp.one hI ?_ h
  delta vmAct
  dsimp only
  rw [hT]
  dsimp only
  have hc : (nI len).toNatClampNeg = len := nI_clamp (by omega)
  rw [if_pos (show (¬ nI len < (0 : Int32) ∧ (nI len).toNatClampNeg ≤ 65536) ∧ (wK n l m L d).1.1 < 900 from ⟨⟨nI_nlt (b := 0) (by omega) (by omega), by rw [hc]; exact hlen⟩, hn⟩), hc, new_wK hk hs hl (hz.at hn)]
  rfl
theorem ct_new {k pc tg n c len m L : Nat} {cv : Int32} {j : Nat} {y : List Nat} {l : List (Nat × Nat)} {d : vmD} {lo : vmL} {st : List Value} {Q : Option Value → vmW → Prop} (hI : mI k pc = some (.new j, 3, cv, tg)) (hR : rN (mC k) j = some (c, y)) (hn : n < 900) (hk : S0k n = c) (hs : S0n L n = cF c) (hlen : cF c = len) (hl : noL n l = true) (hz : Zs n d) (h : vmWp k (pc + 3) lo (.ref n :: st) (wK (n + 1) l (m + len) L d) Q) : vmWp k pc lo st (wK n l m L d) Q := by
  subst hlen
  refine vmWp.one hI ?_ h
  delta vmAct
  dsimp only
  rw [hR]
  dsimp only
  rw [if_pos (show (wK n l m L d).1.1 < 900 from hn), new_wK hk hs hl (hz.at hn)]
  rfl
theorem Rq_up {l : List (Nat × Nat)} {o f v : Nat} (h : S0r o f = v) : up2 (Rq l) o f v = Rq ((o, f) :: l) := by
  funext a b
  unfold up2
  by_cases z : a = o ∧ b = f
  · obtain ⟨rfl, rfl⟩ := z
    rw [if_pos ⟨rfl, rfl⟩]
    show v = bif ((Nat.beq a a && Nat.beq b b) || inL a b l) then S0r a b else 0
    rw [show Nat.beq a a = true from Nat.beq_refl a, show Nat.beq b b = true from Nat.beq_refl b]
    exact h.symm
  · rw [if_neg z]
    show _ = bif ((Nat.beq a o && Nat.beq b f) || inL a b l) then S0r a b else 0
    have e : (Nat.beq a o && Nat.beq b f) = false := by
      cases h1 : Nat.beq a o with
      | false => rfl
      | true =>
        cases h2 : Nat.beq b f with
        | false => rfl
        | true => exact absurd ⟨Nat.eq_of_beq_eq_true h1, Nat.eq_of_beq_eq_true h2⟩ z
    rw [e]
    rfl
/-- a reference is put into a field -/
theorem ct_putr {k pc tg n c f o i m L : Nat} {cv : Int32} {j : Nat} {y : Nat} {l : List (Nat × Nat)} {d : vmD} {lo : vmL} {st : List Value} {Q : Option Value → vmW → Prop} (hI : mI k pc = some (.putfield j, 3, cv, tg)) (hR : rF (mC k) j = some (c, f, y)) (hc : (vmIs (wK n l m L d) o c && (!(cT c f).2.2.2 || (mInit k && Nat.beq c (mC k)))) = true) (hp : vmPut (wK n l m L d) c o f (.ref i) = some ((n, S0k, up2 (Rq l) o f (i + 1), S0n L, m), d)) (hr : S0r o f = i + 1) (h : vmWp k (pc + 3) lo st (wK n ((o, f) :: l) m L d) Q) : vmWp k pc lo (.ref i :: .ref o :: st) (wK n l m L d) Q := by
  refine vmWp.one hI ?_ h
  delta vmAct
  dsimp only
  rw [hR]
  dsimp only
  rw [hc, cond_true, hp]
  dsimp only
  rw [Rq_up hr]
  rfl
