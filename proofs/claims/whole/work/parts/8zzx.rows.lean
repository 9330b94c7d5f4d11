/-! More rows of the constructors' time -/
theorem ct_putd {k pc tg n c f o m L : Nat} {cv : Int32} {j : Nat} {y : Nat} {v : Value} {l : List (Nat × Nat)} {d d' : vmD} {lo : vmL} {st : List Value} {Q : Option Value → vmW → Prop} (hI : mI k pc = some (.putfield j, 3, cv, tg)) (hR : rF (mC k) j = some (c, f, y)) (hc : (vmIs (wK n l m L d) o c && (!(cT c f).2.2.2 || (mInit k && Nat.beq c (mC k)))) = true) (hp : vmPut (wK n l m L d) c o f v = some (wK n l m L d')) (h : vmWp k (pc + 3) lo st (wK n l m L d') Q) : vmWp k pc lo (v :: .ref o :: st) (wK n l m L d) Q := by
  refine vmWp.one hI ?_ h
  delta vmAct
  dsimp only
  rw [hR]
  dsimp only
  rw [hc, cond_true, hp]
theorem Zs.sF {n o f : Nat} {d : vmD} {v : Int32} (h : Zs n d) (ho : o < n) : Zs n (sF d o f v) := by
  intro a h1 h2
  obtain ⟨p, q⟩ := h a h1 h2
  refine ⟨?_, q⟩
  rw [← p]
  funext b
  show up2 d.1 o f v a b = d.1 a b
  unfold up2
  rw [if_neg (fun z => by omega)]
theorem Zs.sG {n o f : Nat} {d : vmD} {v : Int64} (h : Zs n d) (ho : o < n) : Zs n (sG d o f v) := by
  intro a h1 h2
  obtain ⟨p, q, r⟩ := h a h1 h2
  refine ⟨p, ?_, r⟩
  rw [← q]
  funext b
  show up2 d.2.1 o f v a b = d.2.1 a b
  unfold up2
  rw [if_neg (fun z => by omega)]
theorem Zs.sA {n o f : Nat} {d : vmD} {v : Int32} (h : Zs n d) (ho : o < n) : Zs n (sA d o f v) := by
  intro a h1 h2
  obtain ⟨p, q, r, t⟩ := h a h1 h2
  refine ⟨p, q, ?_, t⟩
  rw [← r]
  funext b
  show up2 d.2.2.1 o f v a b = d.2.2.1 a b
  unfold up2
  rw [if_neg (fun z => by omega)]
theorem Zs.sL {n o f : Nat} {d : vmD} {v : Int64} (h : Zs n d) (ho : o < n) : Zs n (sL d o f v) := by
  intro a h1 h2
  obtain ⟨p, q, r, t⟩ := h a h1 h2
  refine ⟨p, q, r, ?_⟩
  rw [← t]
  funext b
  show up2 d.2.2.2 o f v a b = d.2.2.2 a b
  unfold up2
  rw [if_neg (fun z => by omega)]
theorem Zs.fill {n o : Nat} {d : vmD} {v : Int32} (h : Zs n d) (ho : o < n) : ∀ k, Zs n (fillA d o v k) := by
  intro k
  induction k with
  | zero => exact h
  | succ k ih => exact ih.sA ho
/-- the keys of a list of names: an id for each, as reserve lays them -/
def lgr (K : Int64) (c : Int32) : Int64 := K * 38 + Int32.toInt64 (if Names_digitOf_v c < 0 then 0 else Names_digitOf_v c)
def rsvF : List Int32 → Nat → vmD → vmD
  | [], _, d => d
  | c :: t, id, d => if c = 32 then rsvF t (id + 1) d else if c = 45 then rsvF t id d else rsvF t id (sL d 4 id (lgr (gL d 4 id) c))
def spcN : List Int32 → Nat → Nat
  | [], id => id
  | c :: t, id => if c = 32 then spcN t (id + 1) else spcN t id
theorem Zs.rsv {n : Nat} (hn : 4 < n) : ∀ (s : List Int32) (id : Nat) {d : vmD}, Zs n d → Zs n (rsvF s id d)
  | [], _, _, h => h
  | c :: t, id, d, h => by
    unfold rsvF
    split
    · exact Zs.rsv hn t _ h
    · split
      · exact Zs.rsv hn t _ h
      · exact Zs.rsv hn t _ (h.sL hn)
abbrev wRsv (L : Nat) (d : vmD) : vmW := wK 9 [(3, 4), (3, 3), (3, 2), (3, 1), (3, 0), (0, 0), (1, 0)] 66459 L d
def RsvOk (L : Nat) : Prop := ∀ (s id ans : Nat) (d : vmD) (Q : Option Value → vmW → Prop), s < 7 → spcN (sB s) id < 107 → spcN (sB s) id + 1 = ans → Q (some (.int (nI ans))) (wRsv L (rsvF (sB s) id d)) → vmWp 134 0 [(0, .ref 3), (1, .ref (2000 + s)), (2, .int (nI id))] [] (wRsv L d) Q
abbrev wShp (L : Nat) (d : vmD) : vmW := wK 19 [(15, 2), (15, 1), (15, 0), (0, 4), (13, 0), (0, 3), (11, 0), (0, 2), (9, 0), (0, 1), (3, 4), (3, 3), (3, 2), (3, 1), (3, 0), (0, 0), (1, 0)] 82192 L d
def ShpR (d0 d : vmD) : Prop := ModC [] [16, 17, 18] [] d0 d ∧ (∀ j, j < 1792 → gA d 16 j = tabS j ∧ gA d 17 j = tabX j) ∧ ∀ w, w < 107 → gA d 18 w = tabF w
def ShpOk (L : Nat) : Prop := ∀ (d : vmD) (Q : Option Value → vmW → Prop), (∀ w, w < 107 → gA d 18 w = -1) → Zs 19 d → (∀ d', ShpR d d' → Zs 19 d' → vmWp 160 116 [(1, .int (-1)), (0, .ref 15)] [] (wShp L d') Q) → vmWp 160 42 [(1, .int 1791), (0, .ref 15)] [] (wShp L d) Q
theorem put_b {w : vmW} {c o f : Nat} {x : Int32} (ht : cTy c f = .boolean) (hx : x = 0 ∨ x = 1) : vmPut w c o f (.int x) = some (w.1, (up2 w.2.1 o f x, w.2.2)) := by
  unfold vmPut
  rw [ht]
  exact if_pos hx
