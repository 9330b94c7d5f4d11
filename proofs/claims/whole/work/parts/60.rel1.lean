/-! The relation between the class's data and the reference's: what it says -/
theorem bnd_iff {α : Type} {x : α} {K : α → Prop} : bnd x K ↔ K x := ⟨fun h => h x rfl, bnd_i⟩
def u1f {α : Type} (f : Nat → α) (j : Nat) (v : α) : Nat → α := fun k => if k = j then v else f k
theorem u1f_eq {α : Type} (f : Nat → α) (j : Nat) (v : α) : u1f f j v j = v := if_pos rfl
theorem u1f_ne {α : Type} (f : Nat → α) {j k : Nat} (v : α) (h : ¬ k = j) : u1f f j v k = f k := if_neg h
theorem gA_sA (d : vmD) (o j : Nat) (v : Int32) : gA (sA d o j v) o = u1f (gA d o) j v := by
  funext k
  show up2 d.2.2.1 o j v o k = _
  unfold up2 u1f gA
  by_cases h : k = j
  · rw [if_pos ⟨rfl, h⟩, if_pos h]
  · rw [if_neg (fun h2 => h h2.2), if_neg h]
theorem gA_sA_ne (d : vmD) {o o' : Nat} (j : Nat) (v : Int32) (h : ¬ o' = o) : gA (sA d o j v) o' = gA d o' := by
  funext k
  show up2 d.2.2.1 o j v o' k = _
  unfold up2 gA
  rw [if_neg (fun h2 => h h2.1)]
theorem gA_sF (d : vmD) (o f o' : Nat) (v : Int32) : gA (sF d o f v) o' = gA d o' := rfl
theorem gA_sG (d : vmD) (o f o' : Nat) (v : Int64) : gA (sG d o f v) o' = gA d o' := rfl
theorem gA_sL (d : vmD) (o f o' : Nat) (v : Int64) : gA (sL d o f v) o' = gA d o' := rfl
theorem gF_sA (d : vmD) (o f o' : Nat) (v : Int32) : gF (sA d o f v) o' = gF d o' := rfl
theorem gF_sG (d : vmD) (o f o' : Nat) (v : Int64) : gF (sG d o f v) o' = gF d o' := rfl
theorem gF_sL (d : vmD) (o f o' : Nat) (v : Int64) : gF (sL d o f v) o' = gF d o' := rfl
theorem gG_sA (d : vmD) (o f o' : Nat) (v : Int32) : gG (sA d o f v) o' = gG d o' := rfl
theorem gG_sF (d : vmD) (o f o' : Nat) (v : Int32) : gG (sF d o f v) o' = gG d o' := rfl
theorem gG_sL (d : vmD) (o f o' : Nat) (v : Int64) : gG (sL d o f v) o' = gG d o' := rfl
theorem gL_sA (d : vmD) (o f o' : Nat) (v : Int32) : gL (sA d o f v) o' = gL d o' := rfl
theorem gL_sF (d : vmD) (o f o' : Nat) (v : Int32) : gL (sF d o f v) o' = gL d o' := rfl
theorem gL_sG (d : vmD) (o f o' : Nat) (v : Int64) : gL (sG d o f v) o' = gL d o' := rfl
theorem gF_sF (d : vmD) (o j : Nat) (v : Int32) : gF (sF d o j v) o = u1f (gF d o) j v := by
  funext k
  show up2 d.1 o j v o k = _
  unfold up2 u1f gF
  by_cases h : k = j
  · rw [if_pos ⟨rfl, h⟩, if_pos h]
  · rw [if_neg (fun h2 => h h2.2), if_neg h]
theorem gF_sF_ne (d : vmD) {o o' : Nat} (j : Nat) (v : Int32) (h : ¬ o' = o) : gF (sF d o j v) o' = gF d o' := by
  funext k
  show up2 d.1 o j v o' k = _
  unfold up2 gF
  rw [if_neg (fun h2 => h h2.1)]
theorem gG_sGe (d : vmD) (o j : Nat) (v : Int64) : gG (sG d o j v) o = u1f (gG d o) j v := by
  funext k
  show up2 d.2.1 o j v o k = _
  unfold up2 u1f gG
  by_cases h : k = j
  · rw [if_pos ⟨rfl, h⟩, if_pos h]
  · rw [if_neg (fun h2 => h h2.2), if_neg h]
theorem gG_sG_ne (d : vmD) {o o' : Nat} (j : Nat) (v : Int64) (h : ¬ o' = o) : gG (sG d o j v) o' = gG d o' := by
  funext k
  show up2 d.2.1 o j v o' k = _
  unfold up2 gG
  rw [if_neg (fun h2 => h h2.1)]
theorem gL_sLe (d : vmD) (o j : Nat) (v : Int64) : gL (sL d o j v) o = u1f (gL d o) j v := by
  funext k
  show up2 d.2.2.2 o j v o k = _
  unfold up2 u1f gL
  by_cases h : k = j
  · rw [if_pos ⟨rfl, h⟩, if_pos h]
  · rw [if_neg (fun h2 => h h2.2), if_neg h]
theorem gL_sL_ne (d : vmD) {o o' : Nat} (j : Nat) (v : Int64) (h : ¬ o' = o) : gL (sL d o j v) o' = gL d o' := by
  funext k
  show up2 d.2.2.2 o j v o' k = _
  unfold up2 gL
  rw [if_neg (fun h2 => h h2.1)]
/-- an octet, a word -/
def oct (x : Int32) : Prop := ∃ j, j < 256 ∧ x = nI j
def wrd (x : Int32) : Prop := ∃ j, j < 65536 ∧ x = nI j
def bit1 (x : Int32) : Prop := x = 0 ∨ x = 1
theorem oct_and (x : Int32) : oct (x &&& 255) := pk_andE x 8 rfl
theorem wrd_and (x : Int32) : wrd (x &&& 65535) := pk_andE x 16 rfl
theorem oct.and {x : Int32} (h : oct x) : x &&& 255 = x := by
  obtain ⟨j, hj, rfl⟩ := h
  rw [pk_andN (k := 8) (by omega) rfl, Nat.mod_eq_of_lt hj]
theorem wrd.and {x : Int32} (h : wrd x) : x &&& 65535 = x := by
  obtain ⟨j, hj, rfl⟩ := h
  rw [pk_andN (k := 16) (by omega) rfl, Nat.mod_eq_of_lt hj]
theorem oct.wrd {x : Int32} (h : oct x) : wrd x := by
  obtain ⟨j, hj, rfl⟩ := h
  exact ⟨j, by omega, rfl⟩
theorem bit1.oct {x : Int32} (h : bit1 x) : oct x := by
  rcases h with rfl | rfl
  · exact ⟨0, by omega, rfl⟩
  · exact ⟨1, by omega, rfl⟩
theorem ix_and255 (x : Int32) : ixOk (x &&& 255) 256 := pk_andIn x (m := 255) 8 rfl (by omega)
theorem ix_and65535 (x : Int32) : ixOk (x &&& 65535) 65536 := pk_andIn x (m := 65535) 16 rfl (by omega)
theorem nat_of {x : Int32} {n : Nat} {N : Int32} (hN : N = nI n) (hn : n < 2 ^ 31) (h0 : ¬ x < 0) (h1 : x < N) : ∃ j, j < n ∧ x = nI j := by
  obtain ⟨j, hj, rfl⟩ := nI_of h0
  subst hN
  exact ⟨j, (nI_ltI hj hn).mp h1, rfl⟩
theorem nat_of_le {x : Int32} {n : Nat} {N : Int32} (hN : N = nI n) (hn : n < 2 ^ 31) (h0 : ¬ x < 0) (h1 : ¬ N < x) : ∃ j, j < n + 1 ∧ x = nI j := by
  obtain ⟨j, hj, rfl⟩ := nI_of h0
  subst hN
  refine ⟨j, ?_, rfl⟩
  have : ¬ n < j := fun h => h1 ((nI_ltI hn hj).mpr h)
  omega
/-- the memories: bytes here, octets there -/
def RMem (m n : Nat → Int32) : Prop := ∀ a, a < 65536 → n a = m a &&& 255
/-- a text: its length, its signs -/
def RTxt (K : Nat) (l s : Int32) (m n : Nat → Int32) : Prop := ∃ k, k ≤ K ∧ l = nI k ∧ s = nI k ∧ ∀ i, i < k → n i = m i &&& 255
/-- the digit of a sign of a name (a capital, a digit or _) -/
def digN (c : Int32) : Nat := if c = 95 then 37 else if c < 65 then (c.toNatClampNeg - 48) + 27 else c.toNatClampNeg - 64
def nmSign (c : Int32) : Prop := c = 95 ∨ (∃ k, k < 26 ∧ c = nI (65 + k)) ∨ (∃ k, k < 10 ∧ c = nI (48 + k))
def keyN (ch : Nat → Int32) : Nat → Nat
  | 0 => 0
  | m + 1 => keyN ch m * 38 + digN (ch m)
def RKey (key : Int64) (size : Int32) (ch : Nat → Int32) : Prop := ∃ m, 1 ≤ m ∧ m ≤ 12 ∧ size = nI m ∧ (∀ j, j < m → nmSign (ch j)) ∧ key = lN (keyN ch m)
def RLab (l s : Int32) (v1 v2 : Nat → Int32) (keys : Nat → Int64) (sizes names : Nat → Int32) : Prop := ∃ k, k ≤ 200 ∧ l = nI k ∧ s = nI k ∧ ∀ i, i < k → v2 i = v1 i ∧ RKey (keys i) (sizes i) (fun j => names (12 * i + j))
/-- what told() tells -/
def RTold (f21 f20 f42 : Nat → Int32) : Prop := f21 0 = f42 46 ∧ f21 1 = f42 47 ∧ f20 14 = f42 48 ∧ f20 15 = f42 49 ∧ f20 16 = f42 50
/-- the registers -/
def ROct (r65 r66 : Nat → Int32) : Prop := ∀ k, k < 8 → oct (r65 k) ∧ oct (r66 k)
def RReg (g r65 r66 r67 f : Nat → Int32) : Prop := ROct r65 r66 ∧
  g 0 = (r65 7 <<< ((8 : Int32) &&& 31)) ||| r65 6 ∧ g 1 = (r65 0 <<< ((8 : Int32) &&& 31)) ||| r65 1 ∧ g 2 = (r65 2 <<< ((8 : Int32) &&& 31)) ||| r65 3 ∧ g 3 = (r65 4 <<< ((8 : Int32) &&& 31)) ||| r65 5 ∧
  g 4 = (r66 7 <<< ((8 : Int32) &&& 31)) ||| r66 6 ∧ g 5 = (r66 0 <<< ((8 : Int32) &&& 31)) ||| r66 1 ∧ g 6 = (r66 2 <<< ((8 : Int32) &&& 31)) ||| r66 3 ∧ g 7 = (r66 4 <<< ((8 : Int32) &&& 31)) ||| r66 5 ∧
  (g 8 = r67 1 ∧ wrd (g 8)) ∧ (g 9 = r67 2 ∧ wrd (g 9)) ∧ (g 10 = f 75 ∧ wrd (g 10)) ∧ (g 11 = f 76 ∧ wrd (g 11)) ∧
  (g 12 = f 72 ∧ oct (g 12)) ∧ (g 13 = f 73 ∧ oct (g 13)) ∧ (g 14 = f 77 ∧ bit1 (g 14)) ∧ (g 15 = f 78 ∧ bit1 (g 15)) ∧ (g 16 = f 79 ∧ (g 16 = 0 ∨ g 16 = 1 ∨ g 16 = 2))
/-- the ports -/
def RPort (i1 o1 i2 o2 : Nat → Int32) (n1 n2 : Int64) : Prop := (∀ p, p < 256 → i1 p = i2 p ∧ oct (i1 p) ∧ o1 p = o2 p) ∧ n1 = n2
/-- the requests -/
def RReq (f38 f42 : Nat → Int32) : Prop := f38 6 = f42 83 ∧ f38 7 = f42 82 ∧ f38 9 = f42 85 ∧ bit1 (f38 6) ∧ bit1 (f38 7) ∧ bit1 (f38 9) ∧ (f38 6 = 1 → f38 8 = f42 84 ∧ oct (f38 8))
/-- the tables, as the class's constructor lays them -/
def RCst (L4 : Nat → Int64) (A16 A17 A18 : Nat → Int32) : Prop := (∀ i, i < 107 → L4 i = tabN i) ∧ (∀ i, i < 1792 → A16 i = tabS i) ∧ (∀ i, i < 1792 → A17 i = tabX i) ∧ ∀ i, i < 107 → A18 i = tabF i
def Rel (c r : vmD) : Prop :=
  RCst (gL c 4) (gA c 16) (gA c 17) (gA c 18) ∧
  RMem (gA c 2) (gA r 55) ∧
  RTxt 6000 (gF c 9 1) (gF r 42 1) (gA c 10) (gA r 43) ∧
  RLab (gF c 3 5) (gF r 42 51) (gA c 6) (gA r 61) (gL c 5) (gA r 60) (gA r 59) ∧
  RTxt 32 (gF c 13 1) (gF r 42 68) (gA c 14) (gA r 63) ∧
  RTold (gF c 21) (gF c 20) (gF r 42) ∧
  RReg (gA c 39) (gA r 65) (gA r 66) (gA r 67) (gF r 42) ∧
  RPort (gA c 40) (gA c 41) (gA r 68) (gA r 69) (gG c 38 5) (gG r 42 86) ∧
  RReq (gF c 38) (gF r 42)
