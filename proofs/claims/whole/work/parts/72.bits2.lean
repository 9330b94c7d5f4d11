/-! Octets by their bits: flags of sums and differences on both sides -/
theorem l_1 (i : Nat) : bt 1 i = (decide (i = 0)) := by
  rcases Nat.lt_or_ge i 32 with h | h
  · exact (by decide +kernel : ∀ i, i < 32 → bt 1 i = (decide (i = 0))) i h
  · rw [b_big h]
    simp only [decide_eq_false (show ¬ i = 0 by omega), Bool.or_false]
theorem l_2 (i : Nat) : bt 2 i = (decide (i = 1)) := by
  rcases Nat.lt_or_ge i 32 with h | h
  · exact (by decide +kernel : ∀ i, i < 32 → bt 2 i = (decide (i = 1))) i h
  · rw [b_big h]
    simp only [decide_eq_false (show ¬ i = 1 by omega), Bool.or_false]
theorem l_4 (i : Nat) : bt 4 i = (decide (i = 2)) := by
  rcases Nat.lt_or_ge i 32 with h | h
  · exact (by decide +kernel : ∀ i, i < 32 → bt 4 i = (decide (i = 2))) i h
  · rw [b_big h]
    simp only [decide_eq_false (show ¬ i = 2 by omega), Bool.or_false]
theorem l_8 (i : Nat) : bt 8 i = (decide (i = 3)) := by
  rcases Nat.lt_or_ge i 32 with h | h
  · exact (by decide +kernel : ∀ i, i < 32 → bt 8 i = (decide (i = 3))) i h
  · rw [b_big h]
    simp only [decide_eq_false (show ¬ i = 3 by omega), Bool.or_false]
theorem l_16 (i : Nat) : bt 16 i = (decide (i = 4)) := by
  rcases Nat.lt_or_ge i 32 with h | h
  · exact (by decide +kernel : ∀ i, i < 32 → bt 16 i = (decide (i = 4))) i h
  · rw [b_big h]
    simp only [decide_eq_false (show ¬ i = 4 by omega), Bool.or_false]
theorem l_64 (i : Nat) : bt 64 i = (decide (i = 6)) := by
  rcases Nat.lt_or_ge i 32 with h | h
  · exact (by decide +kernel : ∀ i, i < 32 → bt 64 i = (decide (i = 6))) i h
  · rw [b_big h]
    simp only [decide_eq_false (show ¬ i = 6 by omega), Bool.or_false]
theorem l_128 (i : Nat) : bt 128 i = (decide (i = 7)) := by
  rcases Nat.lt_or_ge i 32 with h | h
  · exact (by decide +kernel : ∀ i, i < 32 → bt 128 i = (decide (i = 7))) i h
  · rw [b_big h]
    simp only [decide_eq_false (show ¬ i = 7 by omega), Bool.or_false]
theorem l_40 (i : Nat) : bt 40 i = (decide (i = 3) || decide (i = 5)) := by
  rcases Nat.lt_or_ge i 32 with h | h
  · exact (by decide +kernel : ∀ i, i < 32 → bt 40 i = (decide (i = 3) || decide (i = 5))) i h
  · rw [b_big h]
    simp only [decide_eq_false (show ¬ i = 3 by omega), decide_eq_false (show ¬ i = 5 by omega), Bool.or_false]
theorem l_168 (i : Nat) : bt 168 i = (decide (i = 3) || decide (i = 5) || decide (i = 7)) := by
  rcases Nat.lt_or_ge i 32 with h | h
  · exact (by decide +kernel : ∀ i, i < 32 → bt 168 i = (decide (i = 3) || decide (i = 5) || decide (i = 7))) i h
  · rw [b_big h]
    simp only [decide_eq_false (show ¬ i = 3 by omega), decide_eq_false (show ¬ i = 5 by omega), decide_eq_false (show ¬ i = 7 by omega), Bool.or_false]
theorem l_56 (i : Nat) : bt 56 i = (decide (i = 3) || decide (i = 4) || decide (i = 5)) := by
  rcases Nat.lt_or_ge i 32 with h | h
  · exact (by decide +kernel : ∀ i, i < 32 → bt 56 i = (decide (i = 3) || decide (i = 4) || decide (i = 5))) i h
  · rw [b_big h]
    simp only [decide_eq_false (show ¬ i = 3 by omega), decide_eq_false (show ¬ i = 4 by omega), decide_eq_false (show ¬ i = 5 by omega), Bool.or_false]
theorem l_254 (i : Nat) : bt 254 i = (decide (i = 1) || decide (i = 2) || decide (i = 3) || decide (i = 4) || decide (i = 5) || decide (i = 6) || decide (i = 7)) := by
  rcases Nat.lt_or_ge i 32 with h | h
  · exact (by decide +kernel : ∀ i, i < 32 → bt 254 i = (decide (i = 1) || decide (i = 2) || decide (i = 3) || decide (i = 4) || decide (i = 5) || decide (i = 6) || decide (i = 7))) i h
  · rw [b_big h]
    simp only [decide_eq_false (show ¬ i = 1 by omega), decide_eq_false (show ¬ i = 2 by omega), decide_eq_false (show ¬ i = 3 by omega), decide_eq_false (show ¬ i = 4 by omega), decide_eq_false (show ¬ i = 5 by omega), decide_eq_false (show ¬ i = 6 by omega), decide_eq_false (show ¬ i = 7 by omega), Bool.or_false]
theorem l_196 (i : Nat) : bt 196 i = (decide (i = 2) || decide (i = 6) || decide (i = 7)) := by
  rcases Nat.lt_or_ge i 32 with h | h
  · exact (by decide +kernel : ∀ i, i < 32 → bt 196 i = (decide (i = 2) || decide (i = 6) || decide (i = 7))) i h
  · rw [b_big h]
    simp only [decide_eq_false (show ¬ i = 2 by omega), decide_eq_false (show ¬ i = 6 by omega), decide_eq_false (show ¬ i = 7 by omega), Bool.or_false]
theorem l_197 (i : Nat) : bt 197 i = (decide (i = 0) || decide (i = 2) || decide (i = 6) || decide (i = 7)) := by
  rcases Nat.lt_or_ge i 32 with h | h
  · exact (by decide +kernel : ∀ i, i < 32 → bt 197 i = (decide (i = 0) || decide (i = 2) || decide (i = 6) || decide (i = 7))) i h
  · rw [b_big h]
    simp only [decide_eq_false (show ¬ i = 0 by omega), decide_eq_false (show ¬ i = 2 by omega), decide_eq_false (show ¬ i = 6 by omega), decide_eq_false (show ¬ i = 7 by omega), Bool.or_false]
theorem l_7 (i : Nat) : bt 7 i = (decide (i = 0) || decide (i = 1) || decide (i = 2)) := by
  rcases Nat.lt_or_ge i 32 with h | h
  · exact (by decide +kernel : ∀ i, i < 32 → bt 7 i = (decide (i = 0) || decide (i = 1) || decide (i = 2))) i h
  · rw [b_big h]
    simp only [decide_eq_false (show ¬ i = 0 by omega), decide_eq_false (show ¬ i = 1 by omega), decide_eq_false (show ¬ i = 2 by omega), Bool.or_false]
theorem l_15 (i : Nat) : bt 15 i = (decide (i = 0) || decide (i = 1) || decide (i = 2) || decide (i = 3)) := by
  rcases Nat.lt_or_ge i 32 with h | h
  · exact (by decide +kernel : ∀ i, i < 32 → bt 15 i = (decide (i = 0) || decide (i = 1) || decide (i = 2) || decide (i = 3))) i h
  · rw [b_big h]
    simp only [decide_eq_false (show ¬ i = 0 by omega), decide_eq_false (show ¬ i = 1 by omega), decide_eq_false (show ¬ i = 2 by omega), decide_eq_false (show ¬ i = 3 by omega), Bool.or_false]
theorem l_240 (i : Nat) : bt 240 i = (decide (i = 4) || decide (i = 5) || decide (i = 6) || decide (i = 7)) := by
  rcases Nat.lt_or_ge i 32 with h | h
  · exact (by decide +kernel : ∀ i, i < 32 → bt 240 i = (decide (i = 4) || decide (i = 5) || decide (i = 6) || decide (i = 7))) i h
  · rw [b_big h]
    simp only [decide_eq_false (show ¬ i = 4 by omega), decide_eq_false (show ¬ i = 5 by omega), decide_eq_false (show ¬ i = 6 by omega), decide_eq_false (show ¬ i = 7 by omega), Bool.or_false]
theorem l_65280 (i : Nat) : bt 65280 i = (decide (i = 8) || decide (i = 9) || decide (i = 10) || decide (i = 11) || decide (i = 12) || decide (i = 13) || decide (i = 14) || decide (i = 15)) := by
  rcases Nat.lt_or_ge i 32 with h | h
  · exact (by decide +kernel : ∀ i, i < 32 → bt 65280 i = (decide (i = 8) || decide (i = 9) || decide (i = 10) || decide (i = 11) || decide (i = 12) || decide (i = 13) || decide (i = 14) || decide (i = 15))) i h
  · rw [b_big h]
    simp only [decide_eq_false (show ¬ i = 8 by omega), decide_eq_false (show ¬ i = 9 by omega), decide_eq_false (show ¬ i = 10 by omega), decide_eq_false (show ¬ i = 11 by omega), decide_eq_false (show ¬ i = 12 by omega), decide_eq_false (show ¬ i = 13 by omega), decide_eq_false (show ¬ i = 14 by omega), decide_eq_false (show ¬ i = 15 by omega), Bool.or_false]
theorem l_208 (i : Nat) : bt 208 i = (decide (i = 4) || decide (i = 6) || decide (i = 7)) := by
  rcases Nat.lt_or_ge i 32 with h | h
  · exact (by decide +kernel : ∀ i, i < 32 → bt 208 i = (decide (i = 4) || decide (i = 6) || decide (i = 7))) i h
  · rw [b_big h]
    simp only [decide_eq_false (show ¬ i = 4 by omega), decide_eq_false (show ¬ i = 6 by omega), decide_eq_false (show ¬ i = 7 by omega), Bool.or_false]
theorem l_193 (i : Nat) : bt 193 i = (decide (i = 0) || decide (i = 6) || decide (i = 7)) := by
  rcases Nat.lt_or_ge i 32 with h | h
  · exact (by decide +kernel : ∀ i, i < 32 → bt 193 i = (decide (i = 0) || decide (i = 6) || decide (i = 7))) i h
  · rw [b_big h]
    simp only [decide_eq_false (show ¬ i = 0 by omega), decide_eq_false (show ¬ i = 6 by omega), decide_eq_false (show ¬ i = 7 by omega), Bool.or_false]
theorem l_127 (i : Nat) : bt 127 i = (decide (i = 0) || decide (i = 1) || decide (i = 2) || decide (i = 3) || decide (i = 4) || decide (i = 5) || decide (i = 6)) := by
  rcases Nat.lt_or_ge i 32 with h | h
  · exact (by decide +kernel : ∀ i, i < 32 → bt 127 i = (decide (i = 0) || decide (i = 1) || decide (i = 2) || decide (i = 3) || decide (i = 4) || decide (i = 5) || decide (i = 6))) i h
  · rw [b_big h]
    simp only [decide_eq_false (show ¬ i = 0 by omega), decide_eq_false (show ¬ i = 1 by omega), decide_eq_false (show ¬ i = 2 by omega), decide_eq_false (show ¬ i = 3 by omega), decide_eq_false (show ¬ i = 4 by omega), decide_eq_false (show ¬ i = 5 by omega), decide_eq_false (show ¬ i = 6 by omega), Bool.or_false]
theorem l_68 (i : Nat) : bt 68 i = (decide (i = 2) || decide (i = 6)) := by
  rcases Nat.lt_or_ge i 32 with h | h
  · exact (by decide +kernel : ∀ i, i < 32 → bt 68 i = (decide (i = 2) || decide (i = 6))) i h
  · rw [b_big h]
    simp only [decide_eq_false (show ¬ i = 2 by omega), decide_eq_false (show ¬ i = 6 by omega), Bool.or_false]
theorem l_m2 : ∀ i, i < 32 → bt (-2) i = (!decide (i = 0)) := by decide +kernel
theorem l_m41 : ∀ i, i < 32 → bt (-41) i = (!decide (i = 3) && !decide (i = 5)) := by decide +kernel
theorem b_r1 (x : Int32) {i : Nat} (hi : i < 32) : bt (x >>> ((1 : Int32) &&& 31)) i = if 1 + i < 32 then bt x (1 + i) else bt x 31 := b_sshr 1 (by omega) x hi
theorem b_r2 (x : Int32) {i : Nat} (hi : i < 32) : bt (x >>> ((2 : Int32) &&& 31)) i = if 2 + i < 32 then bt x (2 + i) else bt x 31 := b_sshr 2 (by omega) x hi
theorem b_r3 (x : Int32) {i : Nat} (hi : i < 32) : bt (x >>> ((3 : Int32) &&& 31)) i = if 3 + i < 32 then bt x (3 + i) else bt x 31 := b_sshr 3 (by omega) x hi
theorem b_r4 (x : Int32) {i : Nat} (hi : i < 32) : bt (x >>> ((4 : Int32) &&& 31)) i = if 4 + i < 32 then bt x (4 + i) else bt x 31 := b_sshr 4 (by omega) x hi
theorem b_r5 (x : Int32) {i : Nat} (hi : i < 32) : bt (x >>> ((5 : Int32) &&& 31)) i = if 5 + i < 32 then bt x (5 + i) else bt x 31 := b_sshr 5 (by omega) x hi
theorem b_r6 (x : Int32) {i : Nat} (hi : i < 32) : bt (x >>> ((6 : Int32) &&& 31)) i = if 6 + i < 32 then bt x (6 + i) else bt x 31 := b_sshr 6 (by omega) x hi
theorem b_r7 (x : Int32) {i : Nat} (hi : i < 32) : bt (x >>> ((7 : Int32) &&& 31)) i = if 7 + i < 32 then bt x (7 + i) else bt x 31 := b_sshr 7 (by omega) x hi
theorem b_r13 (x : Int32) {i : Nat} (hi : i < 32) : bt (x >>> ((13 : Int32) &&& 31)) i = if 13 + i < 32 then bt x (13 + i) else bt x 31 := b_sshr 13 (by omega) x hi
theorem b_r16 (x : Int32) {i : Nat} (hi : i < 32) : bt (x >>> ((16 : Int32) &&& 31)) i = if 16 + i < 32 then bt x (16 + i) else bt x 31 := b_sshr 16 (by omega) x hi
theorem b_l1 (x : Int32) {i : Nat} (hi : i < 32) : bt (x <<< ((1 : Int32) &&& 31)) i = (decide (1 ≤ i) && bt x (i - 1)) := b_shl 1 (by omega) x hi
theorem b_l4 (x : Int32) {i : Nat} (hi : i < 32) : bt (x <<< ((4 : Int32) &&& 31)) i = (decide (4 ≤ i) && bt x (i - 4)) := b_shl 4 (by omega) x hi
theorem b_l7 (x : Int32) {i : Nat} (hi : i < 32) : bt (x <<< ((7 : Int32) &&& 31)) i = (decide (7 ≤ i) && bt x (i - 7)) := b_shl 7 (by omega) x hi
theorem oct_bt {x : Int32} (h : oct x) {i : Nat} (hi : 8 ≤ i) : bt x i = false := by
  rw [← h.and, b_and, b_255, decide_eq_false (by omega), Bool.and_false]
def sgV (x : Int32) : Int32 := (x &&& 168) ||| (if x = 0 then 64 else 0)
theorem sg_eq (x : Int32) (c : vmD) (Q : Int32 → vmD → Prop) : Machine_signsOf x c Q = Q (sgV x) c := by
  unfold Machine_signsOf sgV
  by_cases h : x = 0
  · simp only [if_pos h]
  · simp only [if_neg h]
theorem rsg_eq (x : Int32) (c : vmD) (Q : Int32 → vmD → Prop) : MO_signs x c Q = Q (sgV x) c := by
  unfold MO_signs sgV
  by_cases h : x = 0
  · simp only [if_pos h]
  · simp only [if_neg h]
def fS (a b x : Int32) : Int32 := ((sgV (x &&& 255) ||| (((a ^^^ b) ^^^ (x &&& 255)) &&& 16)) ||| ((((a ^^^ (b ^^^ (-1))) &&& (a ^^^ (x &&& 255))) &&& 128) >>> ((5 : Int32) &&& 31))) ||| (x >>> ((8 : Int32) &&& 31))
def fD (a b x : Int32) : Int32 := (((sgV (x &&& 255) ||| (((a ^^^ b) ^^^ (x &&& 255)) &&& 16)) ||| ((((a ^^^ b) &&& (a ^^^ (x &&& 255))) &&& 128) >>> ((5 : Int32) &&& 31))) ||| 2) ||| ((x >>> ((8 : Int32) &&& 31)) &&& 1)
theorem sgV_bt (x : Int32) : (sgV x = (x &&& 168) ||| 64) ∨ (sgV x = (x &&& 168) ||| 0) := by
  unfold sgV
  by_cases h : x = 0
  · rw [if_pos h]; exact Or.inl rfl
  · rw [if_neg h]; exact Or.inr rfl
set_option maxHeartbeats 4000000 in
theorem fS_id (a b x : Int32) (hx : x &&& 511 = x) : ((((sgV (x &&& 255) ||| (((a ^^^ b) ^^^ x) &&& 16)) ||| ((((a ^^^ x) &&& (b ^^^ x)) &&& 128) >>> ((5 : Int32) &&& 31))) ||| ((x >>> ((8 : Int32) &&& 31)) &&& 1)) &&& 255) = fS a b x := by
  have h511 : ∀ i, 9 ≤ i → bt x i = false := by
    intro i hi
    rw [← hx, b_and]
    rcases Nat.lt_or_ge i 32 with h | h
    · rw [(by decide +kernel : ∀ i, i < 32 → 9 ≤ i → bt 511 i = false) i h hi, Bool.and_false]
    · rw [b_big h, Bool.false_and]
  unfold fS
  apply b_ext
  intro i hi
  rcases sgV_bt (x &&& 255) with e | e <;> rw [e] <;> simp only [b_and, b_or, b_xor, b_255, b_0, l_168, l_64, l_16, l_128, l_1, b_r5 _ hi, b_sshr8 _ hi]
  all_goals rcases (show i = 0 ∨ i = 1 ∨ i = 2 ∨ i = 3 ∨ i = 4 ∨ i = 5 ∨ i = 6 ∨ i = 7 ∨ i = 8 ∨ i = 9 ∨ i = 10 ∨ i = 11 ∨ i = 12 ∨ i = 13 ∨ i = 14 ∨ i = 15 ∨ i = 16 ∨ i = 17 ∨ i = 18 ∨ i = 19 ∨ i = 20 ∨ i = 21 ∨ i = 22 ∨ i = 23 ∨ i = 24 ∨ i = 25 ∨ i = 26 ∨ i = 27 ∨ i = 28 ∨ i = 29 ∨ i = 30 ∨ i = 31 by omega) with rfl | rfl | rfl | rfl | rfl | rfl | rfl | rfl | rfl | rfl | rfl | rfl | rfl | rfl | rfl | rfl | rfl | rfl | rfl | rfl | rfl | rfl | rfl | rfl | rfl | rfl | rfl | rfl | rfl | rfl | rfl | rfl
  all_goals simp [b_m1, h511]
  all_goals (cases bt a 7 <;> cases bt b 7 <;> cases bt x 7 <;> rfl)
set_option maxHeartbeats 4000000 in
theorem fD_id (a b x : Int32) : (((((sgV (x &&& 255) ||| (((a ^^^ b) ^^^ x) &&& 16)) ||| ((((a ^^^ b) &&& (a ^^^ x)) &&& 128) >>> ((5 : Int32) &&& 31))) ||| 2) ||| ((x >>> ((8 : Int32) &&& 31)) &&& 1)) &&& 255) = fD a b x := by
  unfold fD
  apply b_ext
  intro i hi
  rcases sgV_bt (x &&& 255) with e | e <;> rw [e] <;> simp only [b_and, b_or, b_xor, b_255, b_0, l_168, l_64, l_16, l_128, l_1, l_2, b_r5 _ hi, b_sshr8 _ hi]
  all_goals rcases (show i = 0 ∨ i = 1 ∨ i = 2 ∨ i = 3 ∨ i = 4 ∨ i = 5 ∨ i = 6 ∨ i = 7 ∨ i = 8 ∨ i = 9 ∨ i = 10 ∨ i = 11 ∨ i = 12 ∨ i = 13 ∨ i = 14 ∨ i = 15 ∨ i = 16 ∨ i = 17 ∨ i = 18 ∨ i = 19 ∨ i = 20 ∨ i = 21 ∨ i = 22 ∨ i = 23 ∨ i = 24 ∨ i = 25 ∨ i = 26 ∨ i = 27 ∨ i = 28 ∨ i = 29 ∨ i = 30 ∨ i = 31 by omega) with rfl | rfl | rfl | rfl | rfl | rfl | rfl | rfl | rfl | rfl | rfl | rfl | rfl | rfl | rfl | rfl | rfl | rfl | rfl | rfl | rfl | rfl | rfl | rfl | rfl | rfl | rfl | rfl | rfl | rfl | rfl | rfl
  all_goals simp
