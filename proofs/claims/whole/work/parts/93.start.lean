/-! From the law's entry into our machine: what the Statement gives of the start -/
noncomputable def flN : List Jvm.Cond := flatC (Jvm.Cond.and given_1 narrow_1)
def qsO : Nat → String := fun i => bif Nat.blt i 3 then (bif Nat.blt i 1 then (bif Nat.beq i 0 then "OpcodeForge$Names" else "") else (bif Nat.blt i 2 then (bif Nat.beq i 1 then "OpcodeForge$Names" else "") else (bif Nat.beq i 2 then "OpcodeForge$Names" else ""))) else (bif Nat.blt i 5 then (bif Nat.blt i 4 then (bif Nat.beq i 3 then "OpcodeForge$Names" else "") else (bif Nat.beq i 4 then "OpcodeForge$Names" else "")) else (bif Nat.blt i 6 then (bif Nat.beq i 5 then "OpcodeForge$Names" else "") else (bif Nat.beq i 6 then "OpcodeForge$Tokens" else "")))
def qsK : Nat → Nat := fun i => bif Nat.blt i 3 then (bif Nat.blt i 1 then (bif Nat.beq i 0 then 35 else 0) else (bif Nat.blt i 2 then (bif Nat.beq i 1 then 41 else 0) else (bif Nat.beq i 2 then 43 else 0))) else (bif Nat.blt i 5 then (bif Nat.blt i 4 then (bif Nat.beq i 3 then 45 else 0) else (bif Nat.beq i 4 then 47 else 0)) else (bif Nat.blt i 6 then (bif Nat.beq i 5 then 49 else 0) else (bif Nat.beq i 6 then 71 else 0)))
def qsT (i : Nat) : Term := .string (qsO i) (qsK i)
def pEx : Nat → Nat := fun i => bif Nat.blt i 3 then (bif Nat.blt i 1 then (bif Nat.beq i 0 then 9 else 0) else (bif Nat.blt i 2 then (bif Nat.beq i 1 then 75 else 0) else (bif Nat.beq i 2 then 144 else 0))) else (bif Nat.blt i 5 then (bif Nat.blt i 4 then (bif Nat.beq i 3 then 221 else 0) else (bif Nat.beq i 4 then 290 else 0)) else (bif Nat.blt i 6 then (bif Nat.beq i 5 then 371 else 0) else (bif Nat.beq i 6 then 410 else 0)))
def pCo : Nat → Nat := fun i => bif Nat.blt i 3 then (bif Nat.blt i 1 then (bif Nat.beq i 0 then 10 else 0) else (bif Nat.blt i 2 then (bif Nat.beq i 1 then 76 else 0) else (bif Nat.beq i 2 then 145 else 0))) else (bif Nat.blt i 5 then (bif Nat.blt i 4 then (bif Nat.beq i 3 then 222 else 0) else (bif Nat.beq i 4 then 291 else 0)) else (bif Nat.blt i 6 then (bif Nat.beq i 5 then 372 else 0) else (bif Nat.beq i 6 then 411 else 0)))
def pAr : Nat → Nat := fun i => bif Nat.blt i 3 then (bif Nat.blt i 1 then (bif Nat.beq i 0 then 11 else 0) else (bif Nat.blt i 2 then (bif Nat.beq i 1 then 77 else 0) else (bif Nat.beq i 2 then 146 else 0))) else (bif Nat.blt i 5 then (bif Nat.blt i 4 then (bif Nat.beq i 3 then 223 else 0) else (bif Nat.beq i 4 then 292 else 0)) else (bif Nat.blt i 6 then (bif Nat.beq i 5 then 373 else 0) else (bif Nat.beq i 6 then 412 else 0)))
def pLe : Nat → Nat := fun i => bif Nat.blt i 3 then (bif Nat.blt i 1 then (bif Nat.beq i 0 then 12 else 0) else (bif Nat.blt i 2 then (bif Nat.beq i 1 then 78 else 0) else (bif Nat.beq i 2 then 147 else 0))) else (bif Nat.blt i 5 then (bif Nat.blt i 4 then (bif Nat.beq i 3 then 224 else 0) else (bif Nat.beq i 4 then 293 else 0)) else (bif Nat.blt i 6 then (bif Nat.beq i 5 then 374 else 0) else (bif Nat.beq i 6 then 413 else 0)))
def pEl : Nat → Nat := fun i => bif Nat.blt i 3 then (bif Nat.blt i 1 then (bif Nat.beq i 0 then 13 else 0) else (bif Nat.blt i 2 then (bif Nat.beq i 1 then 79 else 0) else (bif Nat.beq i 2 then 148 else 0))) else (bif Nat.blt i 5 then (bif Nat.blt i 4 then (bif Nat.beq i 3 then 225 else 0) else (bif Nat.beq i 4 then 294 else 0)) else (bif Nat.blt i 6 then (bif Nat.beq i 5 then 375 else 0) else (bif Nat.beq i 6 then 414 else 0)))
def pE0 : List Nat := [13, 14, 15, 16, 17, 18, 19, 20, 21, 22, 23, 24, 25, 26, 27, 28, 29, 30, 31, 32, 33, 34, 35, 36, 37, 38, 39, 40, 41, 42, 43, 44, 45, 46, 47, 48, 49, 50, 51, 52, 53, 54, 55, 56, 57, 58, 59, 60, 61, 62, 63, 64, 65, 66, 67, 68, 69, 70, 71, 72, 73, 74]
def pE1 : List Nat := [79, 80, 81, 82, 83, 84, 85, 86, 87, 88, 89, 90, 91, 92, 93, 94, 95, 96, 97, 98, 99, 100, 101, 102, 103, 104, 105, 106, 107, 108, 109, 110, 111, 112, 113, 114, 115, 116, 117, 118, 119, 120, 121, 122, 123, 124, 125, 126, 127, 128, 129, 130, 131, 132, 133, 134, 135, 136, 137, 138, 139, 140, 141, 142]
def pE2 : List Nat := [148, 149, 150, 151, 152, 153, 154, 155, 156, 157, 158, 159, 160, 161, 162, 163, 164, 165, 166, 167, 168, 169, 170, 171, 172, 173, 174, 175, 176, 177, 178, 179, 180, 181, 182, 183, 184, 185, 186, 187, 188, 189, 190, 191, 192, 193, 194, 195, 196, 197, 198, 199, 200, 201, 202, 203, 204, 205, 206, 207, 208, 209, 210, 211, 212, 213, 214, 215, 216, 217, 218]
def pE3 : List Nat := [225, 226, 227, 228, 229, 230, 231, 232, 233, 234, 235, 236, 237, 238, 239, 240, 241, 242, 243, 244, 245, 246, 247, 248, 249, 250, 251, 252, 253, 254, 255, 256, 257, 258, 259, 260, 261, 262, 263, 264, 265, 266, 267, 268, 269, 270, 271, 272, 273, 274, 275, 276, 277, 278, 279, 280, 281, 282, 283, 284, 285, 286]
def pE4 : List Nat := [294, 295, 296, 297, 298, 299, 300, 301, 302, 303, 304, 305, 306, 307, 308, 309, 310, 311, 312, 313, 314, 315, 316, 317, 318, 319, 320, 321, 322, 323, 324, 325, 326, 327, 328, 329, 330, 331, 332, 333, 334, 335, 336, 337, 338, 339, 340, 341, 342, 343, 344, 345, 346, 347, 348, 349, 350, 351, 352, 353, 354, 355, 356, 357, 358, 359, 360, 361, 362, 363, 364, 365, 366]
def pE5 : List Nat := [375, 376, 377, 378, 379, 380, 381, 382, 383, 384, 385, 386, 387, 388, 389, 390, 391, 392, 393, 394, 395, 396, 397, 398, 399, 400, 401, 402, 403, 404]
def pE6 : List Nat := [414, 415, 416, 417, 418, 419, 420, 421, 422, 423, 424, 425, 426]
def pE : Nat → List Nat := fun i => bif Nat.blt i 3 then (bif Nat.blt i 1 then (bif Nat.beq i 0 then pE0 else []) else (bif Nat.blt i 2 then (bif Nat.beq i 1 then pE1 else []) else (bif Nat.beq i 2 then pE2 else []))) else (bif Nat.blt i 5 then (bif Nat.blt i 4 then (bif Nat.beq i 3 then pE3 else []) else (bif Nat.beq i 4 then pE4 else [])) else (bif Nat.blt i 6 then (bif Nat.beq i 5 then pE5 else []) else (bif Nat.beq i 6 then pE6 else [])))
def pNe : Nat → Nat → Nat := fun i j => bif Nat.blt i 3 then (bif Nat.blt i 1 then (bif Nat.beq i 0 then (bif Nat.blt j 4 then (bif Nat.blt j 2 then (bif Nat.beq j 1 then 143 else 9999) else (bif Nat.blt j 3 then (bif Nat.beq j 2 then 219 else 9999) else (bif Nat.beq j 3 then 287 else 9999))) else (bif Nat.blt j 5 then (bif Nat.beq j 4 then 367 else 9999) else (bif Nat.blt j 6 then (bif Nat.beq j 5 then 405 else 9999) else (bif Nat.beq j 6 then 427 else 9999)))) else 9999) else (bif Nat.blt i 2 then (bif Nat.beq i 1 then (bif Nat.blt j 4 then (bif Nat.blt j 3 then (bif Nat.beq j 2 then 220 else 9999) else (bif Nat.beq j 3 then 288 else 9999)) else (bif Nat.blt j 5 then (bif Nat.beq j 4 then 368 else 9999) else (bif Nat.blt j 6 then (bif Nat.beq j 5 then 406 else 9999) else (bif Nat.beq j 6 then 428 else 9999)))) else 9999) else (bif Nat.beq i 2 then (bif Nat.blt j 5 then (bif Nat.blt j 4 then (bif Nat.beq j 3 then 289 else 9999) else (bif Nat.beq j 4 then 369 else 9999)) else (bif Nat.blt j 6 then (bif Nat.beq j 5 then 407 else 9999) else (bif Nat.beq j 6 then 429 else 9999))) else 9999))) else (bif Nat.blt i 5 then (bif Nat.blt i 4 then (bif Nat.beq i 3 then (bif Nat.blt j 5 then (bif Nat.beq j 4 then 370 else 9999) else (bif Nat.blt j 6 then (bif Nat.beq j 5 then 408 else 9999) else (bif Nat.beq j 6 then 430 else 9999))) else 9999) else (bif Nat.beq i 4 then (bif Nat.blt j 6 then (bif Nat.beq j 5 then 409 else 9999) else (bif Nat.beq j 6 then 431 else 9999)) else 9999)) else (bif Nat.blt i 6 then (bif Nat.beq i 5 then (bif Nat.beq j 6 then 432 else 9999) else 9999) else (bif Nat.beq i 6 then (9999) else 9999)))
set_option maxRecDepth 1000000 in
theorem fl_ex : (List.range 7).all (fun i => decide (flN[pEx i]? = some (.exactly (qsT i) "java/lang/String"))) = true := by decide +kernel
set_option maxRecDepth 1000000 in
theorem fl_co : (List.range 7).all (fun i => decide (flN[pCo i]? = some (.eq (.field (qsT i) "java/lang/String" "coder" "B") (.int 0)))) = true := by decide +kernel
set_option maxRecDepth 1000000 in
theorem fl_ar : (List.range 7).all (fun i => decide (flN[pAr i]? = some (.arrayOf (.field (qsT i) "java/lang/String" "value" "[B") .byte))) = true := by decide +kernel
set_option maxRecDepth 1000000 in
theorem fl_le : (List.range 7).all (fun i => decide (flN[pLe i]? = some (.eq (.length (.field (qsT i) "java/lang/String" "value" "[B")) (.int (Int32.ofNat (strLen.getD i 0)))))) = true := by decide +kernel
set_option maxRecDepth 1000000 in
theorem fl_el0 : (List.range (strLen.getD 0 0)).all (fun j => decide (flN[(pE 0).getD j 0]? = some (.eq (.elem (.field (qsT 0) "java/lang/String" "value" "[B") (.int (Int32.ofNat j))) (.int ((strByt.getD 0 []).getD j 0))))) = true := by decide +kernel
set_option maxRecDepth 1000000 in
theorem fl_el1 : (List.range (strLen.getD 1 0)).all (fun j => decide (flN[(pE 1).getD j 0]? = some (.eq (.elem (.field (qsT 1) "java/lang/String" "value" "[B") (.int (Int32.ofNat j))) (.int ((strByt.getD 1 []).getD j 0))))) = true := by decide +kernel
set_option maxRecDepth 1000000 in
theorem fl_el2 : (List.range (strLen.getD 2 0)).all (fun j => decide (flN[(pE 2).getD j 0]? = some (.eq (.elem (.field (qsT 2) "java/lang/String" "value" "[B") (.int (Int32.ofNat j))) (.int ((strByt.getD 2 []).getD j 0))))) = true := by decide +kernel
set_option maxRecDepth 1000000 in
theorem fl_el3 : (List.range (strLen.getD 3 0)).all (fun j => decide (flN[(pE 3).getD j 0]? = some (.eq (.elem (.field (qsT 3) "java/lang/String" "value" "[B") (.int (Int32.ofNat j))) (.int ((strByt.getD 3 []).getD j 0))))) = true := by decide +kernel
set_option maxRecDepth 1000000 in
theorem fl_el4 : (List.range (strLen.getD 4 0)).all (fun j => decide (flN[(pE 4).getD j 0]? = some (.eq (.elem (.field (qsT 4) "java/lang/String" "value" "[B") (.int (Int32.ofNat j))) (.int ((strByt.getD 4 []).getD j 0))))) = true := by decide +kernel
set_option maxRecDepth 1000000 in
theorem fl_el5 : (List.range (strLen.getD 5 0)).all (fun j => decide (flN[(pE 5).getD j 0]? = some (.eq (.elem (.field (qsT 5) "java/lang/String" "value" "[B") (.int (Int32.ofNat j))) (.int ((strByt.getD 5 []).getD j 0))))) = true := by decide +kernel
set_option maxRecDepth 1000000 in
theorem fl_el6 : (List.range (strLen.getD 6 0)).all (fun j => decide (flN[(pE 6).getD j 0]? = some (.eq (.elem (.field (qsT 6) "java/lang/String" "value" "[B") (.int (Int32.ofNat j))) (.int ((strByt.getD 6 []).getD j 0))))) = true := by decide +kernel
set_option maxRecDepth 1000000 in
theorem fl_ne : (List.range 7).all (fun i => (List.range 7).all (fun j => Nat.beq i j || (decide (flN[pNe i j]? = some (.not (.eq (qsT i) (qsT j)))) || decide (flN[pNe j i]? = some (.not (.eq (qsT j) (qsT i))))))) = true := by decide +kernel
set_option maxRecDepth 1000000 in
theorem fl_cs : flN[4]? = some (.eq (.static "java/lang/String" "COMPACT_STRINGS" "Z") (.int 1)) := by decide +kernel
set_option maxRecDepth 1000000 in
theorem fl_si : flN[5]? = some (.isRef (.static "jdk/internal/util/Preconditions" "SIOOBE_FORMATTER" "Ljava/util/function/BiFunction;")) := by decide +kernel
set_option maxRecDepth 1000000 in
theorem lt_cs : lw_tbl[287]? = some (.laysStatic "java/lang/String" "COMPACT_STRINGS" "Z") := by decide +kernel
set_option maxRecDepth 1000000 in
theorem lt_si : lw_tbl[303]? = some (.laysStatic "jdk/internal/util/Preconditions" "SIOOBE_FORMATTER" "Ljava/util/function/BiFunction;") := by decide +kernel
set_option maxRecDepth 1000000 in
theorem lt_i1 : lw_tbl[228]? = some (.initialized "java/lang/String") := by decide +kernel
set_option maxRecDepth 1000000 in
theorem lt_i2 : lw_tbl[230]? = some (.initialized "jdk/internal/util/Preconditions") := by decide +kernel
set_option maxRecDepth 1000000 in
theorem lt_st : (List.range 17).all (fun c => (List.range 72).all (fun j => match rS c j with | none => true | some (v, h) => Nat.blt v 7 && (decide (lw_tbl[h]? = some (.stringRef (cN c) j (sN v))) && decide (qsT v = .string (cN c) j)))) = true := by decide +kernel
set_option maxRecDepth 1000000 in
theorem lt_mk0 : lw_tbl[518]? = some (.instantiable (cN 0) (cF 0)) := by decide +kernel
set_option maxRecDepth 1000000 in
theorem lt_mk1 : lw_tbl[559]? = some (.instantiable (cN 1) (cF 1)) := by decide +kernel
set_option maxRecDepth 1000000 in
theorem lt_mk2 : lw_tbl[502]? = some (.instantiable (cN 2) (cF 2)) := by decide +kernel
set_option maxRecDepth 1000000 in
theorem lt_mk3 : lw_tbl[496]? = some (.instantiable (cN 3) (cF 3)) := by decide +kernel
set_option maxRecDepth 1000000 in
theorem lt_mk4 : lw_tbl[456]? = some (.instantiable (cN 4) (cF 4)) := by decide +kernel
set_option maxRecDepth 1000000 in
theorem lt_mk5 : lw_tbl[692]? = some (.instantiable (cN 5) (cF 5)) := by decide +kernel
set_option maxRecDepth 1000000 in
theorem lt_mk6 : lw_tbl[256]? = some (.instantiable (cN 6) (cF 6)) := by decide +kernel
set_option maxRecDepth 1000000 in
theorem lt_mk7 : lw_tbl[268]? = some (.instantiable (cN 7) (cF 7)) := by decide +kernel
set_option maxRecDepth 1000000 in
theorem lt_mk8 : lw_tbl[606]? = some (.instantiable (cN 8) (cF 8)) := by decide +kernel
set_option maxRecDepth 1000000 in
theorem lt_mk9 : lw_tbl[380]? = some (.instantiable (cN 9) (cF 9)) := by decide +kernel
set_option maxRecDepth 1000000 in
theorem lt_mk10 : lw_tbl[366]? = some (.instantiable (cN 10) (cF 10)) := by decide +kernel
set_option maxRecDepth 1000000 in
theorem lt_mk11 : lw_tbl[531]? = some (.instantiable (cN 11) (cF 11)) := by decide +kernel
set_option maxRecDepth 1000000 in
theorem lt_mk12 : lw_tbl[248]? = some (.instantiable (cN 12) (cF 12)) := by decide +kernel
set_option maxRecDepth 1000000 in
theorem lt_mk13 : lw_tbl[1701]? = some (.instantiable (cN 13) (cF 13)) := by decide +kernel
theorem lt_mk (c : Nat) (hc : c < 14) : Cond.instantiable (cN c) (cF c) ∈ lw_tbl := by
  rcases (show c = 0 ∨ c = 1 ∨ c = 2 ∨ c = 3 ∨ c = 4 ∨ c = 5 ∨ c = 6 ∨ c = 7 ∨ c = 8 ∨ c = 9 ∨ c = 10 ∨ c = 11 ∨ c = 12 ∨ c = 13 by omega) with rfl | rfl | rfl | rfl | rfl | rfl | rfl | rfl | rfl | rfl | rfl | rfl | rfl | rfl
  · exact List.mem_of_getElem? lt_mk0
  · exact List.mem_of_getElem? lt_mk1
  · exact List.mem_of_getElem? lt_mk2
  · exact List.mem_of_getElem? lt_mk3
  · exact List.mem_of_getElem? lt_mk4
  · exact List.mem_of_getElem? lt_mk5
  · exact List.mem_of_getElem? lt_mk6
  · exact List.mem_of_getElem? lt_mk7
  · exact List.mem_of_getElem? lt_mk8
  · exact List.mem_of_getElem? lt_mk9
  · exact List.mem_of_getElem? lt_mk10
  · exact List.mem_of_getElem? lt_mk11
  · exact List.mem_of_getElem? lt_mk12
  · exact List.mem_of_getElem? lt_mk13
theorem fl_all {P : Nat → Bool} {n i : Nat} (h : (List.range n).all P = true) (hi : i < n) : P i = true := List.all_eq_true.mp h i (List.mem_range.mpr hi)
theorem fl_el (i : Nat) (hi : i < 7) (j : Nat) (hj : j < strLen.getD i 0) : Cond.eq (.elem (.field (qsT i) "java/lang/String" "value" "[B") (.int (Int32.ofNat j))) (.int ((strByt.getD i []).getD j 0)) ∈ flN := by
  rcases (show i = 0 ∨ i = 1 ∨ i = 2 ∨ i = 3 ∨ i = 4 ∨ i = 5 ∨ i = 6 by omega) with rfl | rfl | rfl | rfl | rfl | rfl | rfl
  · exact List.mem_of_getElem? (of_decide_eq_true (fl_all fl_el0 hj))
  · exact List.mem_of_getElem? (of_decide_eq_true (fl_all fl_el1 hj))
  · exact List.mem_of_getElem? (of_decide_eq_true (fl_all fl_el2 hj))
  · exact List.mem_of_getElem? (of_decide_eq_true (fl_all fl_el3 hj))
  · exact List.mem_of_getElem? (of_decide_eq_true (fl_all fl_el4 hj))
  · exact List.mem_of_getElem? (of_decide_eq_true (fl_all fl_el5 hj))
  · exact List.mem_of_getElem? (of_decide_eq_true (fl_all fl_el6 hj))
theorem st_start {args : Array Value} {s : State} (hts : ∀ w ∈ lw_tbl, w.before args s = true) (hgv : (Jvm.Cond.and given_1 narrow_1).before args s = true) {A : Nat → Prop} (hA : ∀ a : Nat, a < s.heap.size → ¬ A a) (b : Nat) : ∃ rx : Nat → Nat, rx 1000 = b ∧ StrX rx A s := by
  have hs : ∀ w ∈ flN, w.before args s = true := flat_of_before _ hgv
  have at_ : ∀ {i : Nat} {w : Jvm.Cond}, flN[i]? = some w → w.before args s = true := fun h => hs _ (List.mem_of_getElem? h)
  have lt_ : ∀ {i : Nat} {w : Jvm.Cond}, lw_tbl[i]? = some w → w.before args s = true := fun h => hts _ (List.mem_of_getElem? h)
  obtain ⟨adK, adV, hV, hE⟩ := vk_Sof (args := args) (s := s) (N := 7) (tm := qsT) (len := strLen) (byt := strByt) (A := A)
    (fun i hi => by rw [(sB_lens hi).1]; have := (sB_lens hi).2.2; omega)
    (fun i hi => at_ (of_decide_eq_true (fl_all fl_ex hi))) (fun i hi => at_ (of_decide_eq_true (fl_all fl_co hi))) (fun i hi => at_ (of_decide_eq_true (fl_all fl_ar hi))) (fun i hi => at_ (of_decide_eq_true (fl_all fl_le hi)))
    (fun i hi j hj => hs _ (fl_el i hi j hj))
    (fun i j hi hj hij => by
      rcases Bool.or_eq_true_iff.mp (fl_all (fl_all fl_ne hi) hj) with h | h
      · exact absurd (Nat.eq_of_beq_eq_true h) hij
      · rcases Bool.or_eq_true_iff.mp h with h | h
        · exact Or.inl (at_ (of_decide_eq_true h))
        · exact Or.inr (at_ (of_decide_eq_true h)))
    hA
  refine ⟨fun i => if i = 1000 then b else adK (i - vmBase), rfl, ⟨adV, ?_⟩, ?_, va_Zof (lt_ lt_cs) (lt_ lt_i1) (va_eqt (at_ fl_cs)) hA, va_Zqof (lt_ lt_si) (lt_ lt_i2) (at_ fl_si) hA⟩
  · have e : (fun i => (fun i => if i = 1000 then b else adK (i - vmBase)) (vmBase + i)) = adK := by
      funext i
      show (if vmBase + i = 1000 then b else adK (vmBase + i - vmBase)) = adK i
      rw [if_neg (by unfold vmBase; omega), Nat.add_sub_cancel_left]
    rw [e]
    exact hV
  · intro c j v h hr
    have hcj : c < 17 ∧ j < 72 := by
      unfold rS at hr
      cases hb : (Nat.blt c 17 && Nat.blt j 72) with
      | false => rw [hb] at hr; cases hr
      | true =>
        obtain ⟨h1, h2⟩ := Bool.and_eq_true_iff.mp hb
        exact ⟨Nat.le_of_ble_eq_true h1, Nat.le_of_ble_eq_true h2⟩
    have hck := fl_all (fl_all lt_st hcj.1) hcj.2
    rw [hr] at hck
    obtain ⟨h1, h2⟩ := Bool.and_eq_true_iff.mp hck
    obtain ⟨h2, h3⟩ := Bool.and_eq_true_iff.mp h2
    refine vk_R.of (A := args) (lt_ (of_decide_eq_true h2)) ?_
    rw [← of_decide_eq_true h3]
    show _ = some (Value.ref (if vmBase + v = 1000 then b else adK (vmBase + v - vmBase)))
    rw [if_neg (by unfold vmBase; omega), Nat.add_sub_cancel_left]
    exact hE v (Nat.le_of_ble_eq_true h1)
/-- the classes and the array classes, as the tables have them -/
theorem st_classes (T : DataOk) {args : Array Value} {s : State} (hts : ∀ w ∈ lw_tbl, w.before args s = true) : ∃ (D : va_G) (kA : Nat → ClassId), va_K D vwCl (tysA kA) s := by
  have hK : ∀ c : Nat, ∃ q : ClassId × (Nat → Nat), c < 14 → u_Kn s (cN c) (cT c) (cF c) q.1 q.2 := by
    intro c
    by_cases hc : c < 14
    · obtain ⟨cC, iS, h⟩ := u_known (C := cN c) (T := cT c) (N := cF c) (fun w hw => hts w (TB_tbl hw)) (uws_in T hc) (hts _ (lt_mk c hc))
      exact ⟨(cC, iS), fun _ => h⟩
    · exact ⟨(0, fun _ => 0), fun h => absurd h hc⟩
  obtain ⟨q, hq⟩ := Classical.axiomOfChoice hK
  have hAr : ∀ ty kd ft, vmAt ty = some (kd, ft) → ∃ cA : ClassId, ArrOfT s cA (newarray.typeOf ty) ∧ s.vm.findClass ("[" ++ (newarray.typeOf ty).toString) = some cA := by
    intro ty kd ft h
    obtain ⟨cA, kA, comp, h1, h2, h3⟩ := Cond.arrayClass_spec (hts _ (TB_tbl (T.2.2.2.2.2 ty kd ft h)))
    exact ⟨cA, fun n z => ⟨fun k h => (by cases h), kA, h2, comp, h3⟩, h1⟩
  obtain ⟨cI, i1, i2⟩ := hAr .int 20 .int rfl
  obtain ⟨cB, b1, b2⟩ := hAr .byte 21 .byte rfl
  obtain ⟨cZ, z1, z2⟩ := hAr .boolean 22 .boolean rfl
  obtain ⟨cJ, j1, j2⟩ := hAr .long 23 .long rfl
  refine ⟨(fun c => (q c).1, fun c => (q c).2), fun k => if k = 20 then cI else if k = 21 then cB else if k = 22 then cZ else cJ, ?_, ?_⟩
  · intro c r hr
    have hc : c < 14 := by
      have := (List.getElem?_eq_some_iff.mp hr).1
      exact this
    rw [T.2.2.1 c hc] at hr
    cases hr
    exact hq c hc
  · intro k r hr
    match k, hr with
    | 0, hr => cases hr; exact ⟨i1, i2⟩
    | 1, hr => cases hr; exact ⟨b1, b2⟩
    | 2, hr => cases hr; exact ⟨z1, z2⟩
    | 3, hr => cases hr; exact ⟨j1, j2⟩
    | n + 4, hr => cases hr
