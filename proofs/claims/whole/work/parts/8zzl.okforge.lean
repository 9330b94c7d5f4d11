/-! forge is the same on both sides -/
theorem ok_forge : Ok_forge Rel := by
  intro c r h
  obtain ⟨a1, a2, a3, a4, a5, a6, a7, a8, a9⟩ := h
  obtain ⟨n, hn, l1, l2, h3⟩ := a3
  obtain ⟨B, hB⟩ : ∃ B : Nat → Nat, ∀ i, B i < 256 ∧ gA c 10 i &&& 255 = nI (B i) := ⟨fun i => (oct_and (gA c 10 i)).choose, fun i => (oct_and (gA c 10 i)).choose_spec⟩
  have eB : ∀ i, gA c 10 i &&& 255 = nI (B i) := fun i => (hB i).2
  have hO : SrcOk B n := ⟨hn, fun i => (hB i).1⟩
  have hSr : SrcR B n r := ⟨l2, fun i hi => by rw [h3 i hi, eB]⟩
  obtain ⟨D, hD⟩ : ∃ D : Nat → Int32, D = fun a => gA c 2 a &&& 255 := ⟨_, rfl⟩
  obtain ⟨v, c', E1, M1, F1, G1⟩ := forgeC (D := D) hO ⟨l1, fun i _ => eB i⟩ a1 (fun a _ => by rw [hD])
  obtain ⟨w, r', E2, M2, F2, G2⟩ := forgeR (D := D) hO hSr (fun a ha => by rw [hD, a2 a ha])
  have key : w = v ∧ RMem (gA c' 2) (gA r' 55) ∧ RLab (gF c' 3 5) (gF r' 42 51) (gA c' 6) (gA r' 61) (gL c' 5) (gA r' 60) (gA r' 59) ∧ RTold (gF c' 21) (gF c' 20) (gF r' 42) := by
    cases e : fgF B n D with
    | some q =>
      obtain ⟨x1, x2, x3, x4, x5, x6, x7, x8, x9, x10⟩ := F1 q e
      obtain ⟨y1, y2, y3, y4⟩ := F2 q e
      refine ⟨y1.trans x1.symm, ?_, ?_, x2.trans y2.symm, x3.trans y3.symm, ?_, ?_, ?_⟩
      · rw [x4, y4.2.2.1 55 (by decide)]
        exact a2
      · rw [x8, x9, x10, y4.2.1 51 (by decide), y4.2.2.1 61 (by decide), y4.2.2.1 60 (by decide), y4.2.2.1 59 (by decide)]
        exact a4
      · rw [x5, y4.2.1 48 (by decide)]
        exact a6.2.2.1
      · rw [x6, y4.2.1 49 (by decide)]
        exact a6.2.2.2.1
      · rw [x7, y4.2.1 50 (by decide)]
        exact a6.2.2.2.2
    | none =>
      obtain ⟨x1, x2, x3, x4, x5, x6, x7, x8, x9, x10⟩ := G1 e
      obtain ⟨y1, y2, y3, y4, y5, y6, y7, y8, y9⟩ := G2 e
      refine ⟨y1.trans x1.symm, fun a ha => (y4 a ha).trans (x4 a ha), ⟨_, x9, x8, y8, fun i hi => ?_⟩, x2.trans y2.symm, x3.trans y3.symm, x5.trans y5.symm, x6.trans y6.symm, x7.trans y7.symm⟩
      obtain ⟨p1, p2⟩ := x10 i hi
      obtain ⟨q1, q2⟩ := y9 i hi
      rw [p1]
      exact ⟨q2.trans p2.symm, q1⟩
  obtain ⟨k1, k2, k3, k4⟩ := key
  subst k1
  refine ⟨w, c', r', E1, E2, ?_, k2, ?_, k3, ?_, k4, ?_, ?_, ?_⟩
  · rw [M1.2.2.1 4 (by decide), M1.2.1 16 (by decide), M1.2.1 17 (by decide), M1.2.1 18 (by decide)]
    exact a1
  · rw [M1.1 9 1 (by decide), M2.2.1 1 (by decide), M1.2.1 10 (by decide), M2.2.2.1 43 (by decide)]
    exact ⟨n, hn, l1, l2, h3⟩
  · rw [M1.1 13 1 (by decide), M2.2.1 68 (by decide), M1.2.1 14 (by decide), M2.2.2.1 63 (by decide)]
    exact a5
  · unfold RReg at a7 ⊢
    rw [M1.2.1 39 (by decide), M2.2.2.1 65 (by decide), M2.2.2.1 66 (by decide), M2.2.2.1 67 (by decide), M2.2.1 75 (by decide), M2.2.1 76 (by decide), M2.2.1 72 (by decide), M2.2.1 73 (by decide), M2.2.1 77 (by decide), M2.2.1 78 (by decide), M2.2.1 79 (by decide)]
    exact a7
  · rw [M1.2.1 40 (by decide), M1.2.1 41 (by decide), M2.2.2.1 68 (by decide), M2.2.2.1 69 (by decide), M2.2.2.2.2.2 86 (by decide), show gG c' 38 5 = gG c 38 5 from by rw [M1.2.2.2]]
    exact a8
  · unfold RReq at a9 ⊢
    rw [M1.1 38 6 (by decide), M1.1 38 7 (by decide), M1.1 38 8 (by decide), M1.1 38 9 (by decide), M2.2.1 83 (by decide), M2.2.1 82 (by decide), M2.2.1 85 (by decide), M2.2.1 84 (by decide)]
    exact a9
