/-! Shapes of codes, all -/
theorem shC_all {c : Nat} (hc : c < 1792) : shC c = true := by
  obtain ⟨q, j, hj, rfl⟩ : ∃ q j, j < 64 ∧ c = j + 64 * q := ⟨c / 64, c % 64, Nat.mod_lt _ (by omega), by omega⟩
  have hq : q < 28 := by omega
  rcases (show q = 0 ∨ q = 1 ∨ q = 2 ∨ q = 3 ∨ q = 4 ∨ q = 5 ∨ q = 6 ∨ q = 7 ∨ q = 8 ∨ q = 9 ∨ q = 10 ∨ q = 11 ∨ q = 12 ∨ q = 13 ∨ q = 14 ∨ q = 15 ∨ q = 16 ∨ q = 17 ∨ q = 18 ∨ q = 19 ∨ q = 20 ∨ q = 21 ∨ q = 22 ∨ q = 23 ∨ q = 24 ∨ q = 25 ∨ q = 26 ∨ q = 27 by omega) with rfl | rfl | rfl | rfl | rfl | rfl | rfl | rfl | rfl | rfl | rfl | rfl | rfl | rfl | rfl | rfl | rfl | rfl | rfl | rfl | rfl | rfl | rfl | rfl | rfl | rfl | rfl | rfl
  · exact rg_all (P := fun c => shC (c + 0)) shC_0 hj
  · exact rg_all (P := fun c => shC (c + 64)) shC_1 hj
  · exact rg_all (P := fun c => shC (c + 128)) shC_2 hj
  · exact rg_all (P := fun c => shC (c + 192)) shC_3 hj
  · exact rg_all (P := fun c => shC (c + 256)) shC_4 hj
  · exact rg_all (P := fun c => shC (c + 320)) shC_5 hj
  · exact rg_all (P := fun c => shC (c + 384)) shC_6 hj
  · exact rg_all (P := fun c => shC (c + 448)) shC_7 hj
  · exact rg_all (P := fun c => shC (c + 512)) shC_8 hj
  · exact rg_all (P := fun c => shC (c + 576)) shC_9 hj
  · exact rg_all (P := fun c => shC (c + 640)) shC_10 hj
  · exact rg_all (P := fun c => shC (c + 704)) shC_11 hj
  · exact rg_all (P := fun c => shC (c + 768)) shC_12 hj
  · exact rg_all (P := fun c => shC (c + 832)) shC_13 hj
  · exact rg_all (P := fun c => shC (c + 896)) shC_14 hj
  · exact rg_all (P := fun c => shC (c + 960)) shC_15 hj
  · exact rg_all (P := fun c => shC (c + 1024)) shC_16 hj
  · exact rg_all (P := fun c => shC (c + 1088)) shC_17 hj
  · exact rg_all (P := fun c => shC (c + 1152)) shC_18 hj
  · exact rg_all (P := fun c => shC (c + 1216)) shC_19 hj
  · exact rg_all (P := fun c => shC (c + 1280)) shC_20 hj
  · exact rg_all (P := fun c => shC (c + 1344)) shC_21 hj
  · exact rg_all (P := fun c => shC (c + 1408)) shC_22 hj
  · exact rg_all (P := fun c => shC (c + 1472)) shC_23 hj
  · exact rg_all (P := fun c => shC (c + 1536)) shC_24 hj
  · exact rg_all (P := fun c => shC (c + 1600)) shC_25 hj
  · exact rg_all (P := fun c => shC (c + 1664)) shC_26 hj
  · exact rg_all (P := fun c => shC (c + 1728)) shC_27 hj
theorem shape_of {c : Nat} (hc : c < 1792) : (∀ w : vmW, vmRun 300 166 0 [(0, .int (nI (c / 256))), (1, .int (nI (c % 256)))] [] w = some (some (.int (tabS c)), w)) ∧ nI c >>> ((8 : Int32) &&& 31) = nI (c / 256) ∧ nI c &&& 255 = nI (c % 256) := by
  have h := shC_all hc
  unfold shC at h
  obtain ⟨h1, h2⟩ := Bool.and_eq_true_iff.mp h
  obtain ⟨h2, h3⟩ := Bool.and_eq_true_iff.mp h2
  refine ⟨fun w => ?_, of_decide_eq_true h2, of_decide_eq_true h3⟩
  cases e : pRun 300 166 0 [(0, .int (nI (c / 256))), (1, .int (nI (c % 256)))] [] with
  | none => rw [e] at h1; cases h1
  | some y =>
    rw [e] at h1
    cases y with
    | none => cases h1
    | some v =>
      cases v with
      | int x =>
        obtain rfl : x = tabS c := of_decide_eq_true h1
        exact pRun_ok w 300 e
      | _ => cases h1
