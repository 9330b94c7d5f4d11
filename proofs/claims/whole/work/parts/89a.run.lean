/-! run, out of step -/
def StepOk : Prop := ∀ c r, Rel c r → ∃ v c2 r2, (v = 0 ∨ v = 1 ∨ v = 2 ∨ v = 3) ∧ (∀ Q : Int32 → vmD → Prop, Q v c2 → Machine_advance c Q) ∧ (∀ Q : Int32 → vmD → Prop, Q v r2 → MO_step r Q) ∧ Rel c2 r2
theorem ok_step_of (H : StepOk) : Ok_step Rel := by
  intro c r hR
  obtain ⟨v, c2, r2, -, e1, e2, h2⟩ := H c r hR
  exact ⟨v, c2, r2, fun Q h => e1 _ h, e2, h2⟩
theorem run_of (H : StepOk) {n : Nat} (hn : n ≤ 20000) : ∀ (q k : Nat) (c r : vmD), k + q = n → Rel c r → ∃ v c2 r2, (∀ Q : Int32 → vmD → Prop, Q v c2 → ∃ m, OF_run_18 Q m (nI n) 1 (nI k) c) ∧ (∀ Q : Int32 → vmD → Prop, Q v r2 → ∃ m, MO_run_16 Q m (nI n) (nI k) r) ∧ Rel c2 r2 := by
  intro q
  induction q with
  | zero =>
    intro k c r hk hR
    obtain rfl : k = n := by omega
    refine ⟨nI k, c, r, fun Q h => ⟨1, ?_⟩, fun Q h => ⟨1, ?_⟩, hR⟩
    · unfold OF_run_18
      rw [if_neg (by decide), if_neg (nI_nlt (Nat.le_refl _) (by omega))]
      exact h
    · unfold MO_run_16
      rw [if_neg (nI_nlt (Nat.le_refl _) (by omega))]
      exact h
  | succ q ih =>
    intro k c r hk hR
    have hlt : nI k < nI n := nI_lt (by omega) (by omega)
    obtain ⟨v, c2, r2, hv, e1, e2, h2⟩ := H c r hR
    have stop : (v = 0 ∨ v = 3) → ∃ v c2 r2, (∀ Q : Int32 → vmD → Prop, Q v c2 → ∃ m, OF_run_18 Q m (nI n) 1 (nI k) c) ∧ (∀ Q : Int32 → vmD → Prop, Q v r2 → ∃ m, MO_run_16 Q m (nI n) (nI k) r) ∧ Rel c2 r2 := by
      intro h03
      refine ⟨nI (k + 1), c2, r2, fun Q h => ⟨2, ?_⟩, fun Q h => ⟨1, ?_⟩, h2⟩
      · unfold OF_run_18
        rw [if_neg (by decide), if_pos hlt]
        refine e1 _ ?_
        unfold OF_run_53
        have hs : OF_run_18 Q 1 (nI n) 0 (nI k + 1) c2 := by
          unfold OF_run_18
          rw [if_pos rfl, nI_1]
          exact h
        rcases h03 with rfl | rfl
        · rw [if_neg (by decide), if_neg (by decide)]
          exact bnd_i hs
        · rw [if_neg (by decide), if_neg (by decide)]
          exact bnd_i hs
      · unfold MO_run_16
        rw [if_pos hlt]
        refine e2 _ (bnd_i ?_)
        rw [nI_1]
        rcases h03 with rfl | rfl
        · rw [if_neg (by decide), if_pos rfl]
          exact h
        · rw [if_pos rfl]
          exact h
    have go : (v = 1 ∨ v = 2) → ∃ v c2 r2, (∀ Q : Int32 → vmD → Prop, Q v c2 → ∃ m, OF_run_18 Q m (nI n) 1 (nI k) c) ∧ (∀ Q : Int32 → vmD → Prop, Q v r2 → ∃ m, MO_run_16 Q m (nI n) (nI k) r) ∧ Rel c2 r2 := by
      intro h12
      obtain ⟨w, c3, r3, f1, f2, h3⟩ := ih (k + 1) c2 r2 (by omega) h2
      refine ⟨w, c3, r3, fun Q h => ?_, fun Q h => ?_, h3⟩
      · obtain ⟨m, hm⟩ := f1 Q h
        refine ⟨m + 1, ?_⟩
        unfold OF_run_18
        rw [if_neg (by decide), if_pos hlt]
        refine e1 _ ?_
        have hs : OF_run_48 (OF_run_18 Q m) (nI n) (nI k) c2 Q := by
          unfold OF_run_48 OF_run_53
          refine bnd_i ?_
          rw [nI_1]
          exact hm
        rcases h12 with rfl | rfl
        · rw [if_pos rfl]
          exact hs
        · rw [if_neg (by decide), if_pos rfl]
          exact hs
      · obtain ⟨m, hm⟩ := f2 Q h
        refine ⟨m + 1, ?_⟩
        unfold MO_run_16
        rw [if_pos hlt]
        refine e2 _ (bnd_i ?_)
        rw [nI_1]
        rcases h12 with rfl | rfl
        · rw [if_neg (by decide), if_neg (by decide)]
          exact hm
        · rw [if_neg (by decide), if_neg (by decide)]
          exact hm
    rcases hv with e | e | e | e
    · exact stop (Or.inl e)
    · exact go (Or.inl e)
    · exact go (Or.inr e)
    · exact stop (Or.inr e)
theorem ok_run_of (H : StepOk) : Ok_run Rel := by
  intro c r hR a0
  by_cases h0 : a0 < 0
  · exact ⟨-2, c, r, fun Q h => by simp only [OF_run, if_pos h0]; exact h, fun Q h => by simp only [MO_run, if_pos h0]; exact h, hR⟩
  by_cases h1 : (20000 : Int32) < a0
  · exact ⟨-2, c, r, fun Q h => by simp only [OF_run, if_neg h0, if_pos h1]; exact h, fun Q h => by simp only [MO_run, if_neg h0, if_pos h1]; exact h, hR⟩
  obtain ⟨n, hn, rfl⟩ := nat_of_le (n := 20000) rfl (by omega) h0 h1
  obtain ⟨v, c2, r2, f1, f2, h2⟩ := run_of H (n := n) (by omega) n 0 c r (by omega) hR
  refine ⟨v, c2, r2, fun Q h => ?_, fun Q h => ?_, h2⟩
  · simp only [OF_run, if_neg h0, if_neg h1]
    exact f1 Q h
  · simp only [MO_run, if_neg h0, if_neg h1]
    exact f2 Q h
