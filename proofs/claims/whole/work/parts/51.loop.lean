/-! The law's loop, given a relation of the two parts that every call keeps, with equal answers -/
def Ok_feed (Rel : vmD → vmD → Prop) : Prop := ∀ c r, Rel c r → ∀ (a0 : Int64) (a1 : Int32), ∃ v c2 r2, (∀ Q : Int32 → vmD → Prop, Q v c2 → OF_feed a0 a1 c Q) ∧ (∀ Q : Int32 → vmD → Prop, Q v r2 → MO_feed a0 a1 r Q) ∧ Rel c2 r2
def Ok_forge (Rel : vmD → vmD → Prop) : Prop := ∀ c r, Rel c r → ∃ v c2 r2, (∀ Q : Int32 → vmD → Prop, Q v c2 → OF_forge c Q) ∧ (∀ Q : Int32 → vmD → Prop, Q v r2 → MO_forge r Q) ∧ Rel c2 r2
def Ok_told (Rel : vmD → vmD → Prop) : Prop := ∀ c r, Rel c r → ∀ (a0 : Int32), ∃ v c2 r2, (∀ Q : Int32 → vmD → Prop, Q v c2 → OF_told a0 c Q) ∧ (∀ Q : Int32 → vmD → Prop, Q v r2 → MO_told a0 r Q) ∧ Rel c2 r2
def Ok_label (Rel : vmD → vmD → Prop) : Prop := ∀ c r, Rel c r → ∀ (a0 : Int32), ∃ v c2 r2, (∀ Q : Int32 → vmD → Prop, Q v c2 → OF_label a0 c Q) ∧ (∀ Q : Int32 → vmD → Prop, Q v r2 → MO_label a0 r Q) ∧ Rel c2 r2
def Ok_labelSign (Rel : vmD → vmD → Prop) : Prop := ∀ c r, Rel c r → ∀ (a0 : Int32) (a1 : Int32), ∃ v c2 r2, (∀ Q : Int32 → vmD → Prop, Q v c2 → OF_labelSign a0 a1 c Q) ∧ (∀ Q : Int32 → vmD → Prop, Q v r2 → MO_labelSign a0 a1 r Q) ∧ Rel c2 r2
def Ok_write (Rel : vmD → vmD → Prop) : Prop := ∀ c r, Rel c r → ∀ (a0 : Int32), ∃ v c2 r2, (∀ Q : Int32 → vmD → Prop, Q v c2 → OF_write a0 c Q) ∧ (∀ Q : Int32 → vmD → Prop, Q v r2 → MO_write a0 r Q) ∧ Rel c2 r2
def Ok_sign (Rel : vmD → vmD → Prop) : Prop := ∀ c r, Rel c r → ∀ (a0 : Int32), ∃ v c2 r2, (∀ Q : Int32 → vmD → Prop, Q v c2 → OF_sign a0 c Q) ∧ (∀ Q : Int32 → vmD → Prop, Q v r2 → MO_sign a0 r Q) ∧ Rel c2 r2
def Ok_source (Rel : vmD → vmD → Prop) : Prop := ∀ c r, Rel c r → ∀ (a0 : Int32) (a1 : Int32), ∃ v c2 r2, (∀ Q : Int32 → vmD → Prop, Q v c2 → OF_source a0 a1 c Q) ∧ (∀ Q : Int32 → vmD → Prop, Q v r2 → MO_source a0 a1 r Q) ∧ Rel c2 r2
def Ok_sourceAt (Rel : vmD → vmD → Prop) : Prop := ∀ c r, Rel c r → ∀ (a0 : Int32), ∃ v c2 r2, (∀ Q : Int32 → vmD → Prop, Q v c2 → OF_sourceAt a0 c Q) ∧ (∀ Q : Int32 → vmD → Prop, Q v r2 → MO_sourceAt a0 r Q) ∧ Rel c2 r2
def Ok_octet (Rel : vmD → vmD → Prop) : Prop := ∀ c r, Rel c r → ∀ (a0 : Int32), ∃ v c2 r2, (∀ Q : Int32 → vmD → Prop, Q v c2 → OF_octet a0 c Q) ∧ (∀ Q : Int32 → vmD → Prop, Q v r2 → MO_octet a0 r Q) ∧ Rel c2 r2
def Ok_put (Rel : vmD → vmD → Prop) : Prop := ∀ c r, Rel c r → ∀ (a0 : Int32) (a1 : Int32), ∃ v c2 r2, (∀ Q : Int32 → vmD → Prop, Q v c2 → OF_put a0 a1 c Q) ∧ (∀ Q : Int32 → vmD → Prop, Q v r2 → MO_put a0 a1 r Q) ∧ Rel c2 r2
def Ok_register (Rel : vmD → vmD → Prop) : Prop := ∀ c r, Rel c r → ∀ (a0 : Int32), ∃ v c2 r2, (∀ Q : Int32 → vmD → Prop, Q v c2 → OF_register a0 c Q) ∧ (∀ Q : Int32 → vmD → Prop, Q v r2 → MO_register a0 r Q) ∧ Rel c2 r2
def Ok_set (Rel : vmD → vmD → Prop) : Prop := ∀ c r, Rel c r → ∀ (a0 : Int32) (a1 : Int32), ∃ v c2 r2, (∀ Q : Int32 → vmD → Prop, Q v c2 → OF_set a0 a1 c Q) ∧ (∀ Q : Int32 → vmD → Prop, Q v r2 → MO_set a0 a1 r Q) ∧ Rel c2 r2
def Ok_port (Rel : vmD → vmD → Prop) : Prop := ∀ c r, Rel c r → ∀ (a0 : Int32) (a1 : Int32), ∃ v c2 r2, (∀ Q : Int32 → vmD → Prop, Q v c2 → OF_port a0 a1 c Q) ∧ (∀ Q : Int32 → vmD → Prop, Q v r2 → MO_port a0 a1 r Q) ∧ Rel c2 r2
def Ok_out (Rel : vmD → vmD → Prop) : Prop := ∀ c r, Rel c r → ∀ (a0 : Int32), ∃ v c2 r2, (∀ Q : Int32 → vmD → Prop, Q v c2 → OF_out a0 c Q) ∧ (∀ Q : Int32 → vmD → Prop, Q v r2 → MO_out a0 r Q) ∧ Rel c2 r2
def Ok_request (Rel : vmD → vmD → Prop) : Prop := ∀ c r, Rel c r → ∀ (a0 : Int32) (a1 : Int32), ∃ v c2 r2, (∀ Q : Int32 → vmD → Prop, Q v c2 → OF_request a0 a1 c Q) ∧ (∀ Q : Int32 → vmD → Prop, Q v r2 → MO_request a0 a1 r Q) ∧ Rel c2 r2
def Ok_step (Rel : vmD → vmD → Prop) : Prop := ∀ c r, Rel c r → ∃ v c2 r2, (∀ Q : Int32 → vmD → Prop, Q v c2 → OF_step c Q) ∧ (∀ Q : Int32 → vmD → Prop, Q v r2 → MO_step r Q) ∧ Rel c2 r2
def Ok_run (Rel : vmD → vmD → Prop) : Prop := ∀ c r, Rel c r → ∀ (a0 : Int32), ∃ v c2 r2, (∀ Q : Int32 → vmD → Prop, Q v c2 → OF_run a0 c Q) ∧ (∀ Q : Int32 → vmD → Prop, Q v r2 → MO_run a0 r Q) ∧ Rel c2 r2
def Ok_outs (Rel : vmD → vmD → Prop) : Prop := ∀ c r, Rel c r → ∃ v c2 r2, (∀ Q : Int64 → vmD → Prop, Q v c2 → OF_outs c Q) ∧ (∀ Q : Int64 → vmD → Prop, Q v r2 → MO_outs r Q) ∧ Rel c2 r2
def Ok_clear (Rel : vmD → vmD → Prop) : Prop := ∀ c r, Rel c r → ∃ c2 r2, (∀ Q : vmD → Prop, Q c2 → OF_clear c Q) ∧ (∀ Q : vmD → Prop, Q r2 → MO_clear r Q) ∧ Rel c2 r2
def OkAll (Rel : vmD → vmD → Prop) : Prop := Ok_feed Rel ∧ Ok_forge Rel ∧ Ok_told Rel ∧ Ok_label Rel ∧ Ok_labelSign Rel ∧ Ok_write Rel ∧ Ok_sign Rel ∧ Ok_source Rel ∧ Ok_sourceAt Rel ∧ Ok_octet Rel ∧ Ok_put Rel ∧ Ok_register Rel ∧ Ok_set Rel ∧ Ok_port Rel ∧ Ok_out Rel ∧ Ok_request Rel ∧ Ok_step Rel ∧ Ok_run Rel ∧ Ok_outs Rel ∧ Ok_clear Rel
theorem bnd_i {α : Type} {x : α} {K : α → Prop} (h : K x) : bnd x K := fun y hy => hy ▸ h
theorem ix_at {i k L : Nat} (hL : L ≤ 256) (h : i + k < L) (j : Int32) (hj : j = nI i + nI k) : ixOk j L := by
  rw [hj, nI_add]
  exact vp_in_nI h (by omega)
theorem lg_cmp_self (x : Int64) : lg_cmp x x = 0 := by
  unfold lg_cmp
  simp
set_option maxRecDepth 100000 in
set_option maxHeartbeats 8000000 in
theorem law_loop {Rel : vmD → vmD → Prop} (H : OkAll Rel) {L : Nat} (hL : L ≤ 256) {Q : Int32 → vmD → vmD → Prop} (hQ : ∀ c r, Rel c r → Q 1 c r) : ∀ (q i : Nat) (c r : vmD), L ≤ i + q → i ≤ 260 → Rel c r → ∃ n, LAW_18 L Q n (nI i) c r := by
  obtain ⟨Hfeed, Hforge, Htold, Hlabel, HlabelSign, Hwrite, Hsign, Hsource, HsourceAt, Hoctet, Hput, Hregister, Hset, Hport, Hout, Hrequest, Hstep, Hrun, Houts, Hclear⟩ := H
  intro q
  induction q with
  | zero =>
    intro i c r hq hi hR
    refine ⟨1, ?_⟩
    unfold LAW_18
    have hlt : (Int32.ofNat L) - 4 < nI i := by
      have h1 : (Int32.ofNat L - 4 : Int32).toInt = (L : Int) - 4 := pk_sub_toInt (a := L) (b := 4) (by omega) (by omega)
      have h2 : (nI i).toInt = (i : Int) := nI_toInt (by omega)
      exact Int32.lt_iff_toInt_lt.mpr (by rw [h1, h2]; omega)
    rw [if_pos hlt]
    exact hQ c r hR
  | succ q ih =>
    intro i c r hq hi hR
    have h1 : (Int32.ofNat L - 4 : Int32).toInt = (L : Int) - 4 := pk_sub_toInt (a := L) (b := 4) (by omega) (by omega)
    have h2 : (nI i).toInt = (i : Int) := nI_toInt (by omega)
    by_cases hend : (Int32.ofNat L) - 4 < nI i
    · refine ⟨1, ?_⟩
      unfold LAW_18
      rw [if_pos hend]
      exact hQ c r hR
    · have hiL : i + 4 ≤ L := by
        have h3 : ¬ ((L : Int) - 4 < (i : Int)) := fun h => hend (Int32.lt_iff_toInt_lt.mpr (by rw [h1, h2]; exact h))
        omega
      have go : ∀ c2 r2, Rel c2 r2 → ∃ n, LAW_647 (LAW_18 L Q n) L (nI i) c2 r2 Q := by
        intro c2 r2 hR2
        obtain ⟨n, hn⟩ := ih (i + 4) c2 r2 (by omega) (by omega) hR2
        refine ⟨n, ?_⟩
        unfold LAW_647
        exact bnd_i (by rw [show nI i + 4 = nI (i + 4) from nI_add i 4]; exact hn)
      have i0 : ixOk (nI i) L := vp_in_nI (by omega) (by omega)
      have i1 : ixOk (nI i + 1) L := ix_at hL (i := i) (k := 1) (by omega) _ rfl
      have i2 : ixOk (nI i + 2) L := ix_at hL (i := i) (k := 2) (by omega) _ rfl
      have i3 : ixOk (nI i + 3) L := ix_at hL (i := i) (k := 3) (by omega) _ rfl
      generalize hsel : (gA r 1000 (nI i).toNatClampNeg &&& 31) = sel
      by_cases hs0 : sel = 0
      · obtain ⟨v, c2, r2, e1, e2, hR2⟩ := Hfeed c r hR (((Int32.toInt64 (gA r 1000 (nI i + 1).toNatClampNeg)) <<< ((Int32.toInt64 (32 : Int32)) &&& 63)) ||| ((Int32.toInt64 (gA r 1000 (nI i + 2).toNatClampNeg)) &&& 4294967295)) (gA r 1000 (nI i + 3).toNatClampNeg)
        obtain ⟨n, hn⟩ := go c2 r2 hR2
        refine ⟨n + 1, ?_⟩
        unfold LAW_18
        rw [if_neg hend]
        refine ⟨i0, bnd_i ?_⟩
        rw [hsel]
        rw [if_pos hs0]
        refine ⟨i1, bnd_i ?_⟩
        refine ⟨i2, bnd_i ?_⟩
        refine ⟨i3, bnd_i ?_⟩
        refine e1 _ ?_
        refine ⟨i1, bnd_i ?_⟩
        refine ⟨i2, bnd_i ?_⟩
        refine ⟨i3, bnd_i ?_⟩
        refine e2 _ ?_
        rw [if_pos rfl]
        exact hn
      · skip
        by_cases hs1 : sel = 1
        · obtain ⟨v, c2, r2, e1, e2, hR2⟩ := Hforge c r hR
          obtain ⟨n, hn⟩ := go c2 r2 hR2
          refine ⟨n + 1, ?_⟩
          unfold LAW_18
          rw [if_neg hend]
          refine ⟨i0, bnd_i ?_⟩
          rw [hsel]
          rw [if_neg hs0, if_pos hs1]
          refine e1 _ ?_
          refine e2 _ ?_
          rw [if_pos rfl]
          exact hn
        · skip
          by_cases hs2 : sel = 2
          · obtain ⟨v, c2, r2, e1, e2, hR2⟩ := Htold c r hR (gA r 1000 (nI i + 1).toNatClampNeg)
            obtain ⟨n, hn⟩ := go c2 r2 hR2
            refine ⟨n + 1, ?_⟩
            unfold LAW_18
            rw [if_neg hend]
            refine ⟨i0, bnd_i ?_⟩
            rw [hsel]
            rw [if_neg hs0, if_neg hs1, if_pos hs2]
            refine ⟨i1, bnd_i ?_⟩
            refine e1 _ ?_
            refine ⟨i1, bnd_i ?_⟩
            refine e2 _ ?_
            rw [if_pos rfl]
            exact hn
          · skip
            by_cases hs3 : sel = 3
            · obtain ⟨v, c2, r2, e1, e2, hR2⟩ := Hlabel c r hR (gA r 1000 (nI i + 1).toNatClampNeg)
              obtain ⟨n, hn⟩ := go c2 r2 hR2
              refine ⟨n + 1, ?_⟩
              unfold LAW_18
              rw [if_neg hend]
              refine ⟨i0, bnd_i ?_⟩
              rw [hsel]
              rw [if_neg hs0, if_neg hs1, if_neg hs2, if_pos hs3]
              refine ⟨i1, bnd_i ?_⟩
              refine e1 _ ?_
              refine ⟨i1, bnd_i ?_⟩
              refine e2 _ ?_
              rw [if_pos rfl]
              exact hn
            · skip
              by_cases hs4 : sel = 4
              · obtain ⟨v, c2, r2, e1, e2, hR2⟩ := HlabelSign c r hR (gA r 1000 (nI i + 1).toNatClampNeg) (gA r 1000 (nI i + 2).toNatClampNeg)
                obtain ⟨n, hn⟩ := go c2 r2 hR2
                refine ⟨n + 1, ?_⟩
                unfold LAW_18
                rw [if_neg hend]
                refine ⟨i0, bnd_i ?_⟩
                rw [hsel]
                rw [if_neg hs0, if_neg hs1, if_neg hs2, if_neg hs3, if_pos hs4]
                refine ⟨i1, bnd_i ?_⟩
                refine ⟨i2, bnd_i ?_⟩
                refine e1 _ ?_
                refine ⟨i1, bnd_i ?_⟩
                refine ⟨i2, bnd_i ?_⟩
                refine e2 _ ?_
                rw [if_pos rfl]
                exact hn
              · skip
                by_cases hs5 : sel = 5
                · obtain ⟨v, c2, r2, e1, e2, hR2⟩ := Hwrite c r hR (gA r 1000 (nI i + 1).toNatClampNeg)
                  obtain ⟨n, hn⟩ := go c2 r2 hR2
                  refine ⟨n + 1, ?_⟩
                  unfold LAW_18
                  rw [if_neg hend]
                  refine ⟨i0, bnd_i ?_⟩
                  rw [hsel]
                  rw [if_neg hs0, if_neg hs1, if_neg hs2, if_neg hs3, if_neg hs4, if_pos hs5]
                  refine ⟨i1, bnd_i ?_⟩
                  refine e1 _ ?_
                  refine ⟨i1, bnd_i ?_⟩
                  refine e2 _ ?_
                  rw [if_pos rfl]
                  exact hn
                · skip
                  by_cases hs6 : sel = 6
                  · obtain ⟨v, c2, r2, e1, e2, hR2⟩ := Hsign c r hR (gA r 1000 (nI i + 1).toNatClampNeg)
                    obtain ⟨n, hn⟩ := go c2 r2 hR2
                    refine ⟨n + 1, ?_⟩
                    unfold LAW_18
                    rw [if_neg hend]
                    refine ⟨i0, bnd_i ?_⟩
                    rw [hsel]
                    rw [if_neg hs0, if_neg hs1, if_neg hs2, if_neg hs3, if_neg hs4, if_neg hs5, if_pos hs6]
                    refine ⟨i1, bnd_i ?_⟩
                    refine e1 _ ?_
                    refine ⟨i1, bnd_i ?_⟩
                    refine e2 _ ?_
                    rw [if_pos rfl]
                    exact hn
                  · skip
                    by_cases hs7 : sel = 7
                    · obtain ⟨v, c2, r2, e1, e2, hR2⟩ := Hsource c r hR (gA r 1000 (nI i + 1).toNatClampNeg) (gA r 1000 (nI i + 2).toNatClampNeg)
                      obtain ⟨n, hn⟩ := go c2 r2 hR2
                      refine ⟨n + 1, ?_⟩
                      unfold LAW_18
                      rw [if_neg hend]
                      refine ⟨i0, bnd_i ?_⟩
                      rw [hsel]
                      rw [if_neg hs0, if_neg hs1, if_neg hs2, if_neg hs3, if_neg hs4, if_neg hs5, if_neg hs6, if_pos hs7]
                      refine ⟨i1, bnd_i ?_⟩
                      refine ⟨i2, bnd_i ?_⟩
                      refine e1 _ ?_
                      refine ⟨i1, bnd_i ?_⟩
                      refine ⟨i2, bnd_i ?_⟩
                      refine e2 _ ?_
                      rw [if_pos rfl]
                      exact hn
                    · skip
                      by_cases hs8 : sel = 8
                      · obtain ⟨v, c2, r2, e1, e2, hR2⟩ := HsourceAt c r hR (gA r 1000 (nI i + 1).toNatClampNeg)
                        obtain ⟨n, hn⟩ := go c2 r2 hR2
                        refine ⟨n + 1, ?_⟩
                        unfold LAW_18
                        rw [if_neg hend]
                        refine ⟨i0, bnd_i ?_⟩
                        rw [hsel]
                        rw [if_neg hs0, if_neg hs1, if_neg hs2, if_neg hs3, if_neg hs4, if_neg hs5, if_neg hs6, if_neg hs7, if_pos hs8]
                        refine ⟨i1, bnd_i ?_⟩
                        refine e1 _ ?_
                        refine ⟨i1, bnd_i ?_⟩
                        refine e2 _ ?_
                        rw [if_pos rfl]
                        exact hn
                      · skip
                        by_cases hs9 : sel = 9
                        · obtain ⟨v, c2, r2, e1, e2, hR2⟩ := Hoctet c r hR (gA r 1000 (nI i + 1).toNatClampNeg)
                          obtain ⟨n, hn⟩ := go c2 r2 hR2
                          refine ⟨n + 1, ?_⟩
                          unfold LAW_18
                          rw [if_neg hend]
                          refine ⟨i0, bnd_i ?_⟩
                          rw [hsel]
                          rw [if_neg hs0, if_neg hs1, if_neg hs2, if_neg hs3, if_neg hs4, if_neg hs5, if_neg hs6, if_neg hs7, if_neg hs8, if_pos hs9]
                          refine ⟨i1, bnd_i ?_⟩
                          refine e1 _ ?_
                          refine ⟨i1, bnd_i ?_⟩
                          refine e2 _ ?_
                          rw [if_pos rfl]
                          exact hn
                        · skip
                          by_cases hs10 : sel = 10
                          · obtain ⟨v, c2, r2, e1, e2, hR2⟩ := Hput c r hR (gA r 1000 (nI i + 1).toNatClampNeg) (gA r 1000 (nI i + 2).toNatClampNeg)
                            obtain ⟨n, hn⟩ := go c2 r2 hR2
                            refine ⟨n + 1, ?_⟩
                            unfold LAW_18
                            rw [if_neg hend]
                            refine ⟨i0, bnd_i ?_⟩
                            rw [hsel]
                            rw [if_neg hs0, if_neg hs1, if_neg hs2, if_neg hs3, if_neg hs4, if_neg hs5, if_neg hs6, if_neg hs7, if_neg hs8, if_neg hs9, if_pos hs10]
                            refine ⟨i1, bnd_i ?_⟩
                            refine ⟨i2, bnd_i ?_⟩
                            refine e1 _ ?_
                            refine ⟨i1, bnd_i ?_⟩
                            refine ⟨i2, bnd_i ?_⟩
                            refine e2 _ ?_
                            rw [if_pos rfl]
                            exact hn
                          · skip
                            by_cases hs11 : sel = 11
                            · obtain ⟨v, c2, r2, e1, e2, hR2⟩ := Hregister c r hR (gA r 1000 (nI i + 1).toNatClampNeg)
                              obtain ⟨n, hn⟩ := go c2 r2 hR2
                              refine ⟨n + 1, ?_⟩
                              unfold LAW_18
                              rw [if_neg hend]
                              refine ⟨i0, bnd_i ?_⟩
                              rw [hsel]
                              rw [if_neg hs0, if_neg hs1, if_neg hs2, if_neg hs3, if_neg hs4, if_neg hs5, if_neg hs6, if_neg hs7, if_neg hs8, if_neg hs9, if_neg hs10, if_pos hs11]
                              refine ⟨i1, bnd_i ?_⟩
                              refine e1 _ ?_
                              refine ⟨i1, bnd_i ?_⟩
                              refine e2 _ ?_
                              rw [if_pos rfl]
                              exact hn
                            · skip
                              by_cases hs12 : sel = 12
                              · obtain ⟨v, c2, r2, e1, e2, hR2⟩ := Hset c r hR (gA r 1000 (nI i + 1).toNatClampNeg) (gA r 1000 (nI i + 2).toNatClampNeg)
                                obtain ⟨n, hn⟩ := go c2 r2 hR2
                                refine ⟨n + 1, ?_⟩
                                unfold LAW_18
                                rw [if_neg hend]
                                refine ⟨i0, bnd_i ?_⟩
                                rw [hsel]
                                rw [if_neg hs0, if_neg hs1, if_neg hs2, if_neg hs3, if_neg hs4, if_neg hs5, if_neg hs6, if_neg hs7, if_neg hs8, if_neg hs9, if_neg hs10, if_neg hs11, if_pos hs12]
                                refine ⟨i1, bnd_i ?_⟩
                                refine ⟨i2, bnd_i ?_⟩
                                refine e1 _ ?_
                                refine ⟨i1, bnd_i ?_⟩
                                refine ⟨i2, bnd_i ?_⟩
                                refine e2 _ ?_
                                rw [if_pos rfl]
                                exact hn
                              · skip
                                by_cases hs13 : sel = 13
                                · obtain ⟨v, c2, r2, e1, e2, hR2⟩ := Hport c r hR (gA r 1000 (nI i + 1).toNatClampNeg) (gA r 1000 (nI i + 2).toNatClampNeg)
                                  obtain ⟨n, hn⟩ := go c2 r2 hR2
                                  refine ⟨n + 1, ?_⟩
                                  unfold LAW_18
                                  rw [if_neg hend]
                                  refine ⟨i0, bnd_i ?_⟩
                                  rw [hsel]
                                  rw [if_neg hs0, if_neg hs1, if_neg hs2, if_neg hs3, if_neg hs4, if_neg hs5, if_neg hs6, if_neg hs7, if_neg hs8, if_neg hs9, if_neg hs10, if_neg hs11, if_neg hs12, if_pos hs13]
                                  refine ⟨i1, bnd_i ?_⟩
                                  refine ⟨i2, bnd_i ?_⟩
                                  refine e1 _ ?_
                                  refine ⟨i1, bnd_i ?_⟩
                                  refine ⟨i2, bnd_i ?_⟩
                                  refine e2 _ ?_
                                  rw [if_pos rfl]
                                  exact hn
                                · skip
                                  by_cases hs14 : sel = 14
                                  · obtain ⟨v, c2, r2, e1, e2, hR2⟩ := Hout c r hR (gA r 1000 (nI i + 1).toNatClampNeg)
                                    obtain ⟨n, hn⟩ := go c2 r2 hR2
                                    refine ⟨n + 1, ?_⟩
                                    unfold LAW_18
                                    rw [if_neg hend]
                                    refine ⟨i0, bnd_i ?_⟩
                                    rw [hsel]
                                    rw [if_neg hs0, if_neg hs1, if_neg hs2, if_neg hs3, if_neg hs4, if_neg hs5, if_neg hs6, if_neg hs7, if_neg hs8, if_neg hs9, if_neg hs10, if_neg hs11, if_neg hs12, if_neg hs13, if_pos hs14]
                                    refine ⟨i1, bnd_i ?_⟩
                                    refine e1 _ ?_
                                    refine ⟨i1, bnd_i ?_⟩
                                    refine e2 _ ?_
                                    rw [if_pos rfl]
                                    exact hn
                                  · skip
                                    by_cases hs15 : sel = 15
                                    · obtain ⟨v, c2, r2, e1, e2, hR2⟩ := Hrequest c r hR (gA r 1000 (nI i + 1).toNatClampNeg) (gA r 1000 (nI i + 2).toNatClampNeg)
                                      obtain ⟨n, hn⟩ := go c2 r2 hR2
                                      refine ⟨n + 1, ?_⟩
                                      unfold LAW_18
                                      rw [if_neg hend]
                                      refine ⟨i0, bnd_i ?_⟩
                                      rw [hsel]
                                      rw [if_neg hs0, if_neg hs1, if_neg hs2, if_neg hs3, if_neg hs4, if_neg hs5, if_neg hs6, if_neg hs7, if_neg hs8, if_neg hs9, if_neg hs10, if_neg hs11, if_neg hs12, if_neg hs13, if_neg hs14, if_pos hs15]
                                      refine ⟨i1, bnd_i ?_⟩
                                      refine ⟨i2, bnd_i ?_⟩
                                      refine e1 _ ?_
                                      refine ⟨i1, bnd_i ?_⟩
                                      refine ⟨i2, bnd_i ?_⟩
                                      refine e2 _ ?_
                                      rw [if_pos rfl]
                                      exact hn
                                    · skip
                                      by_cases hs16 : sel = 16
                                      · obtain ⟨v, c2, r2, e1, e2, hR2⟩ := Hstep c r hR
                                        obtain ⟨n, hn⟩ := go c2 r2 hR2
                                        refine ⟨n + 1, ?_⟩
                                        unfold LAW_18
                                        rw [if_neg hend]
                                        refine ⟨i0, bnd_i ?_⟩
                                        rw [hsel]
                                        rw [if_neg hs0, if_neg hs1, if_neg hs2, if_neg hs3, if_neg hs4, if_neg hs5, if_neg hs6, if_neg hs7, if_neg hs8, if_neg hs9, if_neg hs10, if_neg hs11, if_neg hs12, if_neg hs13, if_neg hs14, if_neg hs15, if_pos hs16]
                                        refine e1 _ ?_
                                        refine e2 _ ?_
                                        rw [if_pos rfl]
                                        exact hn
                                      · skip
                                        by_cases hs17 : sel = 17
                                        · obtain ⟨v, c2, r2, e1, e2, hR2⟩ := Hrun c r hR (gA r 1000 (nI i + 1).toNatClampNeg)
                                          obtain ⟨n, hn⟩ := go c2 r2 hR2
                                          refine ⟨n + 1, ?_⟩
                                          unfold LAW_18
                                          rw [if_neg hend]
                                          refine ⟨i0, bnd_i ?_⟩
                                          rw [hsel]
                                          rw [if_neg hs0, if_neg hs1, if_neg hs2, if_neg hs3, if_neg hs4, if_neg hs5, if_neg hs6, if_neg hs7, if_neg hs8, if_neg hs9, if_neg hs10, if_neg hs11, if_neg hs12, if_neg hs13, if_neg hs14, if_neg hs15, if_neg hs16, if_pos hs17]
                                          refine ⟨i1, bnd_i ?_⟩
                                          refine e1 _ ?_
                                          refine ⟨i1, bnd_i ?_⟩
                                          refine e2 _ ?_
                                          rw [if_pos rfl]
                                          exact hn
                                        · skip
                                          by_cases hs18 : sel = 18
                                          · obtain ⟨v, c2, r2, e1, e2, hR2⟩ := Houts c r hR
                                            obtain ⟨n, hn⟩ := go c2 r2 hR2
                                            refine ⟨n + 1, ?_⟩
                                            unfold LAW_18
                                            rw [if_neg hend]
                                            refine ⟨i0, bnd_i ?_⟩
                                            rw [hsel]
                                            rw [if_neg hs0, if_neg hs1, if_neg hs2, if_neg hs3, if_neg hs4, if_neg hs5, if_neg hs6, if_neg hs7, if_neg hs8, if_neg hs9, if_neg hs10, if_neg hs11, if_neg hs12, if_neg hs13, if_neg hs14, if_neg hs15, if_neg hs16, if_neg hs17, if_pos hs18]
                                            refine e1 _ ?_
                                            refine e2 _ ?_
                                            rw [if_pos (by rw [lg_cmp_self])]
                                            exact hn
                                          · skip
                                            by_cases hs19 : sel = 19
                                            · obtain ⟨c2, r2, e1, e2, hR2⟩ := Hclear c r hR
                                              obtain ⟨n, hn⟩ := go c2 r2 hR2
                                              refine ⟨n + 1, ?_⟩
                                              unfold LAW_18
                                              rw [if_neg hend]
                                              refine ⟨i0, bnd_i ?_⟩
                                              rw [hsel]
                                              rw [if_neg hs0, if_neg hs1, if_neg hs2, if_neg hs3, if_neg hs4, if_neg hs5, if_neg hs6, if_neg hs7, if_neg hs8, if_neg hs9, if_neg hs10, if_neg hs11, if_neg hs12, if_neg hs13, if_neg hs14, if_neg hs15, if_neg hs16, if_neg hs17, if_neg hs18, if_pos hs19]
                                              refine e1 _ ?_
                                              refine e2 _ ?_
                                              exact hn
                                            · skip
                                              obtain ⟨n, hn⟩ := go c r hR
                                              refine ⟨n + 1, ?_⟩
                                              unfold LAW_18
                                              rw [if_neg hend]
                                              refine ⟨i0, bnd_i ?_⟩
                                              rw [hsel]
                                              rw [if_neg hs0, if_neg hs1, if_neg hs2, if_neg hs3, if_neg hs4, if_neg hs5, if_neg hs6, if_neg hs7, if_neg hs8, if_neg hs9, if_neg hs10, if_neg hs11, if_neg hs12, if_neg hs13, if_neg hs14, if_neg hs15, if_neg hs16, if_neg hs17, if_neg hs18, if_neg hs19]
                                              exact hn
