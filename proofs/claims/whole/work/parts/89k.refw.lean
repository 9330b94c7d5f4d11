/-! The reference's writers, as rows of signs and numbers -/
theorem nb_7 {x : Int32} (h : ∃ n, n < 8 ∧ x = nI n) : nb5 x := by
  obtain ⟨n, hn, rfl⟩ := h
  exact ⟨n, by omega, rfl⟩
theorem b7_and (x : Int32) : ∃ n, n < 8 ∧ x &&& 7 = nI n := pk_andE x 3 rfl
theorem nb_m1 {x : Int32} (h : ∃ n, n < 8 ∧ x = nI n) (h0 : ¬ x = 0) : nb5 (x - 1) := by
  obtain ⟨n, hn, rfl⟩ := h
  cases n with
  | zero => exact absurd rfl h0
  | succ n => exact ⟨n, by omega, nI_pred n⟩
theorem nb_x8 {x : Int32} (h : ∃ n, n < 8 ∧ x = nI n) : nb5 ((8 : Int32) * x) := by
  obtain ⟨n, hn, rfl⟩ := h
  exact ⟨8 * n, by omega, pk_mul 8 n⟩
theorem nb_0 : nb5 0 := ⟨0, by omega, rfl⟩
def T_indexName_31 (op ix : Int32) (s0 : Int64) : List Tt := (sayT s0) ++ ([])
theorem w_indexName_31 {a op ix : Int32} {s0 : Int64} {d : vmD} (h0 : StW d op ix) : Wr a (MO_indexName_31 s0 d) d (T_indexName_31 op ix s0) := by
  unfold MO_indexName_31 T_indexName_31
  refine wr_seq (wr_say _ _ _) (fun d1 e1 => ?_)
  have s1 := h0.w e1
  exact wr_nil
def T_indexName (op ix : Int32) : List Tt := if ix = 0 then (T_indexName_31 op ix 18508) else (if ix = 1 then (T_indexName_31 op ix 18776) else (T_indexName_31 op ix 18777))
theorem w_indexName {a op ix : Int32} {d : vmD} (h0 : StW d op ix) : Wr a (MO_indexName  d) d (T_indexName op ix ) := by
  unfold MO_indexName T_indexName
  refine wr_ite (by rw [h0.2.1]) (fun h => ?_) (fun h => ?_)
  · exact (w_indexName_31 h0)
  · refine wr_ite (by rw [h0.2.1]) (fun h => ?_) (fun h => ?_)
    · exact (w_indexName_31 h0)
    · exact (w_indexName_31 h0)
def T_place (ix : Int32) : List Tt := if ix = 0 then sayT 675826729 else [(40, 0)] ++ (T_indexName 0 ix ++ ([(0, 4)] ++ [(41, 0)]))
theorem wr_place {a op ix : Int32} {d : vmD} (h : StW d op ix) : Wr a (MO_place d) d (T_place ix) := by
  have hT : ∀ op, T_indexName op ix = T_indexName 0 ix := fun _ => rfl
  unfold MO_place T_place
  refine wr_ite (by rw [h.2.1]) (fun q => ?_) (fun q => ?_)
  · exact wr_say _ _ _
  refine wr_seq (wr_one _ _ _) (fun d1 e1 => ?_)
  have s1 := h.w e1
  rw [← hT op]
  refine wr_seq (w_indexName s1) (fun d2 e2 => ?_)
  have s2 := s1.w e2
  intro n Q hn hl hQ
  have hp : flR a d2 ([(0, 4)] ++ [(41, 0)]) = (if gF d2 42 62 < 0 then 45 else 43) :: (decL (absI (gF d2 42 62)).toNatClampNeg ++ [41]) := rfl
  rw [hp] at hl hQ
  rw [List.length_cons, List.length_append] at hl
  have key : ∀ v : Int32, v = (if gF d2 42 62 < 0 then 45 else 43) → MO_place_40 v d2 Q := by
    intro v hv
    unfold MO_place_40
    refine one_eq hn (by omega) _ _ ?_
    have e3 : gF (rW [v] d2) 42 62 = gF d2 42 62 := rW_gF _ _ _ (by decide)
    have k63 : MO_place_63 (absI (gF d2 42 62)) (rW [v] d2) Q := by
      unfold MO_place_63
      refine num_eq (dst_nb s2.2.2.2) _ (n + 1) _ (rW_66 _ _ _ hn) (by omega) ?_
      refine one_eq (rW_66 _ _ _ (rW_66 _ _ _ hn)) (by rw [List.length_singleton] at *; omega) _ _ ?_
      rw [← hv] at hQ
      rw [← rW_app, ← rW_app]
      exact hQ
    rw [e3]
    unfold absI at k63
    by_cases q2 : gF d2 42 62 < 0
    · rw [if_pos q2] at k63 ⊢
      exact k63
    · rw [if_neg q2] at k63 ⊢
      exact k63
  by_cases q2 : gF d2 42 62 < 0
  · rw [if_pos q2]
    exact key _ (if_pos q2).symm
  · rw [if_neg q2]
    exact key _ (if_neg q2).symm
def T_octetName_75 (op ix : Int32) (s0 : Int32) : List Tt := ([(s0, 0)]) ++ ([])
theorem w_octetName_75 {a op ix : Int32} {s0 : Int32} {d : vmD} (h0 : StW d op ix) : Wr a (MO_octetName_75 s0 d) d (T_octetName_75 op ix s0) := by
  unfold MO_octetName_75 T_octetName_75
  refine wr_seq (wr_one _ _ _) (fun d1 e1 => ?_)
  have s1 := h0.w e1
  exact wr_nil
def T_octetName (op ix : Int32) (x1 : Int32) : List Tt := if x1 = 6 then ((T_place ix) ++ ([])) else (if x1 = 0 then (T_octetName_75 op ix 66) else (if x1 = 1 then (T_octetName_75 op ix 67) else (if x1 = 2 then (T_octetName_75 op ix 68) else (if x1 = 3 then (T_octetName_75 op ix 69) else (if x1 = 4 then (T_octetName_75 op ix 72) else (if x1 = 5 then (T_octetName_75 op ix 76) else (T_octetName_75 op ix 65)))))))
theorem w_octetName {a op ix : Int32} {x1 : Int32} {d : vmD} (h0 : StW d op ix) : Wr a (MO_octetName x1 d) d (T_octetName op ix x1) := by
  unfold MO_octetName T_octetName
  refine wr_ite Iff.rfl (fun h => ?_) (fun h => ?_)
  · refine wr_seq (wr_place h0) (fun d1 e1 => ?_)
    have s1 := h0.w e1
    exact wr_nil
  · refine wr_ite Iff.rfl (fun h => ?_) (fun h => ?_)
    · exact (w_octetName_75 h0)
    · refine wr_ite Iff.rfl (fun h => ?_) (fun h => ?_)
      · exact (w_octetName_75 h0)
      · refine wr_ite Iff.rfl (fun h => ?_) (fun h => ?_)
        · exact (w_octetName_75 h0)
        · refine wr_ite Iff.rfl (fun h => ?_) (fun h => ?_)
          · exact (w_octetName_75 h0)
          · refine wr_ite Iff.rfl (fun h => ?_) (fun h => ?_)
            · exact (w_octetName_75 h0)
            · refine wr_ite Iff.rfl (fun h => ?_) (fun h => ?_)
              · exact (w_octetName_75 h0)
              · exact (w_octetName_75 h0)
def T_write203_137 (op ix : Int32) : List Tt := (T_octetName op ix (op &&& 7)) ++ ([])
theorem w_write203_137 {a op ix : Int32} {d : vmD} (h0 : StW d op ix) : Wr a (MO_write203_137  d) d (T_write203_137 op ix ) := by
  unfold MO_write203_137 T_write203_137
  refine wr_seq (by rw [h0.1]; exact w_octetName h0) (fun d1 e1 => ?_)
  have s1 := h0.w e1
  exact wr_nil
def T_write203_91 (op ix : Int32) (s0 : Int64) : List Tt := (sayT s0) ++ (T_write203_137 op ix )
theorem w_write203_91 {a op ix : Int32} {s0 : Int64} {d : vmD} (h0 : StW d op ix) : Wr a (MO_write203_91 s0 d) d (T_write203_91 op ix s0) := by
  unfold MO_write203_91 T_write203_91
  refine wr_seq (wr_say _ _ _) (fun d1 e1 => ?_)
  have s1 := h0.w e1
  exact (w_write203_137 s1)
def T_write203_123 (op ix : Int32) (x1 : Int32) (s0 : Int64) : List Tt := (sayT s0) ++ ((litT (decL (x1).toNatClampNeg)) ++ (([(44, 0)]) ++ (T_write203_137 op ix )))
theorem w_write203_123 {a op ix : Int32} {x1 : Int32} {s0 : Int64} {d : vmD} (h0 : StW d op ix) (hx1 : ∃ n, n < 8 ∧ x1 = nI n) : Wr a (MO_write203_123 x1 s0 d) d (T_write203_123 op ix x1 s0) := by
  unfold MO_write203_123 T_write203_123
  refine wr_seq (wr_say _ _ _) (fun d1 e1 => ?_)
  have s1 := h0.w e1
  refine wr_seq (wr_num _ (by first | exact nb_7 hx1 | exact nb_m1 hx1 ‹_› | exact nb_x8 hx1 | exact hs0 | exact nb_0 | exact hx1 | exact b7_and _) _) (fun d2 e2 => ?_)
  have s2 := s1.w e2
  refine wr_seq (wr_one _ _ _) (fun d3 e3 => ?_)
  have s3 := s2.w e3
  exact (w_write203_137 s3)
def T_write203 (op ix : Int32) : List Tt := if ((op >>> ((6 : Int32) &&& 31))) = 0 then (if (((op >>> ((3 : Int32) &&& 31)) &&& 7)) = 0 then (T_write203_91 op ix 1380729632) else (if (((op >>> ((3 : Int32) &&& 31)) &&& 7)) = 1 then (T_write203_91 op ix 1381122848) else (if (((op >>> ((3 : Int32) &&& 31)) &&& 7)) = 2 then (T_write203_91 op ix 5393440) else (if (((op >>> ((3 : Int32) &&& 31)) &&& 7)) = 3 then (T_write203_91 op ix 5394976) else (if (((op >>> ((3 : Int32) &&& 31)) &&& 7)) = 4 then (T_write203_91 op ix 1397506336) else (if (((op >>> ((3 : Int32) &&& 31)) &&& 7)) = 5 then (T_write203_91 op ix 1397899552) else (T_write203_91 op ix 1397902368))))))) else (if ((op >>> ((6 : Int32) &&& 31))) = 1 then (T_write203_123 op ix (((op >>> ((3 : Int32) &&& 31)) &&& 7)) 1112101920) else (if ((op >>> ((6 : Int32) &&& 31))) = 2 then (T_write203_123 op ix (((op >>> ((3 : Int32) &&& 31)) &&& 7)) 1380274976) else (T_write203_123 op ix (((op >>> ((3 : Int32) &&& 31)) &&& 7)) 1397052448)))
theorem w_write203 {a op ix : Int32} {d : vmD} (h0 : StW d op ix) : Wr a (MO_write203  d) d (T_write203 op ix ) := by
  unfold MO_write203 T_write203
  refine wr_bnd ?_
  try rw [h0.1]
  refine wr_bnd ?_
  try rw [h0.1]
  refine wr_ite Iff.rfl (fun h => ?_) (fun h => ?_)
  · refine wr_ite Iff.rfl (fun h => ?_) (fun h => ?_)
    · exact (w_write203_91 h0)
    · refine wr_ite Iff.rfl (fun h => ?_) (fun h => ?_)
      · exact (w_write203_91 h0)
      · refine wr_ite Iff.rfl (fun h => ?_) (fun h => ?_)
        · exact (w_write203_91 h0)
        · refine wr_ite Iff.rfl (fun h => ?_) (fun h => ?_)
          · exact (w_write203_91 h0)
          · refine wr_ite Iff.rfl (fun h => ?_) (fun h => ?_)
            · exact (w_write203_91 h0)
            · refine wr_ite Iff.rfl (fun h => ?_) (fun h => ?_)
              · exact (w_write203_91 h0)
              · exact (w_write203_91 h0)
  · refine wr_ite Iff.rfl (fun h => ?_) (fun h => ?_)
    · exact (w_write203_123 h0 (by first | exact nb_7 hx1 | exact nb_m1 hx1 ‹_› | exact nb_x8 hx1 | exact hs0 | exact nb_0 | exact hx1 | exact b7_and _))
    · refine wr_ite Iff.rfl (fun h => ?_) (fun h => ?_)
      · exact (w_write203_123 h0 (by first | exact nb_7 hx1 | exact nb_m1 hx1 ‹_› | exact nb_x8 hx1 | exact hs0 | exact nb_0 | exact hx1 | exact b7_and _))
      · exact (w_write203_123 h0 (by first | exact nb_7 hx1 | exact nb_m1 hx1 ‹_› | exact nb_x8 hx1 | exact hs0 | exact nb_0 | exact hx1 | exact b7_and _))
def T_pairName_47 (op ix : Int32) (s0 : Int64) : List Tt := (sayT s0) ++ ([])
theorem w_pairName_47 {a op ix : Int32} {s0 : Int64} {d : vmD} (h0 : StW d op ix) : Wr a (MO_pairName_47 s0 d) d (T_pairName_47 op ix s0) := by
  unfold MO_pairName_47 T_pairName_47
  refine wr_seq (wr_say _ _ _) (fun d1 e1 => ?_)
  have s1 := h0.w e1
  exact wr_nil
def T_pairName (op ix : Int32) (x1 : Int32) (x2 : Int32) : List Tt := if x1 = 2 then ((T_indexName op ix ) ++ ([])) else (if x1 = 0 then (T_pairName_47 op ix 16963) else (if x1 = 1 then (T_pairName_47 op ix 17477) else (if x2 = 0 then (T_pairName_47 op ix 21328) else (T_pairName_47 op ix 16710))))
theorem w_pairName {a op ix : Int32} {x1 : Int32} {x2 : Int32} {d : vmD} (h0 : StW d op ix) : Wr a (MO_pairName x1 x2 d) d (T_pairName op ix x1 x2) := by
  unfold MO_pairName T_pairName
  refine wr_ite Iff.rfl (fun h => ?_) (fun h => ?_)
  · refine wr_seq (w_indexName h0) (fun d1 e1 => ?_)
    have s1 := h0.w e1
    exact wr_nil
  · refine wr_ite Iff.rfl (fun h => ?_) (fun h => ?_)
    · exact (w_pairName_47 h0)
    · refine wr_ite Iff.rfl (fun h => ?_) (fun h => ?_)
      · exact (w_pairName_47 h0)
      · refine wr_ite Iff.rfl (fun h => ?_) (fun h => ?_)
        · exact (w_pairName_47 h0)
        · exact (w_pairName_47 h0)
def T_placeM (op ix : Int32) : List Tt := ([(40, 0)]) ++ (([(0, 2)]) ++ (([(41, 0)]) ++ ([])))
theorem w_placeM {a op ix : Int32} {d : vmD} (h0 : StW d op ix) : Wr a (MO_placeM  d) d (T_placeM op ix ) := by
  unfold MO_placeM T_placeM
  refine wr_seq (wr_one _ _ _) (fun d1 e1 => ?_)
  have s1 := h0.w e1
  refine wr_seq (wr_m s1) (fun d2 e2 => ?_)
  have s2 := s1.w e2
  refine wr_seq (wr_one _ _ _) (fun d3 e3 => ?_)
  have s3 := s2.w e3
  exact wr_nil
def T_write237_111 (op ix : Int32) (x1 : Int32) (s0 : Int32) : List Tt := ([(s0, 0)]) ++ (if (5 : Int32) < x1 then (([(82, 0)]) ++ ([])) else ([]))
theorem w_write237_111 {a op ix : Int32} {x1 : Int32} {s0 : Int32} {d : vmD} (h0 : StW d op ix) : Wr a (MO_write237_111 x1 s0 d) d (T_write237_111 op ix x1 s0) := by
  unfold MO_write237_111 T_write237_111
  refine wr_seq (wr_one _ _ _) (fun d1 e1 => ?_)
  have s1 := h0.w e1
  refine wr_ite Iff.rfl (fun h => ?_) (fun h => ?_)
  · refine wr_seq (wr_one _ _ _) (fun d2 e2 => ?_)
    have s2 := s1.w e2
    exact wr_nil
  · exact wr_nil
def T_write237_94 (op ix : Int32) (x1 : Int32) (s0 : Int64) : List Tt := (sayT s0) ++ (if (x1 &&& 1) = 0 then (T_write237_111 op ix x1 73) else (T_write237_111 op ix x1 68))
theorem w_write237_94 {a op ix : Int32} {x1 : Int32} {s0 : Int64} {d : vmD} (h0 : StW d op ix) : Wr a (MO_write237_94 x1 s0 d) d (T_write237_94 op ix x1 s0) := by
  unfold MO_write237_94 T_write237_94
  refine wr_seq (wr_say _ _ _) (fun d1 e1 => ?_)
  have s1 := h0.w e1
  refine wr_ite Iff.rfl (fun h => ?_) (fun h => ?_)
  · exact (w_write237_111 s1)
  · exact (w_write237_111 s1)
def T_write237_220 (op ix : Int32) (x3 : Int32) (s0 : Int64) : List Tt := (sayT s0) ++ ((T_pairName op ix x3 0) ++ ([]))
theorem w_write237_220 {a op ix : Int32} {x3 : Int32} {s0 : Int64} {d : vmD} (h0 : StW d op ix) : Wr a (MO_write237_220 x3 s0 d) d (T_write237_220 op ix x3 s0) := by
  unfold MO_write237_220 T_write237_220
  refine wr_seq (wr_say _ _ _) (fun d1 e1 => ?_)
  have s1 := h0.w e1
  refine wr_seq (w_pairName s1) (fun d2 e2 => ?_)
  have s2 := s1.w e2
  exact wr_nil
def T_write237_306 (op ix : Int32) (s0 : Int64) : List Tt := (sayT s0) ++ ([])
theorem w_write237_306 {a op ix : Int32} {s0 : Int64} {d : vmD} (h0 : StW d op ix) : Wr a (MO_write237_306 s0 d) d (T_write237_306 op ix s0) := by
  unfold MO_write237_306 T_write237_306
  refine wr_seq (wr_say _ _ _) (fun d1 e1 => ?_)
  have s1 := h0.w e1
  exact wr_nil
def T_write237_331 (op ix : Int32) (s0 : Int32) : List Tt := (litT (decL (s0).toNatClampNeg)) ++ ([])
theorem w_write237_331 {a op ix : Int32} {s0 : Int32} {d : vmD} (h0 : StW d op ix) (hs0 : nb5 s0) : Wr a (MO_write237_331 s0 d) d (T_write237_331 op ix s0) := by
  unfold MO_write237_331 T_write237_331
  refine wr_seq (wr_num _ (by first | exact nb_7 hx1 | exact nb_m1 hx1 ‹_› | exact nb_x8 hx1 | exact hs0 | exact nb_0 | exact hx1 | exact b7_and _) _) (fun d1 e1 => ?_)
  have s1 := h0.w e1
  exact wr_nil
def T_write237_395 (op ix : Int32) (s0 : Int64) : List Tt := (sayT s0) ++ ([])
theorem w_write237_395 {a op ix : Int32} {s0 : Int64} {d : vmD} (h0 : StW d op ix) : Wr a (MO_write237_395 s0 d) d (T_write237_395 op ix s0) := by
  unfold MO_write237_395 T_write237_395
  refine wr_seq (wr_say _ _ _) (fun d1 e1 => ?_)
  have s1 := h0.w e1
  exact wr_nil
def T_write237_34 (op ix : Int32) (x1 : Int32) (x2 : Int32) (x3 : Int32) (s0 : Int32) : List Tt := if (op >>> ((6 : Int32) &&& 31)) = 2 then (if x2 = 0 then (T_write237_94 op ix x1 19524) else (if x2 = 1 then (T_write237_94 op ix x1 17232) else (if x2 = 2 then (T_write237_94 op ix x1 18766) else (if (5 : Int32) < x1 then (T_write237_94 op ix x1 20308) else (T_write237_94 op ix x1 5199188))))) else (if x2 = 0 then ((sayT 4804128) ++ ((T_octetName op ix x1) ++ ((sayT 740836137) ++ ([])))) else (if x2 = 1 then ((sayT 5716567799107889452) ++ ((T_octetName op ix x1) ++ ([]))) else (if x2 = 2 then (if s0 = 0 then (T_write237_220 op ix x3 23435279138835500) else (T_write237_220 op ix x3 18370928581299244)) else (if x2 = 3 then ((sayT 4998176) ++ (if s0 = 0 then ((T_placeM op ix ) ++ (([(44, 0)]) ++ ((T_pairName op ix x3 0) ++ ([])))) else ((T_pairName op ix x3 0) ++ (([(44, 0)]) ++ ((T_placeM op ix ) ++ ([])))))) else (if x2 = 4 then ((sayT 5129543) ++ ([])) else (if x2 = 5 then (if x1 = 0 then (T_write237_306 op ix 1380275278) else (T_write237_306 op ix 1380275273)) else (if x2 = 6 then ((sayT 4803872) ++ (if x1 = 0 then (T_write237_331 op ix 0) else (T_write237_331 op ix (x1 - 1)))) else (if x1 = 0 then (T_write237_395 op ix 83855483153473) else (if x1 = 1 then (T_write237_395 op ix 83855483743297) else (if x1 = 2 then (T_write237_395 op ix 83855482629193) else (if x1 = 3 then (T_write237_395 op ix 83855482629202) else (if x1 = 4 then (T_write237_395 op ix 5395012) else (T_write237_395 op ix 5393476)))))))))))))
theorem w_write237_34 {a op ix : Int32} {x1 : Int32} {x2 : Int32} {x3 : Int32} {s0 : Int32} {d : vmD} (h0 : StW d op ix) (hx1 : ∃ n, n < 8 ∧ x1 = nI n) : Wr a (MO_write237_34 x1 x2 x3 s0 d) d (T_write237_34 op ix x1 x2 x3 s0) := by
  unfold MO_write237_34 T_write237_34
  refine wr_ite (by rw [h0.1]) (fun h => ?_) (fun h => ?_)
  · refine wr_ite Iff.rfl (fun h => ?_) (fun h => ?_)
    · exact (w_write237_94 h0)
    · refine wr_ite Iff.rfl (fun h => ?_) (fun h => ?_)
      · exact (w_write237_94 h0)
      · refine wr_ite Iff.rfl (fun h => ?_) (fun h => ?_)
        · exact (w_write237_94 h0)
        · refine wr_ite Iff.rfl (fun h => ?_) (fun h => ?_)
          · exact (w_write237_94 h0)
          · exact (w_write237_94 h0)
  · refine wr_ite Iff.rfl (fun h => ?_) (fun h => ?_)
    · refine wr_seq (wr_say _ _ _) (fun d1 e1 => ?_)
      have s1 := h0.w e1
      refine wr_seq (w_octetName s1) (fun d2 e2 => ?_)
      have s2 := s1.w e2
      refine wr_seq (wr_say _ _ _) (fun d3 e3 => ?_)
      have s3 := s2.w e3
      exact wr_nil
    · refine wr_ite Iff.rfl (fun h => ?_) (fun h => ?_)
      · refine wr_seq (wr_say _ _ _) (fun d4 e4 => ?_)
        have s4 := h0.w e4
        refine wr_seq (w_octetName s4) (fun d5 e5 => ?_)
        have s5 := s4.w e5
        exact wr_nil
      · refine wr_ite Iff.rfl (fun h => ?_) (fun h => ?_)
        · refine wr_ite Iff.rfl (fun h => ?_) (fun h => ?_)
          · exact (w_write237_220 h0)
          · exact (w_write237_220 h0)
        · refine wr_ite Iff.rfl (fun h => ?_) (fun h => ?_)
          · refine wr_seq (wr_say _ _ _) (fun d6 e6 => ?_)
            have s6 := h0.w e6
            refine wr_ite Iff.rfl (fun h => ?_) (fun h => ?_)
            · refine wr_seq (w_placeM s6) (fun d7 e7 => ?_)
              have s7 := s6.w e7
              refine wr_seq (wr_one _ _ _) (fun d8 e8 => ?_)
              have s8 := s7.w e8
              refine wr_seq (w_pairName s8) (fun d9 e9 => ?_)
              have s9 := s8.w e9
              exact wr_nil
            · refine wr_seq (w_pairName s6) (fun d10 e10 => ?_)
              have s10 := s6.w e10
              refine wr_seq (wr_one _ _ _) (fun d11 e11 => ?_)
              have s11 := s10.w e11
              refine wr_seq (w_placeM s11) (fun d12 e12 => ?_)
              have s12 := s11.w e12
              exact wr_nil
          · refine wr_ite Iff.rfl (fun h => ?_) (fun h => ?_)
            · refine wr_seq (wr_say _ _ _) (fun d13 e13 => ?_)
              have s13 := h0.w e13
              exact wr_nil
            · refine wr_ite Iff.rfl (fun h => ?_) (fun h => ?_)
              · refine wr_ite Iff.rfl (fun h => ?_) (fun h => ?_)
                · exact (w_write237_306 h0)
                · exact (w_write237_306 h0)
              · refine wr_ite Iff.rfl (fun h => ?_) (fun h => ?_)
                · refine wr_seq (wr_say _ _ _) (fun d14 e14 => ?_)
                  have s14 := h0.w e14
                  refine wr_ite Iff.rfl (fun h => ?_) (fun h => ?_)
                  · exact (w_write237_331 s14 (by first | exact nb_7 hx1 | exact nb_m1 hx1 ‹_› | exact nb_x8 hx1 | exact hs0 | exact nb_0 | exact hx1 | exact b7_and _))
                  · exact (w_write237_331 s14 (by first | exact nb_7 hx1 | exact nb_m1 hx1 ‹_› | exact nb_x8 hx1 | exact hs0 | exact nb_0 | exact hx1 | exact b7_and _))
                · refine wr_ite Iff.rfl (fun h => ?_) (fun h => ?_)
                  · exact (w_write237_395 h0)
                  · refine wr_ite Iff.rfl (fun h => ?_) (fun h => ?_)
                    · exact (w_write237_395 h0)
                    · refine wr_ite Iff.rfl (fun h => ?_) (fun h => ?_)
                      · exact (w_write237_395 h0)
                      · refine wr_ite Iff.rfl (fun h => ?_) (fun h => ?_)
                        · exact (w_write237_395 h0)
                        · refine wr_ite Iff.rfl (fun h => ?_) (fun h => ?_)
                          · exact (w_write237_395 h0)
                          · exact (w_write237_395 h0)
def T_write237 (op ix : Int32) : List Tt := if ((((op >>> ((3 : Int32) &&& 31)) &&& 7)) &&& 1) = 1 then (T_write237_34 op ix (((op >>> ((3 : Int32) &&& 31)) &&& 7)) ((op &&& 7)) (((((op >>> ((3 : Int32) &&& 31)) &&& 7)) >>> ((1 : Int32) &&& 31))) 1) else (T_write237_34 op ix (((op >>> ((3 : Int32) &&& 31)) &&& 7)) ((op &&& 7)) (((((op >>> ((3 : Int32) &&& 31)) &&& 7)) >>> ((1 : Int32) &&& 31))) 0)
theorem w_write237 {a op ix : Int32} {d : vmD} (h0 : StW d op ix) : Wr a (MO_write237  d) d (T_write237 op ix ) := by
  unfold MO_write237 T_write237
  refine wr_bnd ?_
  try rw [h0.1]
  refine wr_bnd ?_
  try rw [h0.1]
  refine wr_bnd ?_
  refine wr_ite Iff.rfl (fun h => ?_) (fun h => ?_)
  · exact (w_write237_34 h0 (by first | exact nb_7 hx1 | exact nb_m1 hx1 ‹_› | exact nb_x8 hx1 | exact hs0 | exact nb_0 | exact hx1 | exact b7_and _))
  · exact (w_write237_34 h0 (by first | exact nb_7 hx1 | exact nb_m1 hx1 ‹_› | exact nb_x8 hx1 | exact hs0 | exact nb_0 | exact hx1 | exact b7_and _))
def T_conditionName_81 (op ix : Int32) (s0 : Int64) : List Tt := (sayT s0) ++ ([])
theorem w_conditionName_81 {a op ix : Int32} {s0 : Int64} {d : vmD} (h0 : StW d op ix) : Wr a (MO_conditionName_81 s0 d) d (T_conditionName_81 op ix s0) := by
  unfold MO_conditionName_81 T_conditionName_81
  refine wr_seq (wr_say _ _ _) (fun d1 e1 => ?_)
  have s1 := h0.w e1
  exact wr_nil
def T_conditionName (op ix : Int32) (x1 : Int32) : List Tt := if x1 = 0 then (T_conditionName_81 op ix 20058) else (if x1 = 1 then (T_conditionName_81 op ix 90) else (if x1 = 2 then (T_conditionName_81 op ix 20035) else (if x1 = 3 then (T_conditionName_81 op ix 67) else (if x1 = 4 then (T_conditionName_81 op ix 20559) else (if x1 = 5 then (T_conditionName_81 op ix 20549) else (if x1 = 6 then (T_conditionName_81 op ix 80) else (T_conditionName_81 op ix 77)))))))
theorem w_conditionName {a op ix : Int32} {x1 : Int32} {d : vmD} (h0 : StW d op ix) : Wr a (MO_conditionName x1 d) d (T_conditionName op ix x1) := by
  unfold MO_conditionName T_conditionName
  refine wr_ite Iff.rfl (fun h => ?_) (fun h => ?_)
  · exact (w_conditionName_81 h0)
  · refine wr_ite Iff.rfl (fun h => ?_) (fun h => ?_)
    · exact (w_conditionName_81 h0)
    · refine wr_ite Iff.rfl (fun h => ?_) (fun h => ?_)
      · exact (w_conditionName_81 h0)
      · refine wr_ite Iff.rfl (fun h => ?_) (fun h => ?_)
        · exact (w_conditionName_81 h0)
        · refine wr_ite Iff.rfl (fun h => ?_) (fun h => ?_)
          · exact (w_conditionName_81 h0)
          · refine wr_ite Iff.rfl (fun h => ?_) (fun h => ?_)
            · exact (w_conditionName_81 h0)
            · refine wr_ite Iff.rfl (fun h => ?_) (fun h => ?_)
              · exact (w_conditionName_81 h0)
              · exact (w_conditionName_81 h0)
def T_writeLoad_97 (op ix : Int32) (x2 : Int32) (x3 : Int32) : List Tt := if x2 = 0 then (([(44, 0)]) ++ (if x3 = 0 then (([(65, 0)]) ++ ([])) else ((T_indexName op ix ) ++ ([])))) else ([])
theorem w_writeLoad_97 {a op ix : Int32} {x2 : Int32} {x3 : Int32} {d : vmD} (h0 : StW d op ix) : Wr a (MO_writeLoad_97 x2 x3 d) d (T_writeLoad_97 op ix x2 x3) := by
  unfold MO_writeLoad_97 T_writeLoad_97
  refine wr_ite Iff.rfl (fun h => ?_) (fun h => ?_)
  · refine wr_seq (wr_one _ _ _) (fun d1 e1 => ?_)
    have s1 := h0.w e1
    refine wr_ite Iff.rfl (fun h => ?_) (fun h => ?_)
    · refine wr_seq (wr_one _ _ _) (fun d2 e2 => ?_)
      have s2 := s1.w e2
      exact wr_nil
    · refine wr_seq (w_indexName s1) (fun d3 e3 => ?_)
      have s3 := s1.w e3
      exact wr_nil
  · exact wr_nil
def T_writeLoad_63 (op ix : Int32) (x1 : Int32) (x2 : Int32) (x3 : Int32) : List Tt := if x1 < 2 then ((sayT 675431209) ++ (T_writeLoad_97 op ix x2 x3)) else (if x1 < 4 then ((sayT 675562793) ++ (T_writeLoad_97 op ix x2 x3)) else ((T_placeM op ix ) ++ (T_writeLoad_97 op ix x2 x3)))
theorem w_writeLoad_63 {a op ix : Int32} {x1 : Int32} {x2 : Int32} {x3 : Int32} {d : vmD} (h0 : StW d op ix) : Wr a (MO_writeLoad_63 x1 x2 x3 d) d (T_writeLoad_63 op ix x1 x2 x3) := by
  unfold MO_writeLoad_63 T_writeLoad_63
  refine wr_ite Iff.rfl (fun h => ?_) (fun h => ?_)
  · refine wr_seq (wr_say _ _ _) (fun d1 e1 => ?_)
    have s1 := h0.w e1
    exact (w_writeLoad_97 s1)
  · refine wr_ite Iff.rfl (fun h => ?_) (fun h => ?_)
    · refine wr_seq (wr_say _ _ _) (fun d2 e2 => ?_)
      have s2 := h0.w e2
      exact (w_writeLoad_97 s2)
    · refine wr_seq (w_placeM h0) (fun d3 e3 => ?_)
      have s3 := h0.w e3
      exact (w_writeLoad_97 s3)
def T_writeLoad_57 (op ix : Int32) (x1 : Int32) (x2 : Int32) (x3 : Int32) : List Tt := ([(44, 0)]) ++ (T_writeLoad_63 op ix x1 x2 x3)
theorem w_writeLoad_57 {a op ix : Int32} {x1 : Int32} {x2 : Int32} {x3 : Int32} {d : vmD} (h0 : StW d op ix) : Wr a (MO_writeLoad_57 x1 x2 x3 d) d (T_writeLoad_57 op ix x1 x2 x3) := by
  unfold MO_writeLoad_57 T_writeLoad_57
  refine wr_seq (wr_one _ _ _) (fun d1 e1 => ?_)
  have s1 := h0.w e1
  exact (w_writeLoad_63 s1)
def T_writeLoad_35 (op ix : Int32) (x1 : Int32) (x2 : Int32) (s0 : Int32) : List Tt := if x2 = 0 then (T_writeLoad_63 op ix x1 x2 s0) else (if s0 = 0 then (([(65, 0)]) ++ (T_writeLoad_57 op ix x1 x2 s0)) else ((T_indexName op ix ) ++ (T_writeLoad_57 op ix x1 x2 s0)))
theorem w_writeLoad_35 {a op ix : Int32} {x1 : Int32} {x2 : Int32} {s0 : Int32} {d : vmD} (h0 : StW d op ix) : Wr a (MO_writeLoad_35 x1 x2 s0 d) d (T_writeLoad_35 op ix x1 x2 s0) := by
  unfold MO_writeLoad_35 T_writeLoad_35
  refine wr_ite Iff.rfl (fun h => ?_) (fun h => ?_)
  · exact (w_writeLoad_63 h0)
  · refine wr_ite Iff.rfl (fun h => ?_) (fun h => ?_)
    · refine wr_seq (wr_one _ _ _) (fun d1 e1 => ?_)
      have s1 := h0.w e1
      exact (w_writeLoad_57 s1)
    · refine wr_seq (w_indexName h0) (fun d2 e2 => ?_)
      have s2 := h0.w e2
      exact (w_writeLoad_57 s2)
def T_writeLoad_30 (op ix : Int32) (x1 : Int32) (x2 : Int32) : List Tt := T_writeLoad_35 op ix x1 x2 1
theorem w_writeLoad_30 {a op ix : Int32} {x1 : Int32} {x2 : Int32} {d : vmD} (h0 : StW d op ix) : Wr a (MO_writeLoad_30 x1 x2 d) d (T_writeLoad_30 op ix x1 x2) := by
  unfold MO_writeLoad_30 T_writeLoad_30
  exact (w_writeLoad_35 h0)
def T_writeLoad_19 (op ix : Int32) (x1 : Int32) (s0 : Int32) : List Tt := if x1 = 4 then (T_writeLoad_30 op ix x1 s0) else (if x1 = 5 then (T_writeLoad_30 op ix x1 s0) else (T_writeLoad_35 op ix x1 s0 0))
theorem w_writeLoad_19 {a op ix : Int32} {x1 : Int32} {s0 : Int32} {d : vmD} (h0 : StW d op ix) : Wr a (MO_writeLoad_19 x1 s0 d) d (T_writeLoad_19 op ix x1 s0) := by
  unfold MO_writeLoad_19 T_writeLoad_19
  refine wr_ite Iff.rfl (fun h => ?_) (fun h => ?_)
  · exact (w_writeLoad_30 h0)
  · refine wr_ite Iff.rfl (fun h => ?_) (fun h => ?_)
    · exact (w_writeLoad_30 h0)
    · exact (w_writeLoad_35 h0)
def T_writeLoad (op ix : Int32) (x1 : Int32) : List Tt := (sayT 4998176) ++ (if (x1 &&& 1) = 1 then (T_writeLoad_19 op ix x1 1) else (T_writeLoad_19 op ix x1 0))
theorem w_writeLoad {a op ix : Int32} {x1 : Int32} {d : vmD} (h0 : StW d op ix) : Wr a (MO_writeLoad x1 d) d (T_writeLoad op ix x1) := by
  unfold MO_writeLoad T_writeLoad
  refine wr_seq (wr_say _ _ _) (fun d1 e1 => ?_)
  have s1 := h0.w e1
  refine wr_ite Iff.rfl (fun h => ?_) (fun h => ?_)
  · exact (w_writeLoad_19 s1)
  · exact (w_writeLoad_19 s1)
def T_writeFirst_156 (op ix : Int32) (x1 : Int32) : List Tt := ([(0, 3)]) ++ ([])
theorem w_writeFirst_156 {a op ix : Int32} {d : vmD} (h0 : StW d op ix) : Wr a (MO_writeFirst_156 a d) d (T_writeFirst_156 op ix a) := by
  unfold MO_writeFirst_156 T_writeFirst_156
  refine wr_seq (wr_near h0) (fun d1 e1 => ?_)
  have s1 := h0.w e1
  exact wr_nil
def T_writeFirst_138 (op ix : Int32) (x1 : Int32) (x2 : Int32) : List Tt := if (3 : Int32) < x2 then ((T_conditionName op ix (x2 - 4)) ++ (([(44, 0)]) ++ (T_writeFirst_156 op ix x1))) else (T_writeFirst_156 op ix x1)
theorem w_writeFirst_138 {a op ix : Int32} {x2 : Int32} {d : vmD} (h0 : StW d op ix) : Wr a (MO_writeFirst_138 a x2 d) d (T_writeFirst_138 op ix a x2) := by
  unfold MO_writeFirst_138 T_writeFirst_138
  refine wr_ite Iff.rfl (fun h => ?_) (fun h => ?_)
  · refine wr_seq (w_conditionName h0) (fun d1 e1 => ?_)
    have s1 := h0.w e1
    refine wr_seq (wr_one _ _ _) (fun d2 e2 => ?_)
    have s2 := s1.w e2
    exact (w_writeFirst_156 s2)
  · exact (w_writeFirst_156 h0)
def T_writeFirst_253 (op ix : Int32) (x4 : Int32) : List Tt := (T_pairName op ix x4 0) ++ ([])
theorem w_writeFirst_253 {a op ix : Int32} {x4 : Int32} {d : vmD} (h0 : StW d op ix) : Wr a (MO_writeFirst_253 x4 d) d (T_writeFirst_253 op ix x4) := by
  unfold MO_writeFirst_253 T_writeFirst_253
  refine wr_seq (w_pairName h0) (fun d1 e1 => ?_)
  have s1 := h0.w e1
  exact wr_nil
def T_writeFirst_285 (op ix : Int32) (x2 : Int32) : List Tt := (T_octetName op ix x2) ++ ([])
theorem w_writeFirst_285 {a op ix : Int32} {x2 : Int32} {d : vmD} (h0 : StW d op ix) : Wr a (MO_writeFirst_285 x2 d) d (T_writeFirst_285 op ix x2) := by
  unfold MO_writeFirst_285 T_writeFirst_285
  refine wr_seq (w_octetName h0) (fun d1 e1 => ?_)
  have s1 := h0.w e1
  exact wr_nil
def T_writeFirst_399 (op ix : Int32) (s0 : Int64) : List Tt := (sayT s0) ++ ([])
theorem w_writeFirst_399 {a op ix : Int32} {s0 : Int64} {d : vmD} (h0 : StW d op ix) : Wr a (MO_writeFirst_399 s0 d) d (T_writeFirst_399 op ix s0) := by
  unfold MO_writeFirst_399 T_writeFirst_399
  refine wr_seq (wr_say _ _ _) (fun d1 e1 => ?_)
  have s1 := h0.w e1
  exact wr_nil
def T_writeFirst_35 (op ix : Int32) (x1 : Int32) (x2 : Int32) (x3 : Int32) (x4 : Int32) (s0 : Int32) : List Tt := if x3 = 0 then (if x2 = 0 then ((sayT 5132112) ++ ([])) else (if x2 = 1 then ((sayT 76244800587308) ++ ((sayT 4277799) ++ ([]))) else (if x2 = 2 then ((sayT 293304424992) ++ (T_writeFirst_138 op ix x1 x2)) else ((sayT 4870688) ++ (T_writeFirst_138 op ix x1 x2))))) else (if x3 = 1 then (if s0 = 0 then ((sayT 4998176) ++ ((T_pairName op ix x4 0) ++ (([(44, 0)]) ++ (([(0, 2)]) ++ ([]))))) else ((sayT 1094992928) ++ ((T_indexName op ix ) ++ (([(44, 0)]) ++ ((T_pairName op ix x4 0) ++ ([])))))) else (if x3 = 2 then ((T_writeLoad op ix x2) ++ ([])) else (if x3 = 3 then (if s0 = 0 then ((sayT 1229865760) ++ (T_writeFirst_253 op ix x4)) else ((sayT 1145389856) ++ (T_writeFirst_253 op ix x4))) else (if x3 = 4 then (if x3 = 5 then ((sayT 1145389856) ++ (T_writeFirst_285 op ix x2)) else ((sayT 1229865760) ++ (T_writeFirst_285 op ix x2))) else (if x3 = 5 then (if x3 = 5 then ((sayT 1145389856) ++ (T_writeFirst_285 op ix x2)) else ((sayT 1229865760) ++ (T_writeFirst_285 op ix x2))) else (if x3 = 6 then ((sayT 4998176) ++ ((T_octetName op ix x2) ++ (([(44, 0)]) ++ (([(0, 1)]) ++ ([]))))) else (if x2 = 0 then (T_writeFirst_399 op ix 1380729665) else (if x2 = 1 then (T_writeFirst_399 op ix 1381122881) else (if x2 = 2 then (T_writeFirst_399 op ix 5393473) else (if x2 = 3 then (T_writeFirst_399 op ix 5395009) else (if x2 = 4 then (T_writeFirst_399 op ix 4473153) else (if x2 = 5 then (T_writeFirst_399 op ix 4411468) else (if x2 = 6 then (T_writeFirst_399 op ix 5456710) else (T_writeFirst_399 op ix 4408134))))))))))))))
theorem w_writeFirst_35 {a op ix : Int32} {x2 : Int32} {x3 : Int32} {x4 : Int32} {s0 : Int32} {d : vmD} (h0 : StW d op ix) : Wr a (MO_writeFirst_35 a x2 x3 x4 s0 d) d (T_writeFirst_35 op ix a x2 x3 x4 s0) := by
  unfold MO_writeFirst_35 T_writeFirst_35
  refine wr_ite Iff.rfl (fun h => ?_) (fun h => ?_)
  · refine wr_ite Iff.rfl (fun h => ?_) (fun h => ?_)
    · refine wr_seq (wr_say _ _ _) (fun d1 e1 => ?_)
      have s1 := h0.w e1
      exact wr_nil
    · refine wr_ite Iff.rfl (fun h => ?_) (fun h => ?_)
      · refine wr_seq (wr_say _ _ _) (fun d2 e2 => ?_)
        have s2 := h0.w e2
        refine wr_seq (wr_say _ _ _) (fun d3 e3 => ?_)
        have s3 := s2.w e3
        exact wr_nil
      · refine wr_ite Iff.rfl (fun h => ?_) (fun h => ?_)
        · refine wr_seq (wr_say _ _ _) (fun d4 e4 => ?_)
          have s4 := h0.w e4
          exact (w_writeFirst_138 s4)
        · refine wr_seq (wr_say _ _ _) (fun d5 e5 => ?_)
          have s5 := h0.w e5
          exact (w_writeFirst_138 s5)
  · refine wr_ite Iff.rfl (fun h => ?_) (fun h => ?_)
    · refine wr_ite Iff.rfl (fun h => ?_) (fun h => ?_)
      · refine wr_seq (wr_say _ _ _) (fun d6 e6 => ?_)
        have s6 := h0.w e6
        refine wr_seq (w_pairName s6) (fun d7 e7 => ?_)
        have s7 := s6.w e7
        refine wr_seq (wr_one _ _ _) (fun d8 e8 => ?_)
        have s8 := s7.w e8
        refine wr_seq (wr_m s8) (fun d9 e9 => ?_)
        have s9 := s8.w e9
        exact wr_nil
      · refine wr_seq (wr_say _ _ _) (fun d10 e10 => ?_)
        have s10 := h0.w e10
        refine wr_seq (w_indexName s10) (fun d11 e11 => ?_)
        have s11 := s10.w e11
        refine wr_seq (wr_one _ _ _) (fun d12 e12 => ?_)
        have s12 := s11.w e12
        refine wr_seq (w_pairName s12) (fun d13 e13 => ?_)
        have s13 := s12.w e13
        exact wr_nil
    · refine wr_ite Iff.rfl (fun h => ?_) (fun h => ?_)
      · refine wr_seq (w_writeLoad h0) (fun d14 e14 => ?_)
        have s14 := h0.w e14
        exact wr_nil
      · refine wr_ite Iff.rfl (fun h => ?_) (fun h => ?_)
        · refine wr_ite Iff.rfl (fun h => ?_) (fun h => ?_)
          · refine wr_seq (wr_say _ _ _) (fun d15 e15 => ?_)
            have s15 := h0.w e15
            exact (w_writeFirst_253 s15)
          · refine wr_seq (wr_say _ _ _) (fun d16 e16 => ?_)
            have s16 := h0.w e16
            exact (w_writeFirst_253 s16)
        · refine wr_ite Iff.rfl (fun h => ?_) (fun h => ?_)
          · refine wr_ite Iff.rfl (fun h => ?_) (fun h => ?_)
            · refine wr_seq (wr_say _ _ _) (fun d17 e17 => ?_)
              have s17 := h0.w e17
              exact (w_writeFirst_285 s17)
            · refine wr_seq (wr_say _ _ _) (fun d18 e18 => ?_)
              have s18 := h0.w e18
              exact (w_writeFirst_285 s18)
          · refine wr_ite Iff.rfl (fun h => ?_) (fun h => ?_)
            · refine wr_ite Iff.rfl (fun h => ?_) (fun h => ?_)
              · refine wr_seq (wr_say _ _ _) (fun d19 e19 => ?_)
                have s19 := h0.w e19
                exact (w_writeFirst_285 s19)
              · refine wr_seq (wr_say _ _ _) (fun d20 e20 => ?_)
                have s20 := h0.w e20
                exact (w_writeFirst_285 s20)
            · refine wr_ite Iff.rfl (fun h => ?_) (fun h => ?_)
              · refine wr_seq (wr_say _ _ _) (fun d21 e21 => ?_)
                have s21 := h0.w e21
                refine wr_seq (w_octetName s21) (fun d22 e22 => ?_)
                have s22 := s21.w e22
                refine wr_seq (wr_one _ _ _) (fun d23 e23 => ?_)
                have s23 := s22.w e23
                refine wr_seq (wr_n s23) (fun d24 e24 => ?_)
                have s24 := s23.w e24
                exact wr_nil
              · refine wr_ite Iff.rfl (fun h => ?_) (fun h => ?_)
                · exact (w_writeFirst_399 h0)
                · refine wr_ite Iff.rfl (fun h => ?_) (fun h => ?_)
                  · exact (w_writeFirst_399 h0)
                  · refine wr_ite Iff.rfl (fun h => ?_) (fun h => ?_)
                    · exact (w_writeFirst_399 h0)
                    · refine wr_ite Iff.rfl (fun h => ?_) (fun h => ?_)
                      · exact (w_writeFirst_399 h0)
                      · refine wr_ite Iff.rfl (fun h => ?_) (fun h => ?_)
                        · exact (w_writeFirst_399 h0)
                        · refine wr_ite Iff.rfl (fun h => ?_) (fun h => ?_)
                          · exact (w_writeFirst_399 h0)
                          · refine wr_ite Iff.rfl (fun h => ?_) (fun h => ?_)
                            · exact (w_writeFirst_399 h0)
                            · exact (w_writeFirst_399 h0)
def T_writeFirst (op ix : Int32) (x1 : Int32) : List Tt := if ((((op >>> ((3 : Int32) &&& 31)) &&& 7)) &&& 1) = 1 then (T_writeFirst_35 op ix x1 (((op >>> ((3 : Int32) &&& 31)) &&& 7)) ((op &&& 7)) (((((op >>> ((3 : Int32) &&& 31)) &&& 7)) >>> ((1 : Int32) &&& 31))) 1) else (T_writeFirst_35 op ix x1 (((op >>> ((3 : Int32) &&& 31)) &&& 7)) ((op &&& 7)) (((((op >>> ((3 : Int32) &&& 31)) &&& 7)) >>> ((1 : Int32) &&& 31))) 0)
theorem w_writeFirst {a op ix : Int32} {d : vmD} (h0 : StW d op ix) : Wr a (MO_writeFirst a d) d (T_writeFirst op ix a) := by
  unfold MO_writeFirst T_writeFirst
  refine wr_bnd ?_
  try rw [h0.1]
  refine wr_bnd ?_
  try rw [h0.1]
  refine wr_bnd ?_
  refine wr_ite Iff.rfl (fun h => ?_) (fun h => ?_)
  · exact (w_writeFirst_35 h0)
  · exact (w_writeFirst_35 h0)
def T_writeThird (op ix : Int32) (x1 : Int32) : List Tt := if x1 = 0 then ((sayT 4870176) ++ (([(0, 2)]) ++ ([]))) else (if x1 = 2 then ((sayT 340733993000) ++ (([(0, 1)]) ++ ((sayT 2698305) ++ ([])))) else (if x1 = 3 then ((sayT 80599897418792) ++ (([(0, 1)]) ++ (([(41, 0)]) ++ ([])))) else (if x1 = 4 then ((sayT 4996779144136108332) ++ ((T_indexName op ix ) ++ ([]))) else (if x1 = 5 then ((sayT 4996779264157960268) ++ ([])) else (if x1 = 6 then ((sayT 17481) ++ ([])) else ((sayT 17737) ++ ([])))))))
theorem w_writeThird {a op ix : Int32} {x1 : Int32} {d : vmD} (h0 : StW d op ix) : Wr a (MO_writeThird x1 d) d (T_writeThird op ix x1) := by
  unfold MO_writeThird T_writeThird
  refine wr_ite Iff.rfl (fun h => ?_) (fun h => ?_)
  · refine wr_seq (wr_say _ _ _) (fun d1 e1 => ?_)
    have s1 := h0.w e1
    refine wr_seq (wr_m s1) (fun d2 e2 => ?_)
    have s2 := s1.w e2
    exact wr_nil
  · refine wr_ite Iff.rfl (fun h => ?_) (fun h => ?_)
    · refine wr_seq (wr_say _ _ _) (fun d3 e3 => ?_)
      have s3 := h0.w e3
      refine wr_seq (wr_n s3) (fun d4 e4 => ?_)
      have s4 := s3.w e4
      refine wr_seq (wr_say _ _ _) (fun d5 e5 => ?_)
      have s5 := s4.w e5
      exact wr_nil
    · refine wr_ite Iff.rfl (fun h => ?_) (fun h => ?_)
      · refine wr_seq (wr_say _ _ _) (fun d6 e6 => ?_)
        have s6 := h0.w e6
        refine wr_seq (wr_n s6) (fun d7 e7 => ?_)
        have s7 := s6.w e7
        refine wr_seq (wr_one _ _ _) (fun d8 e8 => ?_)
        have s8 := s7.w e8
        exact wr_nil
      · refine wr_ite Iff.rfl (fun h => ?_) (fun h => ?_)
        · refine wr_seq (wr_say _ _ _) (fun d9 e9 => ?_)
          have s9 := h0.w e9
          refine wr_seq (w_indexName s9) (fun d10 e10 => ?_)
          have s10 := s9.w e10
          exact wr_nil
        · refine wr_ite Iff.rfl (fun h => ?_) (fun h => ?_)
          · refine wr_seq (wr_say _ _ _) (fun d11 e11 => ?_)
            have s11 := h0.w e11
            exact wr_nil
          · refine wr_ite Iff.rfl (fun h => ?_) (fun h => ?_)
            · refine wr_seq (wr_say _ _ _) (fun d12 e12 => ?_)
              have s12 := h0.w e12
              exact wr_nil
            · refine wr_seq (wr_say _ _ _) (fun d13 e13 => ?_)
              have s13 := h0.w e13
              exact wr_nil
def T_sumName_81 (op ix : Int32) (s0 : Int64) : List Tt := (sayT s0) ++ ([])
theorem w_sumName_81 {a op ix : Int32} {s0 : Int64} {d : vmD} (h0 : StW d op ix) : Wr a (MO_sumName_81 s0 d) d (T_sumName_81 op ix s0) := by
  unfold MO_sumName_81 T_sumName_81
  refine wr_seq (wr_say _ _ _) (fun d1 e1 => ?_)
  have s1 := h0.w e1
  exact wr_nil
def T_sumName (op ix : Int32) (x1 : Int32) : List Tt := if x1 = 0 then (T_sumName_81 op ix 71761456546092) else (if x1 = 1 then (T_sumName_81 op ix 71761439768876) else (if x1 = 2 then (T_sumName_81 op ix 1398096416) else (if x1 = 3 then (T_sumName_81 op ix 91544059134252) else (if x1 = 4 then (T_sumName_81 op ix 1095648288) else (if x1 = 5 then (T_sumName_81 op ix 1481593376) else (if x1 = 6 then (T_sumName_81 op ix 5198368) else (T_sumName_81 op ix 4411424)))))))
theorem w_sumName {a op ix : Int32} {x1 : Int32} {d : vmD} (h0 : StW d op ix) : Wr a (MO_sumName x1 d) d (T_sumName op ix x1) := by
  unfold MO_sumName T_sumName
  refine wr_ite Iff.rfl (fun h => ?_) (fun h => ?_)
  · exact (w_sumName_81 h0)
  · refine wr_ite Iff.rfl (fun h => ?_) (fun h => ?_)
    · exact (w_sumName_81 h0)
    · refine wr_ite Iff.rfl (fun h => ?_) (fun h => ?_)
      · exact (w_sumName_81 h0)
      · refine wr_ite Iff.rfl (fun h => ?_) (fun h => ?_)
        · exact (w_sumName_81 h0)
        · refine wr_ite Iff.rfl (fun h => ?_) (fun h => ?_)
          · exact (w_sumName_81 h0)
          · refine wr_ite Iff.rfl (fun h => ?_) (fun h => ?_)
            · exact (w_sumName_81 h0)
            · refine wr_ite Iff.rfl (fun h => ?_) (fun h => ?_)
              · exact (w_sumName_81 h0)
              · exact (w_sumName_81 h0)
def T_writeLast_135 (op ix : Int32) (s0 : Int64) : List Tt := (sayT s0) ++ ([])
theorem w_writeLast_135 {a op ix : Int32} {s0 : Int64} {d : vmD} (h0 : StW d op ix) : Wr a (MO_writeLast_135 s0 d) d (T_writeLast_135 op ix s0) := by
  unfold MO_writeLast_135 T_writeLast_135
  refine wr_seq (wr_say _ _ _) (fun d1 e1 => ?_)
  have s1 := h0.w e1
  exact wr_nil
def T_writeLast_202 (op ix : Int32) (x1 : Int32) : List Tt := (T_conditionName op ix x1) ++ (([(44, 0)]) ++ (([(0, 2)]) ++ ([])))
theorem w_writeLast_202 {a op ix : Int32} {x1 : Int32} {d : vmD} (h0 : StW d op ix) : Wr a (MO_writeLast_202 x1 d) d (T_writeLast_202 op ix x1) := by
  unfold MO_writeLast_202 T_writeLast_202
  refine wr_seq (w_conditionName h0) (fun d1 e1 => ?_)
  have s1 := h0.w e1
  refine wr_seq (wr_one _ _ _) (fun d2 e2 => ?_)
  have s2 := s1.w e2
  refine wr_seq (wr_m s2) (fun d3 e3 => ?_)
  have s3 := s2.w e3
  exact wr_nil
def T_writeLast_34 (op ix : Int32) (x1 : Int32) (x2 : Int32) (x3 : Int32) (s0 : Int32) : List Tt := if x2 = 0 then ((sayT 1380275232) ++ ((T_conditionName op ix x1) ++ ([]))) else (if x2 = 1 then (if s0 = 0 then ((sayT 1347375136) ++ ((T_pairName op ix x3 1) ++ ([]))) else (if x3 < 2 then (if x3 = 0 then (T_writeLast_135 op ix 5391700) else (T_writeLast_135 op ix 4544600)) else (if x3 = 2 then ((sayT 1246765096) ++ ((T_indexName op ix ) ++ (([(41, 0)]) ++ ([])))) else ((sayT 83855483818028) ++ ((T_indexName op ix ) ++ ([])))))) else (if x2 = 2 then (if x2 = 2 then ((sayT 4870176) ++ (T_writeLast_202 op ix x1)) else ((sayT 288858328096) ++ (T_writeLast_202 op ix x1))) else (if x2 = 3 then ((T_writeThird op ix x1) ++ ([])) else (if x2 = 4 then (if x2 = 2 then ((sayT 4870176) ++ (T_writeLast_202 op ix x1)) else ((sayT 288858328096) ++ (T_writeLast_202 op ix x1))) else (if x2 = 5 then (if s0 = 0 then ((sayT 345028904992) ++ ((T_pairName op ix x3 1) ++ ([]))) else ((sayT 288858328096) ++ (([(0, 2)]) ++ ([])))) else (if x2 = 6 then ((T_sumName op ix x1) ++ (([(0, 1)]) ++ ([]))) else ((sayT 1381192736) ++ ((litT (decL (((8 : Int32) * x1)).toNatClampNeg)) ++ ([])))))))))
theorem w_writeLast_34 {a op ix : Int32} {x1 : Int32} {x2 : Int32} {x3 : Int32} {s0 : Int32} {d : vmD} (h0 : StW d op ix) (hx1 : ∃ n, n < 8 ∧ x1 = nI n) : Wr a (MO_writeLast_34 x1 x2 x3 s0 d) d (T_writeLast_34 op ix x1 x2 x3 s0) := by
  unfold MO_writeLast_34 T_writeLast_34
  refine wr_ite Iff.rfl (fun h => ?_) (fun h => ?_)
  · refine wr_seq (wr_say _ _ _) (fun d1 e1 => ?_)
    have s1 := h0.w e1
    refine wr_seq (w_conditionName s1) (fun d2 e2 => ?_)
    have s2 := s1.w e2
    exact wr_nil
  · refine wr_ite Iff.rfl (fun h => ?_) (fun h => ?_)
    · refine wr_ite Iff.rfl (fun h => ?_) (fun h => ?_)
      · refine wr_seq (wr_say _ _ _) (fun d3 e3 => ?_)
        have s3 := h0.w e3
        refine wr_seq (w_pairName s3) (fun d4 e4 => ?_)
        have s4 := s3.w e4
        exact wr_nil
      · refine wr_ite Iff.rfl (fun h => ?_) (fun h => ?_)
        · refine wr_ite Iff.rfl (fun h => ?_) (fun h => ?_)
          · exact (w_writeLast_135 h0)
          · exact (w_writeLast_135 h0)
        · refine wr_ite Iff.rfl (fun h => ?_) (fun h => ?_)
          · refine wr_seq (wr_say _ _ _) (fun d5 e5 => ?_)
            have s5 := h0.w e5
            refine wr_seq (w_indexName s5) (fun d6 e6 => ?_)
            have s6 := s5.w e6
            refine wr_seq (wr_one _ _ _) (fun d7 e7 => ?_)
            have s7 := s6.w e7
            exact wr_nil
          · refine wr_seq (wr_say _ _ _) (fun d8 e8 => ?_)
            have s8 := h0.w e8
            refine wr_seq (w_indexName s8) (fun d9 e9 => ?_)
            have s9 := s8.w e9
            exact wr_nil
    · refine wr_ite Iff.rfl (fun h => ?_) (fun h => ?_)
      · refine wr_ite Iff.rfl (fun h => ?_) (fun h => ?_)
        · refine wr_seq (wr_say _ _ _) (fun d10 e10 => ?_)
          have s10 := h0.w e10
          exact (w_writeLast_202 s10)
        · refine wr_seq (wr_say _ _ _) (fun d11 e11 => ?_)
          have s11 := h0.w e11
          exact (w_writeLast_202 s11)
      · refine wr_ite Iff.rfl (fun h => ?_) (fun h => ?_)
        · refine wr_seq (w_writeThird h0) (fun d12 e12 => ?_)
          have s12 := h0.w e12
          exact wr_nil
        · refine wr_ite Iff.rfl (fun h => ?_) (fun h => ?_)
          · refine wr_ite Iff.rfl (fun h => ?_) (fun h => ?_)
            · refine wr_seq (wr_say _ _ _) (fun d13 e13 => ?_)
              have s13 := h0.w e13
              exact (w_writeLast_202 s13)
            · refine wr_seq (wr_say _ _ _) (fun d14 e14 => ?_)
              have s14 := h0.w e14
              exact (w_writeLast_202 s14)
          · refine wr_ite Iff.rfl (fun h => ?_) (fun h => ?_)
            · refine wr_ite Iff.rfl (fun h => ?_) (fun h => ?_)
              · refine wr_seq (wr_say _ _ _) (fun d15 e15 => ?_)
                have s15 := h0.w e15
                refine wr_seq (w_pairName s15) (fun d16 e16 => ?_)
                have s16 := s15.w e16
                exact wr_nil
              · refine wr_seq (wr_say _ _ _) (fun d17 e17 => ?_)
                have s17 := h0.w e17
                refine wr_seq (wr_m s17) (fun d18 e18 => ?_)
                have s18 := s17.w e18
                exact wr_nil
            · refine wr_ite Iff.rfl (fun h => ?_) (fun h => ?_)
              · refine wr_seq (w_sumName h0) (fun d19 e19 => ?_)
                have s19 := h0.w e19
                refine wr_seq (wr_n s19) (fun d20 e20 => ?_)
                have s20 := s19.w e20
                exact wr_nil
              · refine wr_seq (wr_say _ _ _) (fun d21 e21 => ?_)
                have s21 := h0.w e21
                refine wr_seq (wr_num _ (by first | exact nb_7 hx1 | exact nb_m1 hx1 ‹_› | exact nb_x8 hx1 | exact hs0 | exact nb_0 | exact hx1 | exact b7_and _) _) (fun d22 e22 => ?_)
                have s22 := s21.w e22
                exact wr_nil
def T_writeLast (op ix : Int32) : List Tt := if ((((op >>> ((3 : Int32) &&& 31)) &&& 7)) &&& 1) = 1 then (T_writeLast_34 op ix (((op >>> ((3 : Int32) &&& 31)) &&& 7)) ((op &&& 7)) (((((op >>> ((3 : Int32) &&& 31)) &&& 7)) >>> ((1 : Int32) &&& 31))) 1) else (T_writeLast_34 op ix (((op >>> ((3 : Int32) &&& 31)) &&& 7)) ((op &&& 7)) (((((op >>> ((3 : Int32) &&& 31)) &&& 7)) >>> ((1 : Int32) &&& 31))) 0)
theorem w_writeLast {a op ix : Int32} {d : vmD} (h0 : StW d op ix) : Wr a (MO_writeLast  d) d (T_writeLast op ix ) := by
  unfold MO_writeLast T_writeLast
  refine wr_bnd ?_
  try rw [h0.1]
  refine wr_bnd ?_
  try rw [h0.1]
  refine wr_bnd ?_
  refine wr_ite Iff.rfl (fun h => ?_) (fun h => ?_)
  · exact (w_writeLast_34 h0 (by first | exact nb_7 hx1 | exact nb_m1 hx1 ‹_› | exact nb_x8 hx1 | exact hs0 | exact nb_0 | exact hx1 | exact b7_and _))
  · exact (w_writeLast_34 h0 (by first | exact nb_7 hx1 | exact nb_m1 hx1 ‹_› | exact nb_x8 hx1 | exact hs0 | exact nb_0 | exact hx1 | exact b7_and _))
