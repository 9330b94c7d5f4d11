/-! Behind the constructors both sides are related -/
def Iv0 (d : vmD) : Prop := (∀ o f, (o, f) ∈ [(19, 10), (20, 9), (42, 75)] ∨ gF d o f = 0) ∧ (∀ o f, gG d o f = 0) ∧ (∀ o j, (o ∈ [1000, 16, 17, 18] ∨ (o = 39 ∧ j = 10)) ∨ gA d o j = 0)
def Iv4 (d : vmD) : Prop := ∀ i, i < 107 → gL d 4 i = tabN i
def IvS (d : vmD) : Prop := (∀ j, j < 1792 → gA d 16 j = tabS j ∧ gA d 17 j = tabX j) ∧ ∀ w, w < 107 → gA d 18 w = tabF w
theorem u2_at {α : Type} (f : Nat → Nat → α) (o k : Nat) (v : α) (a b : Nat) : up2 f o k v a b = if a = o ∧ b = k then v else f a b := rfl
theorem Iv0.sF0 {d : vmD} {o f : Nat} (h : Iv0 d) : Iv0 (sF d o f 0) := by
  refine ⟨fun a b => ?_, h.2.1, h.2.2⟩
  show _ ∨ up2 d.1 o f 0 a b = 0
  rw [u2_at]
  by_cases z : a = o ∧ b = f
  · rw [if_pos z]; exact Or.inr rfl
  · rw [if_neg z]; exact h.1 a b
theorem Iv0.sFx {d : vmD} {o f : Nat} {v : Int32} (h : Iv0 d) (hm : (o, f) ∈ [(19, 10), (20, 9), (42, 75)]) : Iv0 (sF d o f v) := by
  refine ⟨fun a b => ?_, h.2.1, h.2.2⟩
  show _ ∨ up2 d.1 o f v a b = 0
  rw [u2_at]
  by_cases z : a = o ∧ b = f
  · obtain ⟨rfl, rfl⟩ := z
    exact Or.inl hm
  · rw [if_neg z]; exact h.1 a b
theorem Iv0.sG0 {d : vmD} {o f : Nat} (h : Iv0 d) : Iv0 (sG d o f 0) := by
  refine ⟨h.1, fun a b => ?_, h.2.2⟩
  show up2 d.2.1 o f 0 a b = 0
  rw [u2_at]
  by_cases z : a = o ∧ b = f
  · rw [if_pos z]
  · rw [if_neg z]; exact h.2.1 a b
theorem Iv0.sAx {d : vmD} {v : Int32} (h : Iv0 d) : Iv0 (sA d 39 10 v) := by
  refine ⟨h.1, h.2.1, fun a b => ?_⟩
  show _ ∨ up2 d.2.2.1 39 10 v a b = 0
  rw [u2_at]
  by_cases z : a = 39 ∧ b = 10
  · exact Or.inl (Or.inr z)
  · rw [if_neg z]; exact h.2.2 a b
theorem Iv0.sA0 {d : vmD} {o f : Nat} (h : Iv0 d) : Iv0 (sA d o f 0) := by
  refine ⟨h.1, h.2.1, fun a b => ?_⟩
  show _ ∨ up2 d.2.2.1 o f 0 a b = 0
  rw [u2_at]
  by_cases z : a = o ∧ b = f
  · rw [if_pos z]; exact Or.inr rfl
  · rw [if_neg z]; exact h.2.2 a b
theorem Iv0.sA18 {d : vmD} {f : Nat} {v : Int32} (h : Iv0 d) : Iv0 (sA d 18 f v) := by
  refine ⟨h.1, h.2.1, fun a b => ?_⟩
  show _ ∨ up2 d.2.2.1 18 f v a b = 0
  rw [u2_at]
  by_cases z : a = 18 ∧ b = f
  · obtain ⟨rfl, -⟩ := z
    exact Or.inl (Or.inl (by decide))
  · rw [if_neg z]; exact h.2.2 a b
theorem Iv0.fill0 {d : vmD} {o : Nat} (h : Iv0 d) : ∀ n, Iv0 (fillA d o 0 n)
  | 0 => h
  | n + 1 => (Iv0.fill0 h n).sA0
theorem Iv0.fill18 {d : vmD} {v : Int32} (h : Iv0 d) : ∀ n, Iv0 (fillA d 18 v n)
  | 0 => h
  | n + 1 => (Iv0.fill18 h n).sA18
theorem Iv0.rsv {d : vmD} (h : Iv0 d) (s : List Int32) (id : Nat) : Iv0 (rsvF s id d) := by
  obtain ⟨m1, m2, m3, m4⟩ := rsvF_fr s id d
  refine ⟨fun o f => ?_, fun o f => ?_, fun o j => ?_⟩
  · rw [m1 o f List.not_mem_nil]; exact h.1 o f
  · rw [m4]; exact h.2.1 o f
  · rw [m2 o List.not_mem_nil]; exact h.2.2 o j
theorem Iv0.mod {d d' : vmD} (h : Iv0 d) (m : ModC [] [16, 17, 18] [] d d') : Iv0 d' := by
  obtain ⟨m1, m2, m3, m4⟩ := m
  refine ⟨fun o f => ?_, fun o f => ?_, fun o j => ?_⟩
  · rw [m1 o f List.not_mem_nil]; exact h.1 o f
  · rw [m4]; exact h.2.1 o f
  · by_cases z : o ∈ [16, 17, 18]
    · exact Or.inl (Or.inl (List.mem_cons_of_mem _ z))
    · rw [m2 o z]; exact h.2.2 o j
theorem Iv4.sF {d : vmD} {o f : Nat} {v : Int32} (h : Iv4 d) : Iv4 (sF d o f v) := h
theorem Iv4.sG {d : vmD} {o f : Nat} {v : Int64} (h : Iv4 d) : Iv4 (sG d o f v) := h
theorem Iv4.sA {d : vmD} {o f : Nat} {v : Int32} (h : Iv4 d) : Iv4 (sA d o f v) := h
theorem Iv4.fill {d : vmD} {o : Nat} {v : Int32} (h : Iv4 d) (n : Nat) : Iv4 (fillA d o v n) := fun i hi => by
  rw [fillA_L]; exact h i hi
theorem Iv4.mod {d d' : vmD} (h : Iv4 d) (m : ModC [] [16, 17, 18] [] d d') : Iv4 d' := fun i hi => by
  rw [m.2.2.1 4 List.not_mem_nil]; exact h i hi
theorem IvS.sF {d : vmD} {o f : Nat} {v : Int32} (h : IvS d) : IvS (sF d o f v) := h
theorem IvS.sG {d : vmD} {o f : Nat} {v : Int64} (h : IvS d) : IvS (sG d o f v) := h
theorem IvS.eq {d e : vmD} (h : IvS d) (h1 : gA e 16 = gA d 16) (h2 : gA e 17 = gA d 17) (h3 : gA e 18 = gA d 18) : IvS e := by
  unfold IvS
  rw [h1, h2, h3]
  exact h
theorem IvS.sA {d : vmD} {o f : Nat} {v : Int32} (h : IvS d) (ho : 18 < o) : IvS (sA d o f v) := h.eq (gA_sA_ne _ _ _ (by omega)) (gA_sA_ne _ _ _ (by omega)) (gA_sA_ne _ _ _ (by omega))
theorem IvS.fill {d : vmD} {o : Nat} {v : Int32} (h : IvS d) (ho : 18 < o) (n : Nat) : IvS (fillA d o v n) := h.eq (fillA_A _ _ (by omega)) (fillA_A _ _ (by omega)) (fillA_A _ _ (by omega))
theorem Iv0.F {d : vmD} (h : Iv0 d) (o f : Nat) (hm : ¬ (o, f) ∈ [(19, 10), (20, 9), (42, 75)]) : gF d o f = 0 := (h.1 o f).resolve_left hm
theorem Iv0.A {d : vmD} (h : Iv0 d) (o j : Nat) (hm : ¬ (o ∈ [1000, 16, 17, 18] ∨ (o = 39 ∧ j = 10))) : gA d o j = 0 := (h.2.2 o j).resolve_left hm
theorem rel_of {d : vmD} (h : Iv0 d) (h4 : Iv4 d) (hS : IvS d) (h39 : gA d 39 10 = 65535) (h42 : gF d 42 75 = 65535) : Rel d d := by
  have o0 : oct (0 : Int32) := ⟨0, by omega, rfl⟩
  have w0 : wrd (0 : Int32) := ⟨0, by omega, rfl⟩
  refine ⟨⟨h4, fun i hi => (hS.1 i hi).1, fun i hi => (hS.1 i hi).2, hS.2⟩, fun a _ => ?_, ⟨0, by omega, ?_, ?_, fun i hi => absurd hi (Nat.not_lt_zero i)⟩, ⟨0, by omega, ?_, ?_, fun i hi => absurd hi (Nat.not_lt_zero i)⟩, ⟨0, by omega, ?_, ?_, fun i hi => absurd hi (Nat.not_lt_zero i)⟩, ⟨?_, ?_, ?_, ?_, ?_⟩, ?_, ⟨fun p _ => ?_, ?_⟩, ?_⟩
  · rw [h.A 55 a (by simp), h.A 2 a (by simp)]; rfl
  · exact h.F 9 1 (by decide)
  · exact h.F 42 1 (by decide)
  · exact h.F 3 5 (by decide)
  · exact h.F 42 51 (by decide)
  · exact h.F 13 1 (by decide)
  · exact h.F 42 68 (by decide)
  · rw [h.F 21 0 (by decide), h.F 42 46 (by decide)]
  · rw [h.F 21 1 (by decide), h.F 42 47 (by decide)]
  · rw [h.F 20 14 (by decide), h.F 42 48 (by decide)]
  · rw [h.F 20 15 (by decide), h.F 42 49 (by decide)]
  · rw [h.F 20 16 (by decide), h.F 42 50 (by decide)]
  · have a39 : ∀ j, ¬ j = 10 → gA d 39 j = 0 := fun j hj => h.A 39 j (by simp [hj])
    have a65 : ∀ j, gA d 65 j = 0 := fun j => h.A 65 j (by simp)
    have a66 : ∀ j, gA d 66 j = 0 := fun j => h.A 66 j (by simp)
    have a67 : ∀ j, gA d 67 j = 0 := fun j => h.A 67 j (by simp)
    refine ⟨fun k _ => by rw [a65, a66]; exact ⟨o0, o0⟩, ?_, ?_, ?_, ?_, ?_, ?_, ?_, ?_, ?_, ?_, ?_, ?_, ?_, ?_, ?_, ?_, ?_⟩
    · rw [a39 0 (by decide), a65, a65]; rfl
    · rw [a39 1 (by decide), a65, a65]; rfl
    · rw [a39 2 (by decide), a65, a65]; rfl
    · rw [a39 3 (by decide), a65, a65]; rfl
    · rw [a39 4 (by decide), a66, a66]; rfl
    · rw [a39 5 (by decide), a66, a66]; rfl
    · rw [a39 6 (by decide), a66, a66]; rfl
    · rw [a39 7 (by decide), a66, a66]; rfl
    · rw [a39 8 (by decide), a67]; exact ⟨rfl, w0⟩
    · rw [a39 9 (by decide), a67]; exact ⟨rfl, w0⟩
    · rw [h39, h42]; exact ⟨rfl, ⟨65535, by omega, rfl⟩⟩
    · rw [a39 11 (by decide), h.F 42 76 (by decide)]; exact ⟨rfl, w0⟩
    · rw [a39 12 (by decide), h.F 42 72 (by decide)]; exact ⟨rfl, o0⟩
    · rw [a39 13 (by decide), h.F 42 73 (by decide)]; exact ⟨rfl, o0⟩
    · rw [a39 14 (by decide), h.F 42 77 (by decide)]; exact ⟨rfl, Or.inl rfl⟩
    · rw [a39 15 (by decide), h.F 42 78 (by decide)]; exact ⟨rfl, Or.inl rfl⟩
    · rw [a39 16 (by decide), h.F 42 79 (by decide)]; exact ⟨rfl, Or.inl rfl⟩
  · rw [h.A 40 p (by simp), h.A 68 p (by simp), h.A 41 p (by simp), h.A 69 p (by simp)]; exact ⟨rfl, o0, rfl⟩
  · rw [h.2.1 38 5, h.2.1 42 86]
  · refine ⟨?_, ?_, ?_, Or.inl ?_, Or.inl ?_, Or.inl ?_, fun q => ?_⟩
    · rw [h.F 38 6 (by decide), h.F 42 83 (by decide)]
    · rw [h.F 38 7 (by decide), h.F 42 82 (by decide)]
    · rw [h.F 38 9 (by decide), h.F 42 85 (by decide)]
    · exact h.F 38 6 (by decide)
    · exact h.F 38 7 (by decide)
    · exact h.F 38 9 (by decide)
    · rw [h.F 38 6 (by decide)] at q
      exact absurd q (by decide)
theorem ctd_rel {d0 d59 : vmD} (i0 : Iv0 d0) (z0 : gL d0 4 = fun _ => 0) (h : Ctd d0 d59) : Rel d59 d59 := by
  obtain ⟨d1, d2, d3, d4, d5, d6, d7, d8, d9, d10, d11, d12, d13, d14, d15, d16, d17, d18, d19, d20, d21, d22, d23, d24, d25, d26, d27, d28, d29, d30, d31, d32, d33, d34, d35, d36, d37, d38, d39, d40, d41, d42, d43, d44, d45, d46, d47, d48, d49, d50, d51, d52, d53, d54, d55, d56, d57, d58, e1, e2, e3, e4, e5, e6, e7, e8, e9, e10, e11, e12, e13, e14, e15, e16, e17, e18, e19, e20, e21, e22, e23, e24, e25, e26, e27, e28, e29, e30, e31, e32, e33, e34, e35, e36, e37, e38, e39, e40, e41, e42, e43, e44, e45, e46, e47, e48, e49, e50, e51, e52, e53, e54, e55, e56, e57, e58, e59⟩ := h
  have i1 : Iv0 d1 := by rw [e1]; exact i0.sF0
  have i2 : Iv0 d2 := by rw [e2]; exact i1.sF0
  have i3 : Iv0 d3 := by rw [e3]; exact i2.rsv _ _
  have i4 : Iv0 d4 := by rw [e4]; exact i3.rsv _ _
  have i5 : Iv0 d5 := by rw [e5]; exact i4.rsv _ _
  have i6 : Iv0 d6 := by rw [e6]; exact i5.rsv _ _
  have i7 : Iv0 d7 := by rw [e7]; exact i6.rsv _ _
  have i8 : Iv0 d8 := by rw [e8]; exact i7.rsv _ _
  have k8 : Iv4 d8 := fun i hi => by
    rw [e8, rsvF_A, e7, rsvF_A, e6, rsvF_A, e5, rsvF_A, e4, rsvF_A, e3, rsvF_A, show gL d2 4 = (fun _ => 0) by rw [e2, e1]; exact z0]
    exact of_decide_eq_true (rg_all rvA_tab hi)
  have i9 : Iv0 d9 := by rw [e9]; exact i8.sF0
  have k9 : Iv4 d9 := by rw [e9]; exact k8.sF
  have i10 : Iv0 d10 := by rw [e10]; exact i9.sF0
  have k10 : Iv4 d10 := by rw [e10]; exact k9.sF
  have i11 : Iv0 d11 := by rw [e11]; exact i10.sF0
  have k11 : Iv4 d11 := by rw [e11]; exact k10.sF
  have i12 : Iv0 d12 := by rw [e12]; exact i11.fill18 _
  have k12 : Iv4 d12 := by rw [e12]; exact k11.fill _
  have i13 : Iv0 d13 := by exact i12.mod e13.1
  have k13 : Iv4 d13 := by exact k12.mod e13.1
  have s13 : IvS d13 := by exact e13.2
  have i14 : Iv0 d14 := by rw [e14]; exact i13.sF0
  have k14 : Iv4 d14 := by rw [e14]; exact k13.sF
  have s14 : IvS d14 := by rw [e14]; exact s13.sF
  have i15 : Iv0 d15 := by rw [e15]; exact i14.sF0
  have k15 : Iv4 d15 := by rw [e15]; exact k14.sF
  have s15 : IvS d15 := by rw [e15]; exact s14.sF
  have i16 : Iv0 d16 := by rw [e16]; exact i15.sF0
  have k16 : Iv4 d16 := by rw [e16]; exact k15.sF
  have s16 : IvS d16 := by rw [e16]; exact s15.sF
  have i17 : Iv0 d17 := by rw [e17]; exact i16.sF0
  have k17 : Iv4 d17 := by rw [e17]; exact k16.sF
  have s17 : IvS d17 := by rw [e17]; exact s16.sF
  have i18 : Iv0 d18 := by rw [e18]; exact i17.sF0
  have k18 : Iv4 d18 := by rw [e18]; exact k17.sF
  have s18 : IvS d18 := by rw [e18]; exact s17.sF
  have i19 : Iv0 d19 := by rw [e19]; exact i18.sF0
  have k19 : Iv4 d19 := by rw [e19]; exact k18.sF
  have s19 : IvS d19 := by rw [e19]; exact s18.sF
  have i20 : Iv0 d20 := by rw [e20]; exact i19.sF0
  have k20 : Iv4 d20 := by rw [e20]; exact k19.sF
  have s20 : IvS d20 := by rw [e20]; exact s19.sF
  have i21 : Iv0 d21 := by rw [e21]; exact i20.sFx (by decide)
  have k21 : Iv4 d21 := by rw [e21]; exact k20.sF
  have s21 : IvS d21 := by rw [e21]; exact s20.sF
  have i22 : Iv0 d22 := by rw [e22]; exact i21.sF0
  have k22 : Iv4 d22 := by rw [e22]; exact k21.sF
  have s22 : IvS d22 := by rw [e22]; exact s21.sF
  have i23 : Iv0 d23 := by rw [e23]; exact i22.sF0
  have k23 : Iv4 d23 := by rw [e23]; exact k22.sF
  have s23 : IvS d23 := by rw [e23]; exact s22.sF
  have i24 : Iv0 d24 := by rw [e24]; exact i23.sF0
  have k24 : Iv4 d24 := by rw [e24]; exact k23.sF
  have s24 : IvS d24 := by rw [e24]; exact s23.sF
  have i25 : Iv0 d25 := by rw [e25]; exact i24.sF0
  have k25 : Iv4 d25 := by rw [e25]; exact k24.sF
  have s25 : IvS d25 := by rw [e25]; exact s24.sF
  have i26 : Iv0 d26 := by rw [e26]; exact i25.sFx (by decide)
  have k26 : Iv4 d26 := by rw [e26]; exact k25.sF
  have s26 : IvS d26 := by rw [e26]; exact s25.sF
  have i27 : Iv0 d27 := by rw [e27]; exact i26.sF0
  have k27 : Iv4 d27 := by rw [e27]; exact k26.sF
  have s27 : IvS d27 := by rw [e27]; exact s26.sF
  have i28 : Iv0 d28 := by rw [e28]; exact i27.sF0
  have k28 : Iv4 d28 := by rw [e28]; exact k27.sF
  have s28 : IvS d28 := by rw [e28]; exact s27.sF
  have i29 : Iv0 d29 := by rw [e29]; exact i28.sF0
  have k29 : Iv4 d29 := by rw [e29]; exact k28.sF
  have s29 : IvS d29 := by rw [e29]; exact s28.sF
  have i30 : Iv0 d30 := by rw [e30]; exact i29.sF0
  have k30 : Iv4 d30 := by rw [e30]; exact k29.sF
  have s30 : IvS d30 := by rw [e30]; exact s29.sF
  have i31 : Iv0 d31 := by rw [e31]; exact i30.sF0
  have k31 : Iv4 d31 := by rw [e31]; exact k30.sF
  have s31 : IvS d31 := by rw [e31]; exact s30.sF
  have i32 : Iv0 d32 := by rw [e32]; exact i31.sF0
  have k32 : Iv4 d32 := by rw [e32]; exact k31.sF
  have s32 : IvS d32 := by rw [e32]; exact s31.sF
  have i33 : Iv0 d33 := by rw [e33]; exact i32.sF0
  have k33 : Iv4 d33 := by rw [e33]; exact k32.sF
  have s33 : IvS d33 := by rw [e33]; exact s32.sF
  have i34 : Iv0 d34 := by rw [e34]; exact i33.sF0
  have k34 : Iv4 d34 := by rw [e34]; exact k33.sF
  have s34 : IvS d34 := by rw [e34]; exact s33.sF
  have i35 : Iv0 d35 := by rw [e35]; exact i34.sF0
  have k35 : Iv4 d35 := by rw [e35]; exact k34.sF
  have s35 : IvS d35 := by rw [e35]; exact s34.sF
  have i36 : Iv0 d36 := by rw [e36]; exact i35.sF0
  have k36 : Iv4 d36 := by rw [e36]; exact k35.sF
  have s36 : IvS d36 := by rw [e36]; exact s35.sF
  have i37 : Iv0 d37 := by rw [e37]; exact i36.sF0
  have k37 : Iv4 d37 := by rw [e37]; exact k36.sF
  have s37 : IvS d37 := by rw [e37]; exact s36.sF
  have i38 : Iv0 d38 := by rw [e38]; exact i37.sF0
  have k38 : Iv4 d38 := by rw [e38]; exact k37.sF
  have s38 : IvS d38 := by rw [e38]; exact s37.sF
  have i39 : Iv0 d39 := by rw [e39]; exact i38.sF0
  have k39 : Iv4 d39 := by rw [e39]; exact k38.sF
  have s39 : IvS d39 := by rw [e39]; exact s38.sF
  have i40 : Iv0 d40 := by rw [e40]; exact i39.sF0
  have k40 : Iv4 d40 := by rw [e40]; exact k39.sF
  have s40 : IvS d40 := by rw [e40]; exact s39.sF
  have i41 : Iv0 d41 := by rw [e41]; exact i40.sF0
  have k41 : Iv4 d41 := by rw [e41]; exact k40.sF
  have s41 : IvS d41 := by rw [e41]; exact s40.sF
  have i42 : Iv0 d42 := by rw [e42]; exact i41.sF0
  have k42 : Iv4 d42 := by rw [e42]; exact k41.sF
  have s42 : IvS d42 := by rw [e42]; exact s41.sF
  have i43 : Iv0 d43 := by rw [e43]; exact i42.sF0
  have k43 : Iv4 d43 := by rw [e43]; exact k42.sF
  have s43 : IvS d43 := by rw [e43]; exact s42.sF
  have i44 : Iv0 d44 := by rw [e44]; exact i43.sF0
  have k44 : Iv4 d44 := by rw [e44]; exact k43.sF
  have s44 : IvS d44 := by rw [e44]; exact s43.sF
  have i45 : Iv0 d45 := by rw [e45]; exact i44.sG0
  have k45 : Iv4 d45 := by rw [e45]; exact k44.sG
  have s45 : IvS d45 := by rw [e45]; exact s44.sG
  have i46 : Iv0 d46 := by rw [e46]; exact i45.sF0
  have k46 : Iv4 d46 := by rw [e46]; exact k45.sF
  have s46 : IvS d46 := by rw [e46]; exact s45.sF
  have i47 : Iv0 d47 := by rw [e47]; exact i46.sF0
  have k47 : Iv4 d47 := by rw [e47]; exact k46.sF
  have s47 : IvS d47 := by rw [e47]; exact s46.sF
  have i48 : Iv0 d48 := by rw [e48]; exact i47.sF0
  have k48 : Iv4 d48 := by rw [e48]; exact k47.sF
  have s48 : IvS d48 := by rw [e48]; exact s47.sF
  have i49 : Iv0 d49 := by rw [e49]; exact i48.sF0
  have k49 : Iv4 d49 := by rw [e49]; exact k48.sF
  have s49 : IvS d49 := by rw [e49]; exact s48.sF
  have i50 : Iv0 d50 := by rw [e50]; exact i49.fill0 _
  have k50 : Iv4 d50 := by rw [e50]; exact k49.fill _
  have s50 : IvS d50 := by rw [e50]; exact s49.fill (by decide) _
  have i51 : Iv0 d51 := by rw [e51]; exact i50.fill0 _
  have k51 : Iv4 d51 := by rw [e51]; exact k50.fill _
  have s51 : IvS d51 := by rw [e51]; exact s50.fill (by decide) _
  have i52 : Iv0 d52 := by rw [e52]; exact i51.fill0 _
  have k52 : Iv4 d52 := by rw [e52]; exact k51.fill _
  have s52 : IvS d52 := by rw [e52]; exact s51.fill (by decide) _
  have i53 : Iv0 d53 := by rw [e53]; exact i52.sAx
  have k53 : Iv4 d53 := by rw [e53]; exact k52.sA
  have s53 : IvS d53 := by rw [e53]; exact s52.sA (by decide)
  have i54 : Iv0 d54 := by rw [e54]; exact i53.sG0
  have k54 : Iv4 d54 := by rw [e54]; exact k53.sG
  have s54 : IvS d54 := by rw [e54]; exact s53.sG
  have i55 : Iv0 d55 := by rw [e55]; exact i54.sF0
  have k55 : Iv4 d55 := by rw [e55]; exact k54.sF
  have s55 : IvS d55 := by rw [e55]; exact s54.sF
  have i56 : Iv0 d56 := by rw [e56]; exact i55.sF0
  have k56 : Iv4 d56 := by rw [e56]; exact k55.sF
  have s56 : IvS d56 := by rw [e56]; exact s55.sF
  have i57 : Iv0 d57 := by rw [e57]; exact i56.sF0
  have k57 : Iv4 d57 := by rw [e57]; exact k56.sF
  have s57 : IvS d57 := by rw [e57]; exact s56.sF
  have i58 : Iv0 d58 := by rw [e58]; exact i57.sF0
  have k58 : Iv4 d58 := by rw [e58]; exact k57.sF
  have s58 : IvS d58 := by rw [e58]; exact s57.sF
  have i59 : Iv0 d59 := by rw [e59]; exact i58.sFx (by decide)
  have k59 : Iv4 d59 := by rw [e59]; exact k58.sF
  have s59 : IvS d59 := by rw [e59]; exact s58.sF
  refine rel_of i59 k59 s59 ?_ ?_
  · rw [e59, e58, e57, e56, e55, e54, e53]
    show up2 d52.2.2.1 39 10 65535 39 10 = 65535
    rw [u2_at, if_pos ⟨rfl, rfl⟩]
  · rw [e59]
    show up2 d58.1 42 75 65535 42 75 = 65535
    rw [u2_at, if_pos ⟨rfl, rfl⟩]
