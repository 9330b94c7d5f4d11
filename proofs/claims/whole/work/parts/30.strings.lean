/-! String's length, charAt, indexOf on the seven constants -/
def PS (rx adV : Nat → Nat) (U : State) : Prop := vk_S 7 strLen strByt (fun i => rx (vmBase + i)) adV (fun _ => False) U U.heap ∧ va_Z "java/lang/String" "COMPACT_STRINGS" "Z" (.int 1) (fun _ => False) U U.heap ∧ va_Zq "jdk/internal/util/Preconditions" "SIOOBE_FORMATTER" "Ljava/util/function/BiFunction;" (fun _ => False) U U.heap
theorem PS.same {rx adV : Nat → Nat} {U V : State} (hh : V.heap = U.heap) (hv : V.vm = U.vm) (h : PS rx adV U) : PS rx adV V := by
  obtain ⟨h1, h3, h4⟩ := h
  have ha : U.vm.Alike V.vm := by rw [hv]; exact Vm.Alike.refl U.vm
  exact ⟨by rw [hh]; exact h1.moved ha, by rw [hh]; exact h3.moved ha, by rw [hh]; exact h4.moved ha⟩
theorem PS.of {rx adV : Nat → Nat} {A : Nat → Prop} {s U : State} {H : Heap} {locs : List Loc} (h1 : vk_S 7 strLen strByt (fun i => rx (vmBase + i)) adV A s s.heap) (h3 : va_Z "java/lang/String" "COMPACT_STRINGS" "Z" (.int 1) A s s.heap) (h4 : va_Zq "jdk/internal/util/Preconditions" "SIOOBE_FORMATTER" "Ljava/util/function/BiFunction;" A s s.heap) (hS : va_S A s.heap H locs) (hU : U.heap = H) (hW : s.WarmedH U.vm) : PS rx adV U := by
  have hq : ∀ a : Nat, a < s.heap.size → ¬ A a → H[a]? = s.heap[a]? := hS.2.1
  exact ⟨by rw [hU]; exact ((h1.kept hq).narrow (fun _ h => h.elim)).moved hW.alike, by rw [hU]; exact ((h3.kept hq).narrow (fun _ h => h.elim)).moved hW.alike, by rw [hU]; exact ((h4.kept hq).narrow (fun _ h => h.elim)).moved hW.alike⟩
theorem PS.pass {rx adV : Nat → Nat} {s U : State} (h : PS rx adV s) (hU : U.heap = s.heap) (hW : s.WarmedH U.vm) : PS rx adV U := PS.of h.1 h.2.1 h.2.2 (va_S.rf) hU hW
noncomputable def wsJ (y : MethodName) (cc : ByteArray) (n : Nat) (ret : Option FieldType) : List Cond := .code y cc n ret :: TB
def rmS (f lo : Nat) : Room := { frames := f, cells := 0, slots := 0, locals := lo }
theorem wsJ_good {y : MethodName} {cc : ByteArray} {n : Nat} {ret : Option FieldType} (h : Cond.code y cc n ret ∈ TB) : GoodIn TB (wsJ y cc n ret) := by
  intro w hw
  rcases List.mem_cons.mp hw with rfl | hw
  · exact ⟨h, good_of_word (TB_good h)⟩
  · exact ⟨hw, good_of_word (TB_good hw)⟩
set_option maxRecDepth 1000000 in
theorem sB_small : (List.range 7).all (fun v => (sB v).all (fun b => decide (((b &&& 255).toUInt32 % 65536).toInt32 = b) && (List.range 128).any (fun i => decide (b = Int32.ofNat i)))) = true := by decide +kernel
theorem sB_len7 : (List.range 7).all (fun v => decide (strLen.getD v 0 = (sB v).length ∧ strByt.getD v [] = sB v ∧ (sB v).length < 128)) = true := by decide +kernel
theorem sB_lens {v : Nat} (hv : v < 7) : strLen.getD v 0 = (sB v).length ∧ strByt.getD v [] = sB v ∧ (sB v).length < 128 := of_decide_eq_true (List.all_eq_true.mp sB_len7 v (List.mem_range.mpr hv))
theorem sB_chr {v j : Nat} (hv : v < 7) (hj : j < (sB v).length) : ((((sB v).getD j 0) &&& 255).toUInt32 % 65536).toInt32 = (sB v).getD j 0 ∧ ∃ i, i < 128 ∧ (sB v).getD j 0 = Int32.ofNat i := by
  have h := List.all_eq_true.mp (List.all_eq_true.mp sB_small v (List.mem_range.mpr hv)) ((sB v).getD j 0) (by rw [List.getD_eq_getElem?_getD, List.getElem?_eq_getElem hj]; exact List.getElem_mem hj)
  obtain ⟨h1, h2⟩ := Bool.and_eq_true_iff.mp h
  obtain ⟨i, hi, h3⟩ := List.any_eq_true.mp h2
  exact ⟨of_decide_eq_true h1, i, List.mem_range.mp hi, of_decide_eq_true h3⟩
set_option maxRecDepth 1000000 in
theorem i2b_all : (List.range 128).all (fun i => (List.range 256).all (fun j => decide (Int32.ofNat i = (Int32.ofNat j).toInt8.toInt32) == decide (Int32.ofNat i = Int32.ofNat j))) = true := by decide +kernel
theorem i2b_eq {i j : Nat} (hi : i < 128) (hj : j < 256) : Int32.ofNat i = (Int32.ofNat j).toInt8.toInt32 ↔ Int32.ofNat i = Int32.ofNat j := by
  have h := List.all_eq_true.mp (List.all_eq_true.mp i2b_all i (List.mem_range.mpr hi)) j (List.mem_range.mpr hj)
  have h := eq_of_beq h
  constructor
  · intro e
    exact of_decide_eq_true (by rw [← h]; exact decide_eq_true e)
  · intro e
    exact of_decide_eq_true (by rw [h]; exact decide_eq_true e)
theorem vmIx_none {c : Int32} : ∀ {l : List Int32} {k : Nat}, (∀ b ∈ l, ¬ b = c) → vmIx c l k = -1
  | [], _, _ => rfl
  | b :: l, k, h => by
    unfold vmIx
    rw [if_neg (h b List.mem_cons_self)]
    exact vmIx_none (fun x hx => h x (List.mem_cons_of_mem _ hx))
set_option maxRecDepth 1000000 in
theorem tc_J0_length_8abf5 : Cond.code yJ0_length_8abf5 cJ0_length_8abf5 1 (some .int) ∈ TB := ckAt_TB (i := 281) (by decide +kernel)
set_option maxRecDepth 1000000 in
theorem ti_J0_length_8abf5 : Cond.instanceMethod yJ0_length_8abf5 ∈ TB := ckAt_TB (i := 279) (by decide +kernel)
set_option maxRecDepth 1000000 in
theorem ts_J0_length_8abf5 : Cond.selects RJ0 yJ0_length_8abf5 yJ0_length_8abf5 ∈ TB := ckAt_TB (i := 280) (by decide +kernel)
set_option maxRecDepth 1000000 in
theorem tc_J0_coder_7d493 : Cond.code yJ0_coder_7d493 cJ0_coder_7d493 1 (some .byte) ∈ TB := ckAt_TB (i := 285) (by decide +kernel)
set_option maxRecDepth 1000000 in
theorem ti_J0_coder_7d493 : Cond.instanceMethod yJ0_coder_7d493 ∈ TB := ckAt_TB (i := 283) (by decide +kernel)
set_option maxRecDepth 1000000 in
theorem ts_J0_coder_7d493 : Cond.selects RJ0 yJ0_coder_7d493 yJ0_coder_7d493 ∈ TB := ckAt_TB (i := 284) (by decide +kernel)
set_option maxRecDepth 1000000 in
theorem tc_J0_charAt_5068e : Cond.code yJ0_charAt_5068e cJ0_charAt_5068e 2 (some .char) ∈ TB := ckAt_TB (i := 291) (by decide +kernel)
set_option maxRecDepth 1000000 in
theorem ti_J0_charAt_5068e : Cond.instanceMethod yJ0_charAt_5068e ∈ TB := ckAt_TB (i := 289) (by decide +kernel)
set_option maxRecDepth 1000000 in
theorem ts_J0_charAt_5068e : Cond.selects RJ0 yJ0_charAt_5068e yJ0_charAt_5068e ∈ TB := ckAt_TB (i := 290) (by decide +kernel)
set_option maxRecDepth 1000000 in
theorem tc_J0_isLatin1_aae02 : Cond.code yJ0_isLatin1_aae02 cJ0_isLatin1_aae02 1 (some .boolean) ∈ TB := ckAt_TB (i := 295) (by decide +kernel)
set_option maxRecDepth 1000000 in
theorem ti_J0_isLatin1_aae02 : Cond.instanceMethod yJ0_isLatin1_aae02 ∈ TB := ckAt_TB (i := 293) (by decide +kernel)
set_option maxRecDepth 1000000 in
theorem ts_J0_isLatin1_aae02 : Cond.selects RJ0 yJ0_isLatin1_aae02 yJ0_isLatin1_aae02 ∈ TB := ckAt_TB (i := 294) (by decide +kernel)
set_option maxRecDepth 1000000 in
theorem tc_J1_charAt_3b067 : Cond.code yJ1_charAt_3b067 cJ1_charAt_3b067 2 (some .char) ∈ TB := ckAt_TB (i := 298) (by decide +kernel)
set_option maxRecDepth 1000000 in
theorem tt_J1_charAt_3b067 : Cond.static yJ1_charAt_3b067 ∈ TB := ckAt_TB (i := 297) (by decide +kernel)
set_option maxRecDepth 1000000 in
theorem tc_J0_checkIndex_df160 : Cond.code yJ0_checkIndex_df160 cJ0_checkIndex_df160 2 (none) ∈ TB := ckAt_TB (i := 301) (by decide +kernel)
set_option maxRecDepth 1000000 in
theorem tt_J0_checkIndex_df160 : Cond.static yJ0_checkIndex_df160 ∈ TB := ckAt_TB (i := 300) (by decide +kernel)
set_option maxRecDepth 1000000 in
theorem tc_J3_checkIndex_8e157 : Cond.code yJ3_checkIndex_8e157 cJ3_checkIndex_8e157 3 (some .int) ∈ TB := ckAt_TB (i := 306) (by decide +kernel)
set_option maxRecDepth 1000000 in
theorem tt_J3_checkIndex_8e157 : Cond.static yJ3_checkIndex_8e157 ∈ TB := ckAt_TB (i := 305) (by decide +kernel)
set_option maxRecDepth 1000000 in
theorem tc_J0_indexOf_0f7a4 : Cond.code yJ0_indexOf_0f7a4 cJ0_indexOf_0f7a4 2 (some .int) ∈ TB := ckAt_TB (i := 894) (by decide +kernel)
set_option maxRecDepth 1000000 in
theorem ti_J0_indexOf_0f7a4 : Cond.instanceMethod yJ0_indexOf_0f7a4 ∈ TB := ckAt_TB (i := 892) (by decide +kernel)
set_option maxRecDepth 1000000 in
theorem ts_J0_indexOf_0f7a4 : Cond.selects RJ0 yJ0_indexOf_0f7a4 yJ0_indexOf_0f7a4 ∈ TB := ckAt_TB (i := 893) (by decide +kernel)
set_option maxRecDepth 1000000 in
theorem tc_J0_indexOf_7cf53 : Cond.code yJ0_indexOf_7cf53 cJ0_indexOf_7cf53 3 (some .int) ∈ TB := ckAt_TB (i := 898) (by decide +kernel)
set_option maxRecDepth 1000000 in
theorem ti_J0_indexOf_7cf53 : Cond.instanceMethod yJ0_indexOf_7cf53 ∈ TB := ckAt_TB (i := 896) (by decide +kernel)
set_option maxRecDepth 1000000 in
theorem ts_J0_indexOf_7cf53 : Cond.selects RJ0 yJ0_indexOf_7cf53 yJ0_indexOf_7cf53 ∈ TB := ckAt_TB (i := 897) (by decide +kernel)
set_option maxRecDepth 1000000 in
theorem tc_J1_indexOf_4cfef : Cond.code yJ1_indexOf_4cfef cJ1_indexOf_4cfef 4 (some .int) ∈ TB := ckAt_TB (i := 902) (by decide +kernel)
set_option maxRecDepth 1000000 in
theorem tt_J1_indexOf_4cfef : Cond.static yJ1_indexOf_4cfef ∈ TB := ckAt_TB (i := 901) (by decide +kernel)
set_option maxRecDepth 1000000 in
theorem tc_J1_canEncode_9a6ad : Cond.code yJ1_canEncode_9a6ad cJ1_canEncode_9a6ad 1 (some .boolean) ∈ TB := ckAt_TB (i := 905) (by decide +kernel)
set_option maxRecDepth 1000000 in
theorem tt_J1_canEncode_9a6ad : Cond.static yJ1_canEncode_9a6ad ∈ TB := ckAt_TB (i := 904) (by decide +kernel)
set_option maxRecDepth 1000000 in
theorem tc_J1_indexOfChar_4cfef : Cond.code yJ1_indexOfChar_4cfef cJ1_indexOfChar_4cfef 6 (some .int) ∈ TB := ckAt_TB (i := 910) (by decide +kernel)
set_option maxRecDepth 1000000 in
theorem tt_J1_indexOfChar_4cfef : Cond.static yJ1_indexOfChar_4cfef ∈ TB := ckAt_TB (i := 909) (by decide +kernel)
set_option maxRecDepth 1000000 in
theorem tn_RJ0 : Cond.initialized RJ0 ∈ TB := ckAt_TB (i := 228) (by decide +kernel)
set_option maxRecDepth 1000000 in
theorem tn_RJ1 : Cond.initialized RJ1 ∈ TB := ckAt_TB (i := 229) (by decide +kernel)
set_option maxRecDepth 1000000 in
theorem tn_RJ3 : Cond.initialized RJ3 ∈ TB := ckAt_TB (i := 230) (by decide +kernel)
set_option maxRecDepth 1000000 in
theorem tt_max : Cond.static Lib.Math.max.name ∈ TB := ckAt_TB (i := 334) (by decide +kernel)
set_option maxRecDepth 1000000 in
theorem tc_max : Cond.code Lib.Math.max.name Lib.Math.max.code 2 (some .int) ∈ TB := ckAt_TB (i := 335) (by decide +kernel)
set_option maxRecDepth 1000000 in
theorem tt_min : Cond.static Lib.Math.min.name ∈ TB := ckAt_TB (i := 880) (by decide +kernel)
set_option maxRecDepth 1000000 in
theorem tc_min : Cond.code Lib.Math.min.name Lib.Math.min.code 2 (some .int) ∈ TB := ckAt_TB (i := 881) (by decide +kernel)
set_option maxRecDepth 1000000 in
theorem tn_math : Cond.initialized "java/lang/Math" ∈ TB := ckAt_TB (i := 232) (by decide +kernel)
set_option maxRecDepth 1000000 in
theorem tf_RJ0_38 : Cond.fieldLink RJ0 38 "java/lang/String" "COMPACT_STRINGS" "Z" ∈ TB := ckAt_TB (i := 286) (by decide +kernel)
set_option maxRecDepth 1000000 in
theorem tf_RJ0_15 : Cond.fieldLink RJ0 15 "java/lang/String" "coder" "B" ∈ TB := ckAt_TB (i := 2763) (by decide +kernel)
set_option maxRecDepth 100000 in
set_option maxHeartbeats 4000000 in
theorem sm_J0_isLatin1_aae02 (l : Launch) (rx adV : Nat → Nat) (v : Nat) (hv7 : v < 7) : Met l yJ0_isLatin1_aae02 (wsJ yJ0_isLatin1_aae02 cJ0_isLatin1_aae02 1 (some .boolean)) (rmS 0 0) (va_Pc [.ref (rx (vmBase + v))] (PS rx adV)) (vp_Si (fun r => r = 1)) 0 0 (fun _ => False) := by
  refine Met.ofW (cc := cJ0_isLatin1_aae02) (maxL := 1) (ret := some .boolean) (by decide) rfl ?_
  intro p e s m args below meth c s₁ B hml hv
  obtain ⟨rfl, hX⟩ := hv
  obtain ⟨hV, hZ, hZq⟩ := id hX
  have hx := B.exec
  have hb := B.bytes
  have hr := B.returns
  have hts : ∀ w ∈ wsJ yJ0_isLatin1_aae02 cJ0_isLatin1_aae02 1 (some .boolean), w.before [.ref (rx (vmBase + v))].toArray s = true := atoms_spec (ws := wsJ yJ0_isLatin1_aae02 cJ0_isLatin1_aae02 1 (some .boolean)) B.pre
  have hts : ∀ w ∈ TB, w.before [.ref (rx (vmBase + v))].toArray s = true := fun w h => hts w (List.mem_cons_of_mem _ h)
  have hown : s.vm.findClass RJ0 = some m.cls := findClass_of_methodNamed B.named
  have hlocks := B.notSynchronized
  have hS : va_S (fun _ => False) s.heap s.heap [] := va_S.rf
  have S : CallFix p m c cJ0_isLatin1_aae02 1 s [.ref (rx (vmBase + v))].toArray TB RJ0 := ⟨hx, hb, hml, hown, hts⟩
  have hN : ∀ q ∈ ([] : List Loc), (fun _ : Nat => False) q.base := fun _ h => absurd h List.not_mem_nil
  have hl := lv_entry [.ref (rx (vmBase + v))] (n := 1) (Nat.le_of_ble_eq_true rfl)
  rw [lg_entry_eq]
  generalize (lg_sl [.ref (rx (vmBase + v))] ++ List.replicate (1 - (lg_sl [.ref (rx (vmBase + v))]).length) Slot.unset).toArray = ls at hl ⊢
  have hl : lv_has ls 1 [(0, .ref (rx (vmBase + v)))] := hl
  refine va_gets hx hb hZ hS hown (hts _ tf_RJ0_38) (fun _ h => h) (by decide +kernel : decode cJ0_isLatin1_aae02 0 = .ok (.getstatic 38, 3)) ?_
  refine lv_if_eq (tgt := 17) hx hb (by decide +kernel : decode cJ0_isLatin1_aae02 3 = .ok (.ifCond .eq 14, 3)) rfl (fun h => absurd h (by decide)) (fun _ => ?_)
  refine lv_aload_n hx hb (by decide +kernel : decode cJ0_isLatin1_aae02 6 = .ok (.aload_n 0, 1)) rfl (lv_at hl 0 rfl) ?_
  refine vk_getf hx hb (hV.1 v hv7).2.1 hS hown (hts _ tf_RJ0_15) (fun _ h => h) (by decide +kernel : decode cJ0_isLatin1_aae02 7 = .ok (.getfield 15, 3)) ?_
  refine lv_if_ne (tgt := 17) hx hb (by decide +kernel : decode cJ0_isLatin1_aae02 10 = .ok (.ifCond .ne 7, 3)) rfl (fun h => absurd rfl h) (fun _ => ?_)
  refine lv_iconst (v := 1) hx hb (by decide +kernel : decode cJ0_isLatin1_aae02 13 = .ok (.iconst 1, 1)) (by decide) ?_
  refine lv_goto (tgt := 18) hx hb (by decide +kernel : decode cJ0_isLatin1_aae02 14 = .ok (.goto 4, 3)) rfl ?_
  exact W.zret (v := 1) (ty := .boolean) hx hb hr rfl (fun t ht hW => ⟨_, rfl, rfl, ht⟩) hN (by decide +kernel : decode cJ0_isLatin1_aae02 18 = .ok (.ireturn, 1)) hlocks
set_option maxRecDepth 100000 in
set_option maxHeartbeats 4000000 in
theorem sm_J0_coder_7d493 (l : Launch) (rx adV : Nat → Nat) (v : Nat) (hv7 : v < 7) : Met l yJ0_coder_7d493 (wsJ yJ0_coder_7d493 cJ0_coder_7d493 1 (some .byte)) (rmS 0 0) (va_Pc [.ref (rx (vmBase + v))] (PS rx adV)) (vp_Si (fun r => r = 0)) 0 0 (fun _ => False) := by
  refine Met.ofW (cc := cJ0_coder_7d493) (maxL := 1) (ret := some .byte) (by decide) rfl ?_
  intro p e s m args below meth c s₁ B hml hv
  obtain ⟨rfl, hX⟩ := hv
  obtain ⟨hV, hZ, hZq⟩ := id hX
  have hx := B.exec
  have hb := B.bytes
  have hr := B.returns
  have hts : ∀ w ∈ wsJ yJ0_coder_7d493 cJ0_coder_7d493 1 (some .byte), w.before [.ref (rx (vmBase + v))].toArray s = true := atoms_spec (ws := wsJ yJ0_coder_7d493 cJ0_coder_7d493 1 (some .byte)) B.pre
  have hts : ∀ w ∈ TB, w.before [.ref (rx (vmBase + v))].toArray s = true := fun w h => hts w (List.mem_cons_of_mem _ h)
  have hown : s.vm.findClass RJ0 = some m.cls := findClass_of_methodNamed B.named
  have hlocks := B.notSynchronized
  have hS : va_S (fun _ => False) s.heap s.heap [] := va_S.rf
  have S : CallFix p m c cJ0_coder_7d493 1 s [.ref (rx (vmBase + v))].toArray TB RJ0 := ⟨hx, hb, hml, hown, hts⟩
  have hN : ∀ q ∈ ([] : List Loc), (fun _ : Nat => False) q.base := fun _ h => absurd h List.not_mem_nil
  have hl := lv_entry [.ref (rx (vmBase + v))] (n := 1) (Nat.le_of_ble_eq_true rfl)
  rw [lg_entry_eq]
  generalize (lg_sl [.ref (rx (vmBase + v))] ++ List.replicate (1 - (lg_sl [.ref (rx (vmBase + v))]).length) Slot.unset).toArray = ls at hl ⊢
  have hl : lv_has ls 1 [(0, .ref (rx (vmBase + v)))] := hl
  refine va_gets hx hb hZ hS hown (hts _ tf_RJ0_38) (fun _ h => h) (by decide +kernel : decode cJ0_coder_7d493 0 = .ok (.getstatic 38, 3)) ?_
  refine lv_if_eq (tgt := 13) hx hb (by decide +kernel : decode cJ0_coder_7d493 3 = .ok (.ifCond .eq 10, 3)) rfl (fun h => absurd h (by decide)) (fun _ => ?_)
  refine lv_aload_n hx hb (by decide +kernel : decode cJ0_coder_7d493 6 = .ok (.aload_n 0, 1)) rfl (lv_at hl 0 rfl) ?_
  refine vk_getf hx hb (hV.1 v hv7).2.1 hS hown (hts _ tf_RJ0_15) (fun _ h => h) (by decide +kernel : decode cJ0_coder_7d493 7 = .ok (.getfield 15, 3)) ?_
  refine lv_goto (tgt := 14) hx hb (by decide +kernel : decode cJ0_coder_7d493 10 = .ok (.goto 4, 3)) rfl ?_
  exact W.zret (v := 0) (ty := .byte) hx hb hr rfl (fun t ht hW => ⟨_, rfl, rfl, ht⟩) hN (by decide +kernel : decode cJ0_coder_7d493 14 = .ok (.ireturn, 1)) hlocks
set_option maxRecDepth 1000000 in
theorem tf_RJ0_9 : Cond.fieldLink RJ0 9 "java/lang/String" "value" "[B" ∈ TB := ckAt_TB (i := 2762) (by decide +kernel)
set_option maxRecDepth 1000000 in
theorem tl_RJ0_335 : Cond.methodLink RJ0 335 yJ0_coder_7d493 ∈ TB := ckAt_TB (i := 282) (by decide +kernel)
set_option maxRecDepth 100000 in
set_option maxHeartbeats 4000000 in
theorem sm_J0_length_8abf5 (l : Launch) (rx adV : Nat → Nat) (v : Nat) (hv7 : v < 7) : Met l yJ0_length_8abf5 (wsJ yJ0_length_8abf5 cJ0_length_8abf5 1 (some .int)) (rmS 1 20) (va_Pc [.ref (rx (vmBase + v))] (PS rx adV)) (vp_Si (fun r => r = Int32.ofNat (sB v).length)) 0 0 (fun _ => False) := by
  refine Met.ofW (cc := cJ0_length_8abf5) (maxL := 1) (ret := some .int) (by decide) rfl ?_
  intro p e s m args below meth c s₁ B hml hv
  obtain ⟨rfl, hX⟩ := hv
  obtain ⟨hV, hZ, hZq⟩ := id hX
  have hx := B.exec
  have hb := B.bytes
  have hr := B.returns
  have hts : ∀ w ∈ wsJ yJ0_length_8abf5 cJ0_length_8abf5 1 (some .int), w.before [.ref (rx (vmBase + v))].toArray s = true := atoms_spec (ws := wsJ yJ0_length_8abf5 cJ0_length_8abf5 1 (some .int)) B.pre
  have hts : ∀ w ∈ TB, w.before [.ref (rx (vmBase + v))].toArray s = true := fun w h => hts w (List.mem_cons_of_mem _ h)
  have hown : s.vm.findClass RJ0 = some m.cls := findClass_of_methodNamed B.named
  have hlocks := B.notSynchronized
  have hS : va_S (fun _ => False) s.heap s.heap [] := va_S.rf
  have S : CallFix p m c cJ0_length_8abf5 1 s [.ref (rx (vmBase + v))].toArray TB RJ0 := ⟨hx, hb, hml, hown, hts⟩
  have hN : ∀ q ∈ ([] : List Loc), (fun _ : Nat => False) q.base := fun _ h => absurd h List.not_mem_nil
  have hl := lv_entry [.ref (rx (vmBase + v))] (n := 1) (Nat.le_of_ble_eq_true rfl)
  rw [lg_entry_eq]
  generalize (lg_sl [.ref (rx (vmBase + v))] ++ List.replicate (1 - (lg_sl [.ref (rx (vmBase + v))]).length) Slot.unset).toArray = ls at hl ⊢
  have hl : lv_has ls 1 [(0, .ref (rx (vmBase + v)))] := hl
  refine lv_aload_n hx hb (by decide +kernel : decode cJ0_length_8abf5 0 = .ok (.aload_n 0, 1)) rfl (lv_at hl 0 rfl) ?_
  refine vk_getf hx hb (hV.1 v hv7).2.2.1 hS hown (hts _ tf_RJ0_9) (fun _ h => h) (by decide +kernel : decode cJ0_length_8abf5 1 = .ok (.getfield 9, 3)) ?_
  refine va_tlen (v := Int32.ofNat (sB v).length) hx hb (hV.1 v hv7).2.2.2 hS (by rw [(sB_lens hv7).1]) (by decide +kernel : decode cJ0_length_8abf5 4 = .ok (.arraylength, 1)) ?_
  refine lv_aload_n hx hb (by decide +kernel : decode cJ0_length_8abf5 5 = .ok (.aload_n 0, 1)) rfl (lv_at hl 0 rfl) ?_
  refine vp_callSi (W.runV (C := RJ0) (b := rx (vmBase + v)) (As := []) (rest := [.int (Int32.ofNat (sB v).length)]) S (sm_J0_coder_7d493 l rx adV v hv7) ⟨callB_of 0 hts (wsJ_good tc_J0_coder_7d493) rfl rfl rfl (hts _ tn_RJ0) (hts _ tl_RJ0_335) (by decide +kernel) ⟨Nat.le_of_ble_eq_true rfl, Nat.le_of_ble_eq_true rfl⟩, hts _ ti_J0_coder_7d493, hts _ ts_J0_coder_7d493⟩ ⟨(fun a U g mk q => ⟨q.1, q.2.same rfl rfl⟩), (vk_recv (adK := fun i => rx (vmBase + i)) (i := v) hV hv7 hS), (fun U hU hW => ⟨rfl, hX.pass hU hW⟩)⟩ rfl rfl hl.1 rfl (lv_room (Nat.le_of_ble_eq_true rfl)) (by decide +kernel : decode cJ0_length_8abf5 6 = .ok (.invokevirtual 335, 3)) ⟨Nat.zero_le _, Nat.zero_le _⟩) (fun r hr0 => ?_)
  subst hr0
  refine lv_ishr hx hb (by decide +kernel : decode cJ0_length_8abf5 9 = .ok (.ishr, 1)) ?_
  have hz : Int32.ofNat (sB v).length >>> ((0 : Int32) &&& 31) = Int32.ofNat (sB v).length := by
    show _ >>> (0 : Int32) = _
    simp
  rw [hz]
  exact W.iret (v := Int32.ofNat (sB v).length) hx hb hr (fun t ht hW => ⟨_, rfl, rfl, ht⟩) hN (by decide +kernel : decode cJ0_length_8abf5 10 = .ok (.ireturn, 1)) hlocks
set_option maxRecDepth 100000 in
set_option maxHeartbeats 4000000 in
theorem sm_J3_checkIndex_8e157 (l : Launch) (rx adV : Nat → Nat) (x n : Int32) (z : Value) (hz1 : z.category = 1) (h0 : ¬ x < 0) (hlt : x < n) : Met l yJ3_checkIndex_8e157 (wsJ yJ3_checkIndex_8e157 cJ3_checkIndex_8e157 3 (some .int)) (rmS 0 0) (va_Pc [.int x, .int n, z] (PS rx adV)) (vp_Si (fun r => r = x)) 0 0 (fun _ => False) := by
  refine Met.ofW (cc := cJ3_checkIndex_8e157) (maxL := 3) (ret := some .int) (by decide) rfl ?_
  intro p e s m args below meth c s₁ B hml hv
  obtain ⟨rfl, hX⟩ := hv
  obtain ⟨hV, hZ, hZq⟩ := id hX
  have hx := B.exec
  have hb := B.bytes
  have hr := B.returns
  have hts : ∀ w ∈ wsJ yJ3_checkIndex_8e157 cJ3_checkIndex_8e157 3 (some .int), w.before [.int x, .int n, z].toArray s = true := atoms_spec (ws := wsJ yJ3_checkIndex_8e157 cJ3_checkIndex_8e157 3 (some .int)) B.pre
  have hts : ∀ w ∈ TB, w.before [.int x, .int n, z].toArray s = true := fun w h => hts w (List.mem_cons_of_mem _ h)
  have hown : s.vm.findClass RJ3 = some m.cls := findClass_of_methodNamed B.named
  have hlocks := B.notSynchronized
  have hS : va_S (fun _ => False) s.heap s.heap [] := va_S.rf
  have S : CallFix p m c cJ3_checkIndex_8e157 3 s [.int x, .int n, z].toArray TB RJ3 := ⟨hx, hb, hml, hown, hts⟩
  have hN : ∀ q ∈ ([] : List Loc), (fun _ : Nat => False) q.base := fun _ h => absurd h List.not_mem_nil
  have hl := lv_entry [.int x, .int n, z] (n := 3) (by rw [show lg_sl [.int x, .int n, z] = [.val (.int x)] ++ ([.val (.int n)] ++ ((if z.category = 2 then [.val z, .second] else [.val z]) ++ [])) from rfl, if_neg (by rw [hz1]; decide)]; exact Nat.le_refl 3)
  rw [lg_entry_eq]
  generalize (lg_sl [.int x, .int n, z] ++ List.replicate (3 - (lg_sl [.int x, .int n, z]).length) Slot.unset).toArray = ls at hl ⊢
  have hl : lv_has ls 3 [(0, .int x), (1, .int n)] := lv_sub hl [0, 1] rfl
  refine lv_iload_n hx hb (by decide +kernel : decode cJ3_checkIndex_8e157 0 = .ok (.iload_n 0, 1)) rfl (lv_at hl 0 rfl) ?_
  refine lv_if_lt (tgt := 9) hx hb (by decide +kernel : decode cJ3_checkIndex_8e157 1 = .ok (.ifCond .lt 8, 3)) rfl (fun h => absurd h h0) (fun _ => ?_)
  refine lv_iload_n hx hb (by decide +kernel : decode cJ3_checkIndex_8e157 4 = .ok (.iload_n 0, 1)) rfl (lv_at hl 0 rfl) ?_
  refine lv_iload_n hx hb (by decide +kernel : decode cJ3_checkIndex_8e157 5 = .ok (.iload_n 1, 1)) rfl (lv_at hl 1 rfl) ?_
  refine lv_icmp_lt (tgt := 16) hx hb (by decide +kernel : decode cJ3_checkIndex_8e157 6 = .ok (.if_icmp .lt 10, 3)) rfl (fun _ => ?_) (fun h => absurd hlt h)
  refine lv_iload_n hx hb (by decide +kernel : decode cJ3_checkIndex_8e157 16 = .ok (.iload_n 0, 1)) rfl (lv_at hl 0 rfl) ?_
  exact W.iret (v := x) hx hb hr (fun t ht hW => ⟨_, rfl, rfl, ht⟩) hN (by decide +kernel : decode cJ3_checkIndex_8e157 17 = .ok (.ireturn, 1)) hlocks
set_option maxRecDepth 1000000 in
theorem tf_RJ0_1053 : Cond.fieldLink RJ0 1053 "jdk/internal/util/Preconditions" "SIOOBE_FORMATTER" "Ljava/util/function/BiFunction;" ∈ TB := ckAt_TB (i := 302) (by decide +kernel)
set_option maxRecDepth 1000000 in
theorem tl_RJ0_1059 : Cond.methodLink RJ0 1059 yJ3_checkIndex_8e157 ∈ TB := ckAt_TB (i := 304) (by decide +kernel)
set_option maxRecDepth 100000 in
set_option maxHeartbeats 4000000 in
theorem sm_J0_checkIndex_df160 (l : Launch) (rx adV : Nat → Nat) (x n : Int32) (h0 : ¬ x < 0) (hlt : x < n) : Met l yJ0_checkIndex_df160 (wsJ yJ0_checkIndex_df160 cJ0_checkIndex_df160 2 (none)) (rmS 1 22) (va_Pc [.int x, .int n] (PS rx adV)) (va_Sv (fun _ => True)) 0 0 (fun _ => False) := by
  refine Met.ofW (cc := cJ0_checkIndex_df160) (maxL := 2) (ret := none) (by decide) rfl ?_
  intro p e s m args below meth c s₁ B hml hv
  obtain ⟨rfl, hX⟩ := hv
  obtain ⟨hV, hZ, hZq⟩ := id hX
  have hx := B.exec
  have hb := B.bytes
  have hr := B.returns
  have hts : ∀ w ∈ wsJ yJ0_checkIndex_df160 cJ0_checkIndex_df160 2 (none), w.before [.int x, .int n].toArray s = true := atoms_spec (ws := wsJ yJ0_checkIndex_df160 cJ0_checkIndex_df160 2 (none)) B.pre
  have hts : ∀ w ∈ TB, w.before [.int x, .int n].toArray s = true := fun w h => hts w (List.mem_cons_of_mem _ h)
  have hown : s.vm.findClass RJ0 = some m.cls := findClass_of_methodNamed B.named
  have hlocks := B.notSynchronized
  have hS : va_S (fun _ => False) s.heap s.heap [] := va_S.rf
  have S : CallFix p m c cJ0_checkIndex_df160 2 s [.int x, .int n].toArray TB RJ0 := ⟨hx, hb, hml, hown, hts⟩
  have hN : ∀ q ∈ ([] : List Loc), (fun _ : Nat => False) q.base := fun _ h => absurd h List.not_mem_nil
  have hl := lv_entry [.int x, .int n] (n := 2) (Nat.le_of_ble_eq_true rfl)
  rw [lg_entry_eq]
  generalize (lg_sl [.int x, .int n] ++ List.replicate (2 - (lg_sl [.int x, .int n]).length) Slot.unset).toArray = ls at hl ⊢
  have hl : lv_has ls 2 [(0, .int x), (1, .int n)] := hl
  refine lv_iload_n hx hb (by decide +kernel : decode cJ0_checkIndex_df160 0 = .ok (.iload_n 0, 1)) rfl (lv_at hl 0 rfl) ?_
  refine lv_iload_n hx hb (by decide +kernel : decode cJ0_checkIndex_df160 1 = .ok (.iload_n 1, 1)) rfl (lv_at hl 1 rfl) ?_
  rcases id hZq with hZ1 | ⟨t, hZ1⟩
  · refine va_gets hx hb hZ1 hS hown (hts _ tf_RJ0_1053) (fun _ h => h) (by decide +kernel : decode cJ0_checkIndex_df160 2 = .ok (.getstatic 1053, 3)) ?_
    refine vp_callSi (W.runS (As := [.int x, .int n, .null]) (rest := []) S (sm_J3_checkIndex_8e157 l rx adV x n (.null) rfl h0 hlt) ⟨callB_of 3 hts (wsJ_good tc_J3_checkIndex_8e157) rfl rfl rfl (hts _ tn_RJ3) (hts _ tl_RJ0_1059) (by decide +kernel) ⟨Nat.le_of_ble_eq_true rfl, Nat.le_of_ble_eq_true rfl⟩, hts _ tt_J3_checkIndex_8e157⟩ ⟨(fun a U g mk q => ⟨q.1, q.2.same rfl rfl⟩), (fun U hU hW => ⟨rfl, hX.pass hU hW⟩)⟩ rfl rfl hl.1 rfl (lv_room (Nat.le_of_ble_eq_true rfl)) (by decide +kernel : decode cJ0_checkIndex_df160 5 = .ok (.invokestatic 1059, 3)) ⟨Nat.zero_le _, Nat.zero_le _⟩) (fun r hr0 => ?_)
    refine lv_pop hx hb (by decide +kernel : decode cJ0_checkIndex_df160 8 = .ok (.pop, 1)) rfl ?_
    exact W.vret hx hb hr (fun t ht hW => ⟨rfl, trivial, ht⟩) hN (by decide +kernel : decode cJ0_checkIndex_df160 9 = .ok (.return_, 1)) hlocks
  · refine va_gets hx hb hZ1 hS hown (hts _ tf_RJ0_1053) (fun _ h => h) (by decide +kernel : decode cJ0_checkIndex_df160 2 = .ok (.getstatic 1053, 3)) ?_
    refine vp_callSi (W.runS (As := [.int x, .int n, .ref t]) (rest := []) S (sm_J3_checkIndex_8e157 l rx adV x n (.ref t) rfl h0 hlt) ⟨callB_of 3 hts (wsJ_good tc_J3_checkIndex_8e157) rfl rfl rfl (hts _ tn_RJ3) (hts _ tl_RJ0_1059) (by decide +kernel) ⟨Nat.le_of_ble_eq_true rfl, Nat.le_of_ble_eq_true rfl⟩, hts _ tt_J3_checkIndex_8e157⟩ ⟨(fun a U g mk q => ⟨q.1, q.2.same rfl rfl⟩), (fun U hU hW => ⟨rfl, hX.pass hU hW⟩)⟩ rfl rfl hl.1 rfl (lv_room (Nat.le_of_ble_eq_true rfl)) (by decide +kernel : decode cJ0_checkIndex_df160 5 = .ok (.invokestatic 1059, 3)) ⟨Nat.zero_le _, Nat.zero_le _⟩) (fun r hr0 => ?_)
    refine lv_pop hx hb (by decide +kernel : decode cJ0_checkIndex_df160 8 = .ok (.pop, 1)) rfl ?_
    exact W.vret hx hb hr (fun t ht hW => ⟨rfl, trivial, ht⟩) hN (by decide +kernel : decode cJ0_checkIndex_df160 9 = .ok (.return_, 1)) hlocks
set_option maxRecDepth 1000000 in
theorem tl_RJ1_9 : Cond.methodLink RJ1 9 yJ0_checkIndex_df160 ∈ TB := ckAt_TB (i := 299) (by decide +kernel)
set_option maxRecDepth 100000 in
set_option maxHeartbeats 4000000 in
theorem sm_J1_charAt_3b067 (l : Launch) (rx adV : Nat → Nat) (v : Nat) (hv7 : v < 7) (x : Int32) (hin : ¬ (x < 0 ∨ (sB v).length ≤ x.toNatClampNeg)) : Met l yJ1_charAt_3b067 (wsJ yJ1_charAt_3b067 cJ1_charAt_3b067 2 (some .char)) (rmS 2 43) (va_Pc [.ref (adV v), .int x] (PS rx adV)) (vp_Si (fun r => r = (sB v).getD x.toNatClampNeg 0)) 0 0 (fun _ => False) := by
  refine Met.ofW (cc := cJ1_charAt_3b067) (maxL := 2) (ret := some .char) (by decide) rfl ?_
  intro p e s m args below meth c s₁ B hml hv
  obtain ⟨rfl, hX⟩ := hv
  obtain ⟨hV, hZ, hZq⟩ := id hX
  have hx := B.exec
  have hb := B.bytes
  have hr := B.returns
  have hts : ∀ w ∈ wsJ yJ1_charAt_3b067 cJ1_charAt_3b067 2 (some .char), w.before [.ref (adV v), .int x].toArray s = true := atoms_spec (ws := wsJ yJ1_charAt_3b067 cJ1_charAt_3b067 2 (some .char)) B.pre
  have hts : ∀ w ∈ TB, w.before [.ref (adV v), .int x].toArray s = true := fun w h => hts w (List.mem_cons_of_mem _ h)
  have hown : s.vm.findClass RJ1 = some m.cls := findClass_of_methodNamed B.named
  have hlocks := B.notSynchronized
  have hS : va_S (fun _ => False) s.heap s.heap [] := va_S.rf
  have S : CallFix p m c cJ1_charAt_3b067 2 s [.ref (adV v), .int x].toArray TB RJ1 := ⟨hx, hb, hml, hown, hts⟩
  have hN : ∀ q ∈ ([] : List Loc), (fun _ : Nat => False) q.base := fun _ h => absurd h List.not_mem_nil
  have hl := lv_entry [.ref (adV v), .int x] (n := 2) (Nat.le_of_ble_eq_true rfl)
  rw [lg_entry_eq]
  generalize (lg_sl [.ref (adV v), .int x] ++ List.replicate (2 - (lg_sl [.ref (adV v), .int x]).length) Slot.unset).toArray = ls at hl ⊢
  have hl : lv_has ls 2 [(0, .ref (adV v)), (1, .int x)] := hl
  have hle := sB_lens hv7
  obtain ⟨j, hj, rfl⟩ := vp_in_of (n := (sB v).length) hin (by omega)
  have hcl : (nI j).toNatClampNeg = j := nI_clamp (by omega)
  rw [hcl] at hin ⊢
  refine lv_iload_n hx hb (by decide +kernel : decode cJ1_charAt_3b067 0 = .ok (.iload_n 1, 1)) rfl (lv_at hl 1 rfl) ?_
  refine lv_aload_n hx hb (by decide +kernel : decode cJ1_charAt_3b067 1 = .ok (.aload_n 0, 1)) rfl (lv_at hl 0 rfl) ?_
  refine va_tlen (v := nI (sB v).length) hx hb (hV.1 v hv7).2.2.2 hS (by rw [hle.1]; rfl) (by decide +kernel : decode cJ1_charAt_3b067 2 = .ok (.arraylength, 1)) ?_
  refine va_csv (W.runS (As := [.int (nI j), .int (nI (sB v).length)]) (rest := []) S (sm_J0_checkIndex_df160 l rx adV (nI j) (nI (sB v).length) (nI_pos (by omega)) (nI_lt hj (by omega))) ⟨callB_of 2 hts (wsJ_good tc_J0_checkIndex_df160) rfl rfl rfl (hts _ tn_RJ0) (hts _ tl_RJ1_9) (by decide +kernel) ⟨Nat.le_of_ble_eq_true rfl, Nat.le_of_ble_eq_true rfl⟩, hts _ tt_J0_checkIndex_df160⟩ ⟨(fun a U g mk q => ⟨q.1, q.2.same rfl rfl⟩), (fun U hU hW => ⟨rfl, hX.pass hU hW⟩)⟩ rfl rfl hl.1 rfl (lv_room (Nat.le_of_ble_eq_true rfl)) (by decide +kernel : decode cJ1_charAt_3b067 3 = .ok (.invokestatic 9, 3)) ⟨Nat.zero_le _, Nat.zero_le _⟩) (fun _ => ?_)
  refine lv_aload_n hx hb (by decide +kernel : decode cJ1_charAt_3b067 6 = .ok (.aload_n 0, 1)) rfl (lv_at hl 0 rfl) ?_
  refine lv_iload_n hx hb (by decide +kernel : decode cJ1_charAt_3b067 7 = .ok (.iload_n 1, 1)) rfl (lv_at hl 1 rfl) ?_
  refine va_tb (v := .int ((sB v).getD j 0)) hx hb (hV.1 v hv7).2.2.2 hS (by rw [hle.1]; exact vp_in_nI hj (by omega)) (by rw [hcl, hle.2.1]) (by decide +kernel : decode cJ1_charAt_3b067 8 = .ok (.baload, 1)) ?_
  refine lv_sipush (v := 255) hx hb (by decide +kernel : decode cJ1_charAt_3b067 9 = .ok (.sipush 255, 3)) (by decide) ?_
  refine lv_iand hx hb (by decide +kernel : decode cJ1_charAt_3b067 12 = .ok (.iand, 1)) ?_
  refine lv_i2c (v := (sB v).getD j 0) hx hb (by decide +kernel : decode cJ1_charAt_3b067 13 = .ok (.i2c, 1)) (sB_chr hv7 hj).1 ?_
  exact W.zret (v := (sB v).getD j 0) (ty := .char) hx hb hr (by have h := pk_nc (((sB v).getD j 0) &&& 255); rw [(sB_chr hv7 hj).1] at h; exact h) (fun t ht hW => ⟨_, rfl, rfl, ht⟩) hN (by decide +kernel : decode cJ1_charAt_3b067 14 = .ok (.ireturn, 1)) hlocks
set_option maxRecDepth 1000000 in
theorem tl_RJ0_492 : Cond.methodLink RJ0 492 yJ0_isLatin1_aae02 ∈ TB := ckAt_TB (i := 292) (by decide +kernel)
set_option maxRecDepth 1000000 in
theorem tl_RJ0_495 : Cond.methodLink RJ0 495 yJ1_charAt_3b067 ∈ TB := ckAt_TB (i := 296) (by decide +kernel)
set_option maxRecDepth 100000 in
set_option maxHeartbeats 4000000 in
theorem sm_J0_charAt_5068e (l : Launch) (rx adV : Nat → Nat) (v : Nat) (hv7 : v < 7) (x : Int32) (hin : ¬ (x < 0 ∨ (sB v).length ≤ x.toNatClampNeg)) : Met l yJ0_charAt_5068e (wsJ yJ0_charAt_5068e cJ0_charAt_5068e 2 (some .char)) (rmS 3 64) (va_Pc [.ref (rx (vmBase + v)), .int x] (PS rx adV)) (vp_Si (fun r => r = (sB v).getD x.toNatClampNeg 0)) 0 0 (fun _ => False) := by
  refine Met.ofW (cc := cJ0_charAt_5068e) (maxL := 2) (ret := some .char) (by decide) rfl ?_
  intro p e s m args below meth c s₁ B hml hv
  obtain ⟨rfl, hX⟩ := hv
  obtain ⟨hV, hZ, hZq⟩ := id hX
  have hx := B.exec
  have hb := B.bytes
  have hr := B.returns
  have hts : ∀ w ∈ wsJ yJ0_charAt_5068e cJ0_charAt_5068e 2 (some .char), w.before [.ref (rx (vmBase + v)), .int x].toArray s = true := atoms_spec (ws := wsJ yJ0_charAt_5068e cJ0_charAt_5068e 2 (some .char)) B.pre
  have hts : ∀ w ∈ TB, w.before [.ref (rx (vmBase + v)), .int x].toArray s = true := fun w h => hts w (List.mem_cons_of_mem _ h)
  have hown : s.vm.findClass RJ0 = some m.cls := findClass_of_methodNamed B.named
  have hlocks := B.notSynchronized
  have hS : va_S (fun _ => False) s.heap s.heap [] := va_S.rf
  have S : CallFix p m c cJ0_charAt_5068e 2 s [.ref (rx (vmBase + v)), .int x].toArray TB RJ0 := ⟨hx, hb, hml, hown, hts⟩
  have hN : ∀ q ∈ ([] : List Loc), (fun _ : Nat => False) q.base := fun _ h => absurd h List.not_mem_nil
  have hl := lv_entry [.ref (rx (vmBase + v)), .int x] (n := 2) (Nat.le_of_ble_eq_true rfl)
  rw [lg_entry_eq]
  generalize (lg_sl [.ref (rx (vmBase + v)), .int x] ++ List.replicate (2 - (lg_sl [.ref (rx (vmBase + v)), .int x]).length) Slot.unset).toArray = ls at hl ⊢
  have hl : lv_has ls 2 [(0, .ref (rx (vmBase + v))), (1, .int x)] := hl
  refine lv_aload_n hx hb (by decide +kernel : decode cJ0_charAt_5068e 0 = .ok (.aload_n 0, 1)) rfl (lv_at hl 0 rfl) ?_
  refine vp_callSi (W.runV (C := RJ0) (b := rx (vmBase + v)) (As := []) (rest := []) S (sm_J0_isLatin1_aae02 l rx adV v hv7) ⟨callB_of 0 hts (wsJ_good tc_J0_isLatin1_aae02) rfl rfl rfl (hts _ tn_RJ0) (hts _ tl_RJ0_492) (by decide +kernel) ⟨Nat.le_of_ble_eq_true rfl, Nat.le_of_ble_eq_true rfl⟩, hts _ ti_J0_isLatin1_aae02, hts _ ts_J0_isLatin1_aae02⟩ ⟨(fun a U g mk q => ⟨q.1, q.2.same rfl rfl⟩), (vk_recv (adK := fun i => rx (vmBase + i)) (i := v) hV hv7 hS), (fun U hU hW => ⟨rfl, hX.pass hU hW⟩)⟩ rfl rfl hl.1 rfl (lv_room (Nat.le_of_ble_eq_true rfl)) (by decide +kernel : decode cJ0_charAt_5068e 1 = .ok (.invokevirtual 492, 3)) ⟨Nat.zero_le _, Nat.zero_le _⟩) (fun r hr0 => ?_)
  subst hr0
  refine lv_if_eq (tgt := 16) hx hb (by decide +kernel : decode cJ0_charAt_5068e 4 = .ok (.ifCond .eq 12, 3)) rfl (fun h => absurd h (by decide)) (fun _ => ?_)
  refine lv_aload_n hx hb (by decide +kernel : decode cJ0_charAt_5068e 7 = .ok (.aload_n 0, 1)) rfl (lv_at hl 0 rfl) ?_
  refine vk_getf hx hb (hV.1 v hv7).2.2.1 hS hown (hts _ tf_RJ0_9) (fun _ h => h) (by decide +kernel : decode cJ0_charAt_5068e 8 = .ok (.getfield 9, 3)) ?_
  refine lv_iload_n hx hb (by decide +kernel : decode cJ0_charAt_5068e 11 = .ok (.iload_n 1, 1)) rfl (lv_at hl 1 rfl) ?_
  refine vp_callSi (W.runS (As := [.ref (adV v), .int x]) (rest := []) S (sm_J1_charAt_3b067 l rx adV v hv7 x hin) ⟨callB_of 2 hts (wsJ_good tc_J1_charAt_3b067) rfl rfl rfl (hts _ tn_RJ1) (hts _ tl_RJ0_495) (by decide +kernel) ⟨Nat.le_of_ble_eq_true rfl, Nat.le_of_ble_eq_true rfl⟩, hts _ tt_J1_charAt_3b067⟩ ⟨(fun a U g mk q => ⟨q.1, q.2.same rfl rfl⟩), (fun U hU hW => ⟨rfl, hX.pass hU hW⟩)⟩ rfl rfl hl.1 rfl (lv_room (Nat.le_of_ble_eq_true rfl)) (by decide +kernel : decode cJ0_charAt_5068e 12 = .ok (.invokestatic 495, 3)) ⟨Nat.zero_le _, Nat.zero_le _⟩) (fun r hr0 => ?_)
  subst hr0
  have hle := sB_lens hv7
  obtain ⟨j, hj, rfl⟩ := vp_in_of (n := (sB v).length) hin (by omega)
  have hcl : (nI j).toNatClampNeg = j := nI_clamp (by omega)
  rw [hcl]
  exact W.zret (v := (sB v).getD j 0) (ty := .char) hx hb hr (by have h := pk_nc (((sB v).getD j 0) &&& 255); rw [(sB_chr hv7 hj).1] at h; exact h) (fun t ht hW => ⟨_, rfl, rfl, ht⟩) hN (by decide +kernel : decode cJ0_charAt_5068e 15 = .ok (.ireturn, 1)) hlocks
set_option maxRecDepth 100000 in
set_option maxHeartbeats 4000000 in
theorem sm_J1_canEncode_9a6ad (l : Launch) (rx adV : Nat → Nat) (x : Int32) : Met l yJ1_canEncode_9a6ad (wsJ yJ1_canEncode_9a6ad cJ1_canEncode_9a6ad 1 (some .boolean)) (rmS 0 0) (va_Pc [.int x] (PS rx adV)) (vp_Si (fun r => r = (if 0 ≤ x ∧ x ≤ 255 then 1 else 0 : Int32))) 0 0 (fun _ => False) := by
  refine Met.ofW (cc := cJ1_canEncode_9a6ad) (maxL := 1) (ret := some .boolean) (by decide) rfl ?_
  intro p e s m args below meth c s₁ B hml hv
  obtain ⟨rfl, hX⟩ := hv
  obtain ⟨hV, hZ, hZq⟩ := id hX
  have hx := B.exec
  have hb := B.bytes
  have hr := B.returns
  have hts : ∀ w ∈ wsJ yJ1_canEncode_9a6ad cJ1_canEncode_9a6ad 1 (some .boolean), w.before [.int x].toArray s = true := atoms_spec (ws := wsJ yJ1_canEncode_9a6ad cJ1_canEncode_9a6ad 1 (some .boolean)) B.pre
  have hts : ∀ w ∈ TB, w.before [.int x].toArray s = true := fun w h => hts w (List.mem_cons_of_mem _ h)
  have hown : s.vm.findClass RJ1 = some m.cls := findClass_of_methodNamed B.named
  have hlocks := B.notSynchronized
  have hS : va_S (fun _ => False) s.heap s.heap [] := va_S.rf
  have S : CallFix p m c cJ1_canEncode_9a6ad 1 s [.int x].toArray TB RJ1 := ⟨hx, hb, hml, hown, hts⟩
  have hN : ∀ q ∈ ([] : List Loc), (fun _ : Nat => False) q.base := fun _ h => absurd h List.not_mem_nil
  have hl := lv_entry [.int x] (n := 1) (Nat.le_of_ble_eq_true rfl)
  rw [lg_entry_eq]
  generalize (lg_sl [.int x] ++ List.replicate (1 - (lg_sl [.int x]).length) Slot.unset).toArray = ls at hl ⊢
  have hl : lv_has ls 1 [(0, .int x)] := hl
  refine lv_iload_n hx hb (by decide +kernel : decode cJ1_canEncode_9a6ad 0 = .ok (.iload_n 0, 1)) rfl (lv_at hl 0 rfl) ?_
  refine lv_if_lt (tgt := 15) hx hb (by decide +kernel : decode cJ1_canEncode_9a6ad 1 = .ok (.ifCond .lt 14, 3)) rfl (fun h => ?_) (fun h1 => ?_)
  · refine lv_iconst (v := 0) hx hb (by decide +kernel : decode cJ1_canEncode_9a6ad 15 = .ok (.iconst 0, 1)) (by decide) ?_
    rw [if_neg (fun q => Int32.not_le.mpr h q.1)]
    exact W.zret (v := 0) (ty := .boolean) hx hb hr rfl (fun t ht hW => ⟨_, rfl, rfl, ht⟩) hN (by decide +kernel : decode cJ1_canEncode_9a6ad 16 = .ok (.ireturn, 1)) hlocks
  · refine lv_iload_n hx hb (by decide +kernel : decode cJ1_canEncode_9a6ad 4 = .ok (.iload_n 0, 1)) rfl (lv_at hl 0 rfl) ?_
    refine lv_sipush (v := 255) hx hb (by decide +kernel : decode cJ1_canEncode_9a6ad 5 = .ok (.sipush 255, 3)) (by decide) ?_
    refine lv_icmp_gt (tgt := 15) hx hb (by decide +kernel : decode cJ1_canEncode_9a6ad 8 = .ok (.if_icmp .gt 7, 3)) rfl (fun h => ?_) (fun h2 => ?_)
    · refine lv_iconst (v := 0) hx hb (by decide +kernel : decode cJ1_canEncode_9a6ad 15 = .ok (.iconst 0, 1)) (by decide) ?_
      rw [if_neg (fun q => Int32.not_le.mpr h q.2)]
      exact W.zret (v := 0) (ty := .boolean) hx hb hr rfl (fun t ht hW => ⟨_, rfl, rfl, ht⟩) hN (by decide +kernel : decode cJ1_canEncode_9a6ad 16 = .ok (.ireturn, 1)) hlocks
    · refine lv_iconst (v := 1) hx hb (by decide +kernel : decode cJ1_canEncode_9a6ad 11 = .ok (.iconst 1, 1)) (by decide) ?_
      refine lv_goto (tgt := 16) hx hb (by decide +kernel : decode cJ1_canEncode_9a6ad 12 = .ok (.goto 4, 3)) rfl ?_
      rw [if_pos ⟨Int32.not_lt.mp h1, Int32.not_lt.mp h2⟩]
      exact W.zret (v := 1) (ty := .boolean) hx hb hr rfl (fun t ht hW => ⟨_, rfl, rfl, ht⟩) hN (by decide +kernel : decode cJ1_canEncode_9a6ad 16 = .ok (.ireturn, 1)) hlocks
set_option maxRecDepth 100000 in
set_option maxHeartbeats 4000000 in
theorem sm_J1_indexOfChar_4cfef (l : Launch) (rx adV : Nat → Nat) (v : Nat) (hv7 : v < 7) (x : Int32) (hx0 : 0 ≤ x) (hx1 : x ≤ 255) : Met l yJ1_indexOfChar_4cfef (wsJ yJ1_indexOfChar_4cfef cJ1_indexOfChar_4cfef 6 (some .int)) (rmS 0 0) (va_Pc [.ref (adV v), .int x, .int 0, .int (Int32.ofNat (sB v).length)] (PS rx adV)) (vp_Si (fun r => r = vmIx x (sB v) 0)) 0 0 (fun _ => False) := by
  refine Met.ofW (cc := cJ1_indexOfChar_4cfef) (maxL := 6) (ret := some .int) (by decide) rfl ?_
  intro p e s m args below meth c s₁ B hml hv
  obtain ⟨rfl, hX⟩ := hv
  obtain ⟨hV, hZ, hZq⟩ := id hX
  have hx := B.exec
  have hb := B.bytes
  have hr := B.returns
  have hts : ∀ w ∈ wsJ yJ1_indexOfChar_4cfef cJ1_indexOfChar_4cfef 6 (some .int), w.before [.ref (adV v), .int x, .int 0, .int (Int32.ofNat (sB v).length)].toArray s = true := atoms_spec (ws := wsJ yJ1_indexOfChar_4cfef cJ1_indexOfChar_4cfef 6 (some .int)) B.pre
  have hts : ∀ w ∈ TB, w.before [.ref (adV v), .int x, .int 0, .int (Int32.ofNat (sB v).length)].toArray s = true := fun w h => hts w (List.mem_cons_of_mem _ h)
  have hown : s.vm.findClass RJ1 = some m.cls := findClass_of_methodNamed B.named
  have hlocks := B.notSynchronized
  have hS : va_S (fun _ => False) s.heap s.heap [] := va_S.rf
  have S : CallFix p m c cJ1_indexOfChar_4cfef 6 s [.ref (adV v), .int x, .int 0, .int (Int32.ofNat (sB v).length)].toArray TB RJ1 := ⟨hx, hb, hml, hown, hts⟩
  have hN : ∀ q ∈ ([] : List Loc), (fun _ : Nat => False) q.base := fun _ h => absurd h List.not_mem_nil
  have hl := lv_entry [.ref (adV v), .int x, .int 0, .int (Int32.ofNat (sB v).length)] (n := 6) (Nat.le_of_ble_eq_true rfl)
  rw [lg_entry_eq]
  generalize (lg_sl [.ref (adV v), .int x, .int 0, .int (Int32.ofNat (sB v).length)] ++ List.replicate (6 - (lg_sl [.ref (adV v), .int x, .int 0, .int (Int32.ofNat (sB v).length)]).length) Slot.unset).toArray = ls at hl ⊢
  have hl : lv_has ls 6 [(0, .ref (adV v)), (1, .int x), (2, .int 0), (3, .int (Int32.ofNat (sB v).length))] := hl
  have hle := sB_lens hv7
  have hx256 : ∃ j, j < 256 ∧ x = Int32.ofNat j := by
    obtain ⟨j, hj, e⟩ := nI_of2 (x := x) (M := 255) (n := 255) rfl (Int32.not_lt.mpr hx0) hx1
    exact ⟨j, by omega, e⟩
  obtain ⟨xj, hxj, hxe⟩ := hx256
  refine lv_iload_n hx hb (by decide +kernel : decode cJ1_indexOfChar_4cfef 0 = .ok (.iload_n 1, 1)) rfl (lv_at hl 1 rfl) ?_
  refine lv_i2b (v := x.toInt8.toInt32) hx hb (by decide +kernel : decode cJ1_indexOfChar_4cfef 1 = .ok (.i2b, 1)) rfl ?_
  refine lv_istore hx hb (by decide +kernel : decode cJ1_indexOfChar_4cfef 2 = .ok (.istore 4, 2)) hl (Nat.le_of_ble_eq_true rfl) rfl (fun ls hl => ?_)
  refine lv_iload_n hx hb (by decide +kernel : decode cJ1_indexOfChar_4cfef 4 = .ok (.iload_n 2, 1)) rfl (lv_at hl 3 rfl) ?_
  refine lv_istore hx hb (by decide +kernel : decode cJ1_indexOfChar_4cfef 5 = .ok (.istore 5, 2)) hl (Nat.le_of_ble_eq_true rfl) rfl (fun ls hl => ?_)
  have key : ∀ (q i : Nat) (ls : Array Slot), i + q = (sB v).length → lv_has ls 6 [(5, .int (nI i)), (4, .int x.toInt8.toInt32), (0, .ref (adV v)), (3, .int (nI (sB v).length))] → (∀ jj, jj < i → ¬ (sB v).getD jj 0 = x) → vmIx x (sB v) 0 = vmIx x ((sB v).drop i) i → W p l e (headSpec (wsJ yJ1_indexOfChar_4cfef cJ1_indexOfChar_4cfef 6 (some .int)) (rmS 0 0)).room s m [Value.ref (adV v), .int x, .int 0, .int (Int32.ofNat (sB v).length)].toArray below meth c s.heap [] 0 0 (MQ below (vp_Si (fun r => r = vmIx x (sB v) 0)) [Value.ref (adV v), .int x, .int 0, .int (Int32.ofNat (sB v).length)].toArray s 0 0 (fun _ => False)) (F0 m 7 ls []) := by
    intro q
    induction q with
    | zero =>
      intro i ls hi hl hno hix
      refine lv_iload hx hb (by decide +kernel : decode cJ1_indexOfChar_4cfef 7 = .ok (.iload 5, 2)) (lv_at hl 0 rfl) ?_
      refine lv_iload_n hx hb (by decide +kernel : decode cJ1_indexOfChar_4cfef 9 = .ok (.iload_n 3, 1)) rfl (lv_at hl 3 rfl) ?_
      refine lv_icmp_ge (tgt := 31) hx hb (by decide +kernel : decode cJ1_indexOfChar_4cfef 10 = .ok (.if_icmp .ge 21, 3)) rfl (fun _ => ?_) (fun h => absurd (nI_le (by omega) (by omega)) h)
      refine lv_iconst (v := -1) hx hb (by decide +kernel : decode cJ1_indexOfChar_4cfef 31 = .ok (.iconst (-1), 1)) (by decide) ?_
      have hz : vmIx x (sB v) 0 = -1 := by rw [hix, List.drop_eq_nil_of_le (by omega)]; rfl
      rw [hz]
      exact W.iret (v := -1) hx hb hr (fun t ht hW => ⟨_, rfl, rfl, ht⟩) hN (by decide +kernel : decode cJ1_indexOfChar_4cfef 32 = .ok (.ireturn, 1)) hlocks
    | succ q ih =>
      intro i ls hi hl hno hix
      have hi2 : i < (sB v).length := by omega
      refine lv_iload hx hb (by decide +kernel : decode cJ1_indexOfChar_4cfef 7 = .ok (.iload 5, 2)) (lv_at hl 0 rfl) ?_
      refine lv_iload_n hx hb (by decide +kernel : decode cJ1_indexOfChar_4cfef 9 = .ok (.iload_n 3, 1)) rfl (lv_at hl 3 rfl) ?_
      refine lv_icmp_ge (tgt := 31) hx hb (by decide +kernel : decode cJ1_indexOfChar_4cfef 10 = .ok (.if_icmp .ge 21, 3)) rfl (fun h => absurd h (nI_ge hi2 (by omega))) (fun _ => ?_)
      refine lv_aload_n hx hb (by decide +kernel : decode cJ1_indexOfChar_4cfef 13 = .ok (.aload_n 0, 1)) rfl (lv_at hl 2 rfl) ?_
      refine lv_iload hx hb (by decide +kernel : decode cJ1_indexOfChar_4cfef 14 = .ok (.iload 5, 2)) (lv_at hl 0 rfl) ?_
      refine va_tb (v := .int ((sB v).getD i 0)) hx hb (hV.1 v hv7).2.2.2 hS (by rw [hle.1]; exact vp_in_nI hi2 (by omega)) (by rw [nI_clamp (by omega), hle.2.1]) (by decide +kernel : decode cJ1_indexOfChar_4cfef 16 = .ok (.baload, 1)) ?_
      refine lv_iload hx hb (by decide +kernel : decode cJ1_indexOfChar_4cfef 17 = .ok (.iload 4, 2)) (lv_at hl 1 rfl) ?_
      obtain ⟨bi, hbi, hbe⟩ := (sB_chr hv7 hi2).2
      have hdr : (sB v).drop i = (sB v).getD i 0 :: (sB v).drop (i + 1) := by rw [List.drop_eq_getElem_cons hi2, List.getD_eq_getElem?_getD, List.getElem?_eq_getElem hi2]; rfl
      have hiff : (sB v).getD i 0 = x.toInt8.toInt32 ↔ (sB v).getD i 0 = x := by rw [hbe, hxe]; exact i2b_eq hbi hxj
      refine lv_icmp_ne (tgt := 25) hx hb (by decide +kernel : decode cJ1_indexOfChar_4cfef 19 = .ok (.if_icmp .ne 6, 3)) rfl (fun hne => ?_) (fun heq => ?_)
      · refine lv_iinc (k := 0) (v := nI (i + 1)) hx hb (by decide +kernel : decode cJ1_indexOfChar_4cfef 25 = .ok (.iinc 5 1, 3)) hl rfl (nI_1 i) (Nat.le_of_ble_eq_true rfl) rfl (fun ls hl => ?_)
        refine lv_goto (tgt := 7) hx hb (by decide +kernel : decode cJ1_indexOfChar_4cfef 28 = .ok (.goto (-21), 3)) rfl ?_
        have hnx : ¬ (sB v).getD i 0 = x := fun z => hne (hiff.mpr z)
        refine ih (i + 1) ls (by omega) hl (fun jj hj => ?_) ?_
        · rcases Nat.lt_succ_iff_lt_or_eq.mp hj with h | rfl
          · exact hno jj h
          · exact hnx
        · rw [hix, hdr]
          show (if _ then _ else _) = _
          rw [if_neg hnx]
      · refine lv_iload hx hb (by decide +kernel : decode cJ1_indexOfChar_4cfef 22 = .ok (.iload 5, 2)) (lv_at hl 0 rfl) ?_
        have hz : vmIx x (sB v) 0 = nI i := by
          rw [hix, hdr]
          show (if _ then _ else _) = _
          rw [if_pos (hiff.mp heq)]
          rfl
        rw [hz]
        exact W.iret (v := nI i) hx hb hr (fun t ht hW => ⟨_, rfl, rfl, ht⟩) hN (by decide +kernel : decode cJ1_indexOfChar_4cfef 24 = .ok (.ireturn, 1)) hlocks
  exact key (sB v).length 0 ls (by omega) (lv_sub hl [0, 1, 2, 5] rfl) (fun jj hj => absurd hj (Nat.not_lt_zero _)) rfl
set_option maxRecDepth 1000000 in
theorem tl_RJ1_88 : Cond.methodLink RJ1 88 yJ1_canEncode_9a6ad ∈ TB := ckAt_TB (i := 903) (by decide +kernel)
set_option maxRecDepth 1000000 in
theorem tl_RJ1_92 : Cond.methodLink RJ1 92 Lib.Math.max.name ∈ TB := ckAt_TB (i := 906) (by decide +kernel)
set_option maxRecDepth 1000000 in
theorem tl_RJ1_38 : Cond.methodLink RJ1 38 Lib.Math.min.name ∈ TB := ckAt_TB (i := 907) (by decide +kernel)
set_option maxRecDepth 1000000 in
theorem tl_RJ1_95 : Cond.methodLink RJ1 95 yJ1_indexOfChar_4cfef ∈ TB := ckAt_TB (i := 908) (by decide +kernel)
set_option maxRecDepth 100000 in
set_option maxHeartbeats 4000000 in
theorem sm_J1_indexOf_4cfef (l : Launch) (rx adV : Nat → Nat) (v : Nat) (hv7 : v < 7) (x : Int32) : Met l yJ1_indexOf_4cfef (wsJ yJ1_indexOf_4cfef cJ1_indexOf_4cfef 4 (some .int)) (rmS 1 30) (va_Pc [.ref (adV v), .int x, .int 0, .int (Int32.ofNat (sB v).length)] (PS rx adV)) (vp_Si (fun r => r = vmIx x (sB v) 0)) 0 0 (fun _ => False) := by
  refine Met.ofW (cc := cJ1_indexOf_4cfef) (maxL := 4) (ret := some .int) (by decide) rfl ?_
  intro p e s m args below meth c s₁ B hml hv
  obtain ⟨rfl, hX⟩ := hv
  obtain ⟨hV, hZ, hZq⟩ := id hX
  have hx := B.exec
  have hb := B.bytes
  have hr := B.returns
  have hts : ∀ w ∈ wsJ yJ1_indexOf_4cfef cJ1_indexOf_4cfef 4 (some .int), w.before [.ref (adV v), .int x, .int 0, .int (Int32.ofNat (sB v).length)].toArray s = true := atoms_spec (ws := wsJ yJ1_indexOf_4cfef cJ1_indexOf_4cfef 4 (some .int)) B.pre
  have hts : ∀ w ∈ TB, w.before [.ref (adV v), .int x, .int 0, .int (Int32.ofNat (sB v).length)].toArray s = true := fun w h => hts w (List.mem_cons_of_mem _ h)
  have hown : s.vm.findClass RJ1 = some m.cls := findClass_of_methodNamed B.named
  have hlocks := B.notSynchronized
  have hS : va_S (fun _ => False) s.heap s.heap [] := va_S.rf
  have S : CallFix p m c cJ1_indexOf_4cfef 4 s [.ref (adV v), .int x, .int 0, .int (Int32.ofNat (sB v).length)].toArray TB RJ1 := ⟨hx, hb, hml, hown, hts⟩
  have hN : ∀ q ∈ ([] : List Loc), (fun _ : Nat => False) q.base := fun _ h => absurd h List.not_mem_nil
  have hl := lv_entry [.ref (adV v), .int x, .int 0, .int (Int32.ofNat (sB v).length)] (n := 4) (Nat.le_of_ble_eq_true rfl)
  rw [lg_entry_eq]
  generalize (lg_sl [.ref (adV v), .int x, .int 0, .int (Int32.ofNat (sB v).length)] ++ List.replicate (4 - (lg_sl [.ref (adV v), .int x, .int 0, .int (Int32.ofNat (sB v).length)]).length) Slot.unset).toArray = ls at hl ⊢
  have hl : lv_has ls 4 [(0, .ref (adV v)), (1, .int x), (2, .int 0), (3, .int (Int32.ofNat (sB v).length))] := hl
  have hle := sB_lens hv7
  refine lv_iload_n hx hb (by decide +kernel : decode cJ1_indexOf_4cfef 0 = .ok (.iload_n 1, 1)) rfl (lv_at hl 1 rfl) ?_
  refine vp_callSi (W.runS (As := [.int x]) (rest := []) S (sm_J1_canEncode_9a6ad l rx adV x) ⟨callB_of 1 hts (wsJ_good tc_J1_canEncode_9a6ad) rfl rfl rfl (hts _ tn_RJ1) (hts _ tl_RJ1_88) (by decide +kernel) ⟨Nat.le_of_ble_eq_true rfl, Nat.le_of_ble_eq_true rfl⟩, hts _ tt_J1_canEncode_9a6ad⟩ ⟨(fun a U g mk q => ⟨q.1, q.2.same rfl rfl⟩), (fun U hU hW => ⟨rfl, hX.pass hU hW⟩)⟩ rfl rfl hl.1 rfl (lv_room (Nat.le_of_ble_eq_true rfl)) (by decide +kernel : decode cJ1_indexOf_4cfef 1 = .ok (.invokestatic 88, 3)) ⟨Nat.zero_le _, Nat.zero_le _⟩) (fun r hr0 => ?_)
  by_cases hin : 0 ≤ x ∧ x ≤ 255
  · rw [if_pos hin] at hr0
    subst hr0
    refine lv_if_ne (tgt := 9) hx hb (by decide +kernel : decode cJ1_indexOf_4cfef 4 = .ok (.ifCond .ne 5, 3)) rfl (fun _ => ?_) (fun h => absurd h (by decide))
    refine lv_iload_n hx hb (by decide +kernel : decode cJ1_indexOf_4cfef 9 = .ok (.iload_n 2, 1)) rfl (lv_at hl 2 rfl) ?_
    refine lv_iconst (v := 0) hx hb (by decide +kernel : decode cJ1_indexOf_4cfef 10 = .ok (.iconst 0, 1)) (by decide) ?_
    refine va_mmax hx hb (by rw [hml]; exact hl.1.symm) hown (hts _ tl_RJ1_92) (hts _ tt_max) (hts _ tn_math) (hts _ tc_max) (Nat.le_of_ble_eq_true rfl) (Nat.le_of_ble_eq_true rfl) (Nat.zero_le _) (Nat.zero_le _) (by decide +kernel : decode cJ1_indexOf_4cfef 11 = .ok (.invokestatic 92, 3)) ?_
    show W _ _ _ _ _ _ _ _ _ _ _ _ _ _ _ (F0 m 14 ls [.int 0])
    refine lv_istore_n hx hb (by decide +kernel : decode cJ1_indexOf_4cfef 14 = .ok (.istore_n 2, 1)) rfl hl (Nat.le_of_ble_eq_true rfl) rfl (fun ls hl => ?_)
    refine lv_iload_n hx hb (by decide +kernel : decode cJ1_indexOf_4cfef 15 = .ok (.iload_n 3, 1)) rfl (lv_at hl 3 rfl) ?_
    refine lv_aload_n hx hb (by decide +kernel : decode cJ1_indexOf_4cfef 16 = .ok (.aload_n 0, 1)) rfl (lv_at hl 1 rfl) ?_
    refine va_tlen (v := Int32.ofNat (sB v).length) hx hb (hV.1 v hv7).2.2.2 hS (by rw [hle.1]) (by decide +kernel : decode cJ1_indexOf_4cfef 17 = .ok (.arraylength, 1)) ?_
    refine va_mmin hx hb (by rw [hml]; exact hl.1.symm) hown (hts _ tl_RJ1_38) (hts _ tt_min) (hts _ tn_math) (hts _ tc_min) (Nat.le_of_ble_eq_true rfl) (Nat.le_of_ble_eq_true rfl) (Nat.zero_le _) (Nat.zero_le _) (by decide +kernel : decode cJ1_indexOf_4cfef 18 = .ok (.invokestatic 38, 3)) ?_
    rw [if_neg (Int32.lt_irrefl)]
    refine lv_istore_n hx hb (by decide +kernel : decode cJ1_indexOf_4cfef 21 = .ok (.istore_n 3, 1)) rfl hl (Nat.le_of_ble_eq_true rfl) rfl (fun ls hl => ?_)
    refine lv_iload_n hx hb (by decide +kernel : decode cJ1_indexOf_4cfef 22 = .ok (.iload_n 2, 1)) rfl (lv_at hl 1 rfl) ?_
    refine lv_iload_n hx hb (by decide +kernel : decode cJ1_indexOf_4cfef 23 = .ok (.iload_n 3, 1)) rfl (lv_at hl 0 rfl) ?_
    refine lv_icmp_lt (tgt := 29) hx hb (by decide +kernel : decode cJ1_indexOf_4cfef 24 = .ok (.if_icmp .lt 5, 3)) rfl (fun _ => ?_) (fun hge => ?_)
    · refine lv_aload_n hx hb (by decide +kernel : decode cJ1_indexOf_4cfef 29 = .ok (.aload_n 0, 1)) rfl (lv_at hl 2 rfl) ?_
      refine lv_iload_n hx hb (by decide +kernel : decode cJ1_indexOf_4cfef 30 = .ok (.iload_n 1, 1)) rfl (lv_at hl 3 rfl) ?_
      refine lv_iload_n hx hb (by decide +kernel : decode cJ1_indexOf_4cfef 31 = .ok (.iload_n 2, 1)) rfl (lv_at hl 1 rfl) ?_
      refine lv_iload_n hx hb (by decide +kernel : decode cJ1_indexOf_4cfef 32 = .ok (.iload_n 3, 1)) rfl (lv_at hl 0 rfl) ?_
      refine vp_callSi (W.runS (As := [.ref (adV v), .int x, .int 0, .int (Int32.ofNat (sB v).length)]) (rest := []) S (sm_J1_indexOfChar_4cfef l rx adV v hv7 x hin.1 hin.2) ⟨callB_of 4 hts (wsJ_good tc_J1_indexOfChar_4cfef) rfl rfl rfl (hts _ tn_RJ1) (hts _ tl_RJ1_95) (by decide +kernel) ⟨Nat.le_of_ble_eq_true rfl, Nat.le_of_ble_eq_true rfl⟩, hts _ tt_J1_indexOfChar_4cfef⟩ ⟨(fun a U g mk q => ⟨q.1, q.2.same rfl rfl⟩), (fun U hU hW => ⟨rfl, hX.pass hU hW⟩)⟩ rfl rfl hl.1 rfl (lv_room (Nat.le_of_ble_eq_true rfl)) (by decide +kernel : decode cJ1_indexOf_4cfef 33 = .ok (.invokestatic 95, 3)) ⟨Nat.zero_le _, Nat.zero_le _⟩) (fun r hr0 => ?_)
      subst hr0
      exact W.iret (v := vmIx x (sB v) 0) hx hb hr (fun t ht hW => ⟨_, rfl, rfl, ht⟩) hN (by decide +kernel : decode cJ1_indexOf_4cfef 36 = .ok (.ireturn, 1)) hlocks
    · refine lv_iconst (v := -1) hx hb (by decide +kernel : decode cJ1_indexOf_4cfef 27 = .ok (.iconst (-1), 1)) (by decide) ?_
      have hz : sB v = [] := by
        apply List.eq_nil_of_length_eq_zero
        rcases Nat.eq_zero_or_pos (sB v).length with h | h
        · exact h
        · exact absurd (nI_lt h (by omega)) hge
      have hz2 : vmIx x (sB v) 0 = -1 := by rw [hz]; rfl
      rw [hz2]
      exact W.iret (v := -1) hx hb hr (fun t ht hW => ⟨_, rfl, rfl, ht⟩) hN (by decide +kernel : decode cJ1_indexOf_4cfef 28 = .ok (.ireturn, 1)) hlocks
  · rw [if_neg hin] at hr0
    subst hr0
    refine lv_if_ne (tgt := 9) hx hb (by decide +kernel : decode cJ1_indexOf_4cfef 4 = .ok (.ifCond .ne 5, 3)) rfl (fun h => absurd rfl h) (fun _ => ?_)
    refine lv_iconst (v := -1) hx hb (by decide +kernel : decode cJ1_indexOf_4cfef 7 = .ok (.iconst (-1), 1)) (by decide) ?_
    have hz2 : vmIx x (sB v) 0 = -1 := vmIx_none (fun b hb2 e => hin ?_)
    · rw [hz2]
      exact W.iret (v := -1) hx hb hr (fun t ht hW => ⟨_, rfl, rfl, ht⟩) hN (by decide +kernel : decode cJ1_indexOf_4cfef 8 = .ok (.ireturn, 1)) hlocks
    · obtain ⟨j, hj, rfl⟩ := List.mem_iff_getElem.mp hb2
      obtain ⟨i, hi, he⟩ := (sB_chr hv7 hj).2
      rw [List.getD_eq_getElem?_getD, List.getElem?_eq_getElem hj] at he
      have he : (sB v)[j] = Int32.ofNat i := he
      rw [he] at e
      rw [← e]
      exact ⟨nI_pos' (by omega), nI_le (b := 255) (by omega) (by omega)⟩
set_option maxRecDepth 1000000 in
theorem tl_RJ0_505 : Cond.methodLink RJ0 505 yJ0_length_8abf5 ∈ TB := ckAt_TB (i := 899) (by decide +kernel)
set_option maxRecDepth 1000000 in
theorem tl_RJ0_637 : Cond.methodLink RJ0 637 yJ1_indexOf_4cfef ∈ TB := ckAt_TB (i := 900) (by decide +kernel)
set_option maxRecDepth 100000 in
set_option maxHeartbeats 4000000 in
theorem sm_J0_indexOf_7cf53 (l : Launch) (rx adV : Nat → Nat) (v : Nat) (hv7 : v < 7) (x : Int32) : Met l yJ0_indexOf_7cf53 (wsJ yJ0_indexOf_7cf53 cJ0_indexOf_7cf53 3 (some .int)) (rmS 2 53) (va_Pc [.ref (rx (vmBase + v)), .int x, .int 0] (PS rx adV)) (vp_Si (fun r => r = vmIx x (sB v) 0)) 0 0 (fun _ => False) := by
  refine Met.ofW (cc := cJ0_indexOf_7cf53) (maxL := 3) (ret := some .int) (by decide) rfl ?_
  intro p e s m args below meth c s₁ B hml hv
  obtain ⟨rfl, hX⟩ := hv
  obtain ⟨hV, hZ, hZq⟩ := id hX
  have hx := B.exec
  have hb := B.bytes
  have hr := B.returns
  have hts : ∀ w ∈ wsJ yJ0_indexOf_7cf53 cJ0_indexOf_7cf53 3 (some .int), w.before [.ref (rx (vmBase + v)), .int x, .int 0].toArray s = true := atoms_spec (ws := wsJ yJ0_indexOf_7cf53 cJ0_indexOf_7cf53 3 (some .int)) B.pre
  have hts : ∀ w ∈ TB, w.before [.ref (rx (vmBase + v)), .int x, .int 0].toArray s = true := fun w h => hts w (List.mem_cons_of_mem _ h)
  have hown : s.vm.findClass RJ0 = some m.cls := findClass_of_methodNamed B.named
  have hlocks := B.notSynchronized
  have hS : va_S (fun _ => False) s.heap s.heap [] := va_S.rf
  have S : CallFix p m c cJ0_indexOf_7cf53 3 s [.ref (rx (vmBase + v)), .int x, .int 0].toArray TB RJ0 := ⟨hx, hb, hml, hown, hts⟩
  have hN : ∀ q ∈ ([] : List Loc), (fun _ : Nat => False) q.base := fun _ h => absurd h List.not_mem_nil
  have hl := lv_entry [.ref (rx (vmBase + v)), .int x, .int 0] (n := 3) (Nat.le_of_ble_eq_true rfl)
  rw [lg_entry_eq]
  generalize (lg_sl [.ref (rx (vmBase + v)), .int x, .int 0] ++ List.replicate (3 - (lg_sl [.ref (rx (vmBase + v)), .int x, .int 0]).length) Slot.unset).toArray = ls at hl ⊢
  have hl : lv_has ls 3 [(0, .ref (rx (vmBase + v))), (1, .int x), (2, .int 0)] := hl
  refine lv_aload_n hx hb (by decide +kernel : decode cJ0_indexOf_7cf53 0 = .ok (.aload_n 0, 1)) rfl (lv_at hl 0 rfl) ?_
  refine vp_callSi (W.runV (C := RJ0) (b := rx (vmBase + v)) (As := []) (rest := []) S (sm_J0_isLatin1_aae02 l rx adV v hv7) ⟨callB_of 0 hts (wsJ_good tc_J0_isLatin1_aae02) rfl rfl rfl (hts _ tn_RJ0) (hts _ tl_RJ0_492) (by decide +kernel) ⟨Nat.le_of_ble_eq_true rfl, Nat.le_of_ble_eq_true rfl⟩, hts _ ti_J0_isLatin1_aae02, hts _ ts_J0_isLatin1_aae02⟩ ⟨(fun a U g mk q => ⟨q.1, q.2.same rfl rfl⟩), (vk_recv (adK := fun i => rx (vmBase + i)) (i := v) hV hv7 hS), (fun U hU hW => ⟨rfl, hX.pass hU hW⟩)⟩ rfl rfl hl.1 rfl (lv_room (Nat.le_of_ble_eq_true rfl)) (by decide +kernel : decode cJ0_indexOf_7cf53 1 = .ok (.invokevirtual 492, 3)) ⟨Nat.zero_le _, Nat.zero_le _⟩) (fun r hr0 => ?_)
  subst hr0
  refine lv_if_eq (tgt := 23) hx hb (by decide +kernel : decode cJ0_indexOf_7cf53 4 = .ok (.ifCond .eq 19, 3)) rfl (fun h => absurd h (by decide)) (fun _ => ?_)
  refine lv_aload_n hx hb (by decide +kernel : decode cJ0_indexOf_7cf53 7 = .ok (.aload_n 0, 1)) rfl (lv_at hl 0 rfl) ?_
  refine vk_getf hx hb (hV.1 v hv7).2.2.1 hS hown (hts _ tf_RJ0_9) (fun _ h => h) (by decide +kernel : decode cJ0_indexOf_7cf53 8 = .ok (.getfield 9, 3)) ?_
  refine lv_iload_n hx hb (by decide +kernel : decode cJ0_indexOf_7cf53 11 = .ok (.iload_n 1, 1)) rfl (lv_at hl 1 rfl) ?_
  refine lv_iload_n hx hb (by decide +kernel : decode cJ0_indexOf_7cf53 12 = .ok (.iload_n 2, 1)) rfl (lv_at hl 2 rfl) ?_
  refine lv_aload_n hx hb (by decide +kernel : decode cJ0_indexOf_7cf53 13 = .ok (.aload_n 0, 1)) rfl (lv_at hl 0 rfl) ?_
  refine vp_callSi (W.runV (C := RJ0) (b := rx (vmBase + v)) (As := []) (rest := [.int 0, .int x, .ref (adV v)]) S (sm_J0_length_8abf5 l rx adV v hv7) ⟨callB_of 0 hts (wsJ_good tc_J0_length_8abf5) rfl rfl rfl (hts _ tn_RJ0) (hts _ tl_RJ0_505) (by decide +kernel) ⟨Nat.le_of_ble_eq_true rfl, Nat.le_of_ble_eq_true rfl⟩, hts _ ti_J0_length_8abf5, hts _ ts_J0_length_8abf5⟩ ⟨(fun a U g mk q => ⟨q.1, q.2.same rfl rfl⟩), (vk_recv (adK := fun i => rx (vmBase + i)) (i := v) hV hv7 hS), (fun U hU hW => ⟨rfl, hX.pass hU hW⟩)⟩ rfl rfl hl.1 rfl (lv_room (Nat.le_of_ble_eq_true rfl)) (by decide +kernel : decode cJ0_indexOf_7cf53 14 = .ok (.invokevirtual 505, 3)) ⟨Nat.zero_le _, Nat.zero_le _⟩) (fun r hr0 => ?_)
  subst hr0
  refine vp_callSi (W.runS (As := [.ref (adV v), .int x, .int 0, .int (Int32.ofNat (sB v).length)]) (rest := []) S (sm_J1_indexOf_4cfef l rx adV v hv7 x) ⟨callB_of 4 hts (wsJ_good tc_J1_indexOf_4cfef) rfl rfl rfl (hts _ tn_RJ1) (hts _ tl_RJ0_637) (by decide +kernel) ⟨Nat.le_of_ble_eq_true rfl, Nat.le_of_ble_eq_true rfl⟩, hts _ tt_J1_indexOf_4cfef⟩ ⟨(fun a U g mk q => ⟨q.1, q.2.same rfl rfl⟩), (fun U hU hW => ⟨rfl, hX.pass hU hW⟩)⟩ rfl rfl hl.1 rfl (lv_room (Nat.le_of_ble_eq_true rfl)) (by decide +kernel : decode cJ0_indexOf_7cf53 17 = .ok (.invokestatic 637, 3)) ⟨Nat.zero_le _, Nat.zero_le _⟩) (fun r hr0 => ?_)
  subst hr0
  refine lv_goto (tgt := 36) hx hb (by decide +kernel : decode cJ0_indexOf_7cf53 20 = .ok (.goto 16, 3)) rfl ?_
  exact W.iret (v := vmIx x (sB v) 0) hx hb hr (fun t ht hW => ⟨_, rfl, rfl, ht⟩) hN (by decide +kernel : decode cJ0_indexOf_7cf53 36 = .ok (.ireturn, 1)) hlocks
set_option maxRecDepth 1000000 in
theorem tl_RJ0_633 : Cond.methodLink RJ0 633 yJ0_indexOf_7cf53 ∈ TB := ckAt_TB (i := 895) (by decide +kernel)
set_option maxRecDepth 100000 in
set_option maxHeartbeats 4000000 in
theorem sm_J0_indexOf_0f7a4 (l : Launch) (rx adV : Nat → Nat) (v : Nat) (hv7 : v < 7) (x : Int32) : Met l yJ0_indexOf_0f7a4 (wsJ yJ0_indexOf_0f7a4 cJ0_indexOf_0f7a4 2 (some .int)) (rmS 3 75) (va_Pc [.ref (rx (vmBase + v)), .int x] (PS rx adV)) (vp_Si (fun r => r = vmIx x (sB v) 0)) 0 0 (fun _ => False) := by
  refine Met.ofW (cc := cJ0_indexOf_0f7a4) (maxL := 2) (ret := some .int) (by decide) rfl ?_
  intro p e s m args below meth c s₁ B hml hv
  obtain ⟨rfl, hX⟩ := hv
  obtain ⟨hV, hZ, hZq⟩ := id hX
  have hx := B.exec
  have hb := B.bytes
  have hr := B.returns
  have hts : ∀ w ∈ wsJ yJ0_indexOf_0f7a4 cJ0_indexOf_0f7a4 2 (some .int), w.before [.ref (rx (vmBase + v)), .int x].toArray s = true := atoms_spec (ws := wsJ yJ0_indexOf_0f7a4 cJ0_indexOf_0f7a4 2 (some .int)) B.pre
  have hts : ∀ w ∈ TB, w.before [.ref (rx (vmBase + v)), .int x].toArray s = true := fun w h => hts w (List.mem_cons_of_mem _ h)
  have hown : s.vm.findClass RJ0 = some m.cls := findClass_of_methodNamed B.named
  have hlocks := B.notSynchronized
  have hS : va_S (fun _ => False) s.heap s.heap [] := va_S.rf
  have S : CallFix p m c cJ0_indexOf_0f7a4 2 s [.ref (rx (vmBase + v)), .int x].toArray TB RJ0 := ⟨hx, hb, hml, hown, hts⟩
  have hN : ∀ q ∈ ([] : List Loc), (fun _ : Nat => False) q.base := fun _ h => absurd h List.not_mem_nil
  have hl := lv_entry [.ref (rx (vmBase + v)), .int x] (n := 2) (Nat.le_of_ble_eq_true rfl)
  rw [lg_entry_eq]
  generalize (lg_sl [.ref (rx (vmBase + v)), .int x] ++ List.replicate (2 - (lg_sl [.ref (rx (vmBase + v)), .int x]).length) Slot.unset).toArray = ls at hl ⊢
  have hl : lv_has ls 2 [(0, .ref (rx (vmBase + v))), (1, .int x)] := hl
  refine lv_aload_n hx hb (by decide +kernel : decode cJ0_indexOf_0f7a4 0 = .ok (.aload_n 0, 1)) rfl (lv_at hl 0 rfl) ?_
  refine lv_iload_n hx hb (by decide +kernel : decode cJ0_indexOf_0f7a4 1 = .ok (.iload_n 1, 1)) rfl (lv_at hl 1 rfl) ?_
  refine lv_iconst (v := 0) hx hb (by decide +kernel : decode cJ0_indexOf_0f7a4 2 = .ok (.iconst 0, 1)) (by decide) ?_
  refine vp_callSi (W.runV (C := RJ0) (b := rx (vmBase + v)) (As := [.int x, .int 0]) (rest := []) S (sm_J0_indexOf_7cf53 l rx adV v hv7 x) ⟨callB_of 2 hts (wsJ_good tc_J0_indexOf_7cf53) rfl rfl rfl (hts _ tn_RJ0) (hts _ tl_RJ0_633) (by decide +kernel) ⟨Nat.le_of_ble_eq_true rfl, Nat.le_of_ble_eq_true rfl⟩, hts _ ti_J0_indexOf_7cf53, hts _ ts_J0_indexOf_7cf53⟩ ⟨(fun a U g mk q => ⟨q.1, q.2.same rfl rfl⟩), (vk_recv (adK := fun i => rx (vmBase + i)) (i := v) hV hv7 hS), (fun U hU hW => ⟨rfl, hX.pass hU hW⟩)⟩ rfl rfl hl.1 rfl (lv_room (Nat.le_of_ble_eq_true rfl)) (by decide +kernel : decode cJ0_indexOf_0f7a4 3 = .ok (.invokevirtual 633, 3)) ⟨Nat.zero_le _, Nat.zero_le _⟩) (fun r hr0 => ?_)
  subst hr0
  exact W.iret (v := vmIx x (sB v) 0) hx hb hr (fun t ht hW => ⟨_, rfl, rfl, ht⟩) hN (by decide +kernel : decode cJ0_indexOf_0f7a4 6 = .ok (.ireturn, 1)) hlocks
set_option maxRecDepth 100000 in
set_option maxHeartbeats 4000000 in
theorem strAll (l : Launch) : StrAll l := by
  intro p e R s m args below meth c rx k A H locs cells slots Q pc j v ls rest hX hS S hv7 hsz hf hlo hcat hc hs hd
  obtain ⟨⟨adV, hV⟩, -, hZ, hZq⟩ := hX
  refine ⟨fun hlk kk => ?_, fun hlk x hin kk => ?_, fun hlk x kk => ?_⟩
  · refine vp_callSi (W.runV (C := RJ0) (b := rx (vmBase + v)) (As := []) (rest := rest) S (sm_J0_length_8abf5 l rx adV v hv7) ⟨callB_of 0 S.2.2.2.2 (wsJ_good tc_J0_length_8abf5) rfl rfl rfl (S.2.2.2.2 _ tn_RJ0) (S.2.2.2.2 _ hlk) (by decide +kernel) ⟨Nat.le_trans (Nat.le_of_ble_eq_true rfl) hf, Nat.le_trans (Nat.le_of_ble_eq_true rfl) hlo⟩, S.2.2.2.2 _ ti_J0_length_8abf5, S.2.2.2.2 _ ts_J0_length_8abf5⟩ ⟨(fun a U g mk q => ⟨q.1, q.2.same rfl rfl⟩), vk_recv (adK := fun i => rx (vmBase + i)) (i := v) hV hv7 hS, fun U hU hW => ⟨rfl, PS.of hV hZ hZq hS hU hW⟩⟩ rfl rfl hsz rfl (lv_room hcat) hd ⟨hc, hs⟩) (fun r hr0 => ?_)
    subst hr0
    exact kk
  · refine vp_callSi (W.runV (C := RJ0) (b := rx (vmBase + v)) (As := [.int x]) (rest := rest) S (sm_J0_charAt_5068e l rx adV v hv7 x hin) ⟨callB_of 1 S.2.2.2.2 (wsJ_good tc_J0_charAt_5068e) rfl rfl rfl (S.2.2.2.2 _ tn_RJ0) (S.2.2.2.2 _ hlk) (by decide +kernel) ⟨Nat.le_trans (Nat.le_of_ble_eq_true rfl) hf, Nat.le_trans (Nat.le_of_ble_eq_true rfl) hlo⟩, S.2.2.2.2 _ ti_J0_charAt_5068e, S.2.2.2.2 _ ts_J0_charAt_5068e⟩ ⟨(fun a U g mk q => ⟨q.1, q.2.same rfl rfl⟩), vk_recv (adK := fun i => rx (vmBase + i)) (i := v) hV hv7 hS, fun U hU hW => ⟨rfl, PS.of hV hZ hZq hS hU hW⟩⟩ rfl rfl hsz rfl (lv_room hcat) hd ⟨hc, hs⟩) (fun r hr0 => ?_)
    subst hr0
    exact kk
  · refine vp_callSi (W.runV (C := RJ0) (b := rx (vmBase + v)) (As := [.int x]) (rest := rest) S (sm_J0_indexOf_0f7a4 l rx adV v hv7 x) ⟨callB_of 1 S.2.2.2.2 (wsJ_good tc_J0_indexOf_0f7a4) rfl rfl rfl (S.2.2.2.2 _ tn_RJ0) (S.2.2.2.2 _ hlk) (by decide +kernel) ⟨Nat.le_trans (Nat.le_of_ble_eq_true rfl) hf, Nat.le_trans (Nat.le_of_ble_eq_true rfl) hlo⟩, S.2.2.2.2 _ ti_J0_indexOf_0f7a4, S.2.2.2.2 _ ts_J0_indexOf_0f7a4⟩ ⟨(fun a U g mk q => ⟨q.1, q.2.same rfl rfl⟩), vk_recv (adK := fun i => rx (vmBase + i)) (i := v) hV hv7 hS, fun U hU hW => ⟨rfl, PS.of hV hZ hZq hS hU hW⟩⟩ rfl rfl hsz rfl (lv_room hcat) hd ⟨hc, hs⟩) (fun r hr0 => ?_)
    subst hr0
    exact kk
