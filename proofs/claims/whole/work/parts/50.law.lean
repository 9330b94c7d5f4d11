/-! The law's loop over both, as WPs -/
theorem st_scr {pc tg : Nat} {cv : Int32} {j : Int32} {L : Nat} {c r : vmD} {lo : vmL} {st : List Value} {Q : Option Value → vmW → Prop} (hI : mI 406 pc = some (.iaload, 1, cv, tg)) (hj : ixOk j L) (h : ∀ y, y = gA r 1000 j.toNatClampNeg → vmWp 406 (pc + 1) lo (.int y :: st) (wC L c r) Q) : vmWp 406 pc lo (.int j :: .ref 1000 :: st) (wC L c r) Q := by
  refine vmWp.one hI ?_ (h _ rfl)
  show (bif (vmIs (wC L c r) 1000 20 || (Nat.beq 1000 1000 && Nat.beq 406 406)) then (if ¬ (j < 0 ∨ S0n L 1000 ≤ j.toNatClampNeg) then vmGo _ _ _ _ else vmNo) else vmNo) = _
  rw [show (vmIs (wC L c r) 1000 20 || (Nat.beq 1000 1000 && Nat.beq 406 406)) = true from rfl]
  exact if_pos hj
set_option maxRecDepth 100000 in
def LAW_647 (b18 : Int32 → vmD → vmD → Prop) (L : Nat) (x3 : Int32) (c r : vmD) (Q : Int32 → vmD → vmD → Prop) : Prop :=
  bnd (x3 + 4) fun x3_22 =>
  b18 x3_22 c r
set_option maxRecDepth 100000 in
set_option maxHeartbeats 8000000 in
theorem tLAW_647 {L : Nat} {Qo : Option Value → vmW → Prop} {b18 : Int32 → vmD → vmD → Prop} {Q : Int32 → vmD → vmD → Prop} (hb18 : ∀ x3 c r, b18 x3 c r → vmWp 406 18 [(0, .ref 1000), (1, .ref 0), (2, .ref 42), (3, .int x3)] [] (wC L c r) Qo) (hQ : ∀ x c r, Q x c r → Qo (some (.int x)) (wC L c r)) (x3 : Int32) (c r : vmD) (h : LAW_647 b18 L x3 c r Q) : vmWp 406 647 [(0, .ref 1000), (1, .ref 0), (2, .ref 42), (3, .int x3)] [] (wC L c r) Qo := by
  unfold LAW_647 at h
  refine st_go 1 (pc' := 650) (lo' := [(3, .int (x3 + 4)), (0, .ref 1000), (1, .ref 0), (2, .ref 42)]) (st' := []) rfl ?_
  refine st_locI (fun x3_22 hy_x3_22 => ?_)
  have h := h x3_22 hy_x3_22
  refine st_go 1 (pc' := 18) (lo' := [(3, .int x3_22), (0, .ref 1000), (1, .ref 0), (2, .ref 42)]) (st' := []) rfl ?_
  refine vmWp.sub (lo' := [(0, .ref 1000), (1, .ref 0), (2, .ref 42), (3, .int x3_22)]) ⟨rfl, rfl, rfl, rfl, trivial⟩ ?_
  exact hb18 x3_22 c r h
set_option maxRecDepth 100000 in
def LAW_18 (L : Nat) (Q : Int32 → vmD → vmD → Prop) : Nat → Int32 → vmD → vmD → Prop
  | 0, _, _, _ => False
  | n + 1, x3, c, r => if ((Int32.ofNat L) - 4) < x3 then
  (Q 1 c r)
  else
  (ixOk x3 L ∧
  bnd (gA r 1000 x3.toNatClampNeg) fun y_3 =>
  if (y_3 &&& 31) = 0 then
  (ixOk (x3 + 1) L ∧
  bnd (gA r 1000 (x3 + 1).toNatClampNeg) fun y_6 =>
  ixOk (x3 + 2) L ∧
  bnd (gA r 1000 (x3 + 2).toNatClampNeg) fun y_8 =>
  ixOk (x3 + 3) L ∧
  bnd (gA r 1000 (x3 + 3).toNatClampNeg) fun y_10 =>
  OF_feed (((Int32.toInt64 y_6) <<< ((Int32.toInt64 (32 : Int32)) &&& 63)) ||| ((Int32.toInt64 y_8) &&& 4294967295)) y_10 c fun v_12 c_11 =>
  ixOk (x3 + 1) L ∧
  bnd (gA r 1000 (x3 + 1).toNatClampNeg) fun y_14 =>
  ixOk (x3 + 2) L ∧
  bnd (gA r 1000 (x3 + 2).toNatClampNeg) fun y_16 =>
  ixOk (x3 + 3) L ∧
  bnd (gA r 1000 (x3 + 3).toNatClampNeg) fun y_18 =>
  MO_feed (((Int32.toInt64 y_14) <<< ((Int32.toInt64 (32 : Int32)) &&& 63)) ||| ((Int32.toInt64 y_16) &&& 4294967295)) y_18 r fun v_20 r_19 =>
  if v_12 = v_20 then
  (LAW_647 (LAW_18 L Q n) L x3 c_11 r_19 Q)
  else
  (Q 0 c_11 r_19))
  else
  if (y_3 &&& 31) = 1 then
  (OF_forge c fun v_25 c_24 =>
  MO_forge r fun v_27 r_26 =>
  if v_25 = v_27 then
  (LAW_647 (LAW_18 L Q n) L x3 c_24 r_26 Q)
  else
  (Q 0 c_24 r_26))
  else
  if (y_3 &&& 31) = 2 then
  (ixOk (x3 + 1) L ∧
  bnd (gA r 1000 (x3 + 1).toNatClampNeg) fun y_31 =>
  OF_told y_31 c fun v_33 c_32 =>
  ixOk (x3 + 1) L ∧
  bnd (gA r 1000 (x3 + 1).toNatClampNeg) fun y_35 =>
  MO_told y_35 r fun v_37 r_36 =>
  if v_33 = v_37 then
  (LAW_647 (LAW_18 L Q n) L x3 c_32 r_36 Q)
  else
  (Q 0 c_32 r_36))
  else
  if (y_3 &&& 31) = 3 then
  (ixOk (x3 + 1) L ∧
  bnd (gA r 1000 (x3 + 1).toNatClampNeg) fun y_41 =>
  OF_label y_41 c fun v_43 c_42 =>
  ixOk (x3 + 1) L ∧
  bnd (gA r 1000 (x3 + 1).toNatClampNeg) fun y_45 =>
  MO_label y_45 r fun v_47 r_46 =>
  if v_43 = v_47 then
  (LAW_647 (LAW_18 L Q n) L x3 c_42 r_46 Q)
  else
  (Q 0 c_42 r_46))
  else
  if (y_3 &&& 31) = 4 then
  (ixOk (x3 + 1) L ∧
  bnd (gA r 1000 (x3 + 1).toNatClampNeg) fun y_51 =>
  ixOk (x3 + 2) L ∧
  bnd (gA r 1000 (x3 + 2).toNatClampNeg) fun y_53 =>
  OF_labelSign y_51 y_53 c fun v_55 c_54 =>
  ixOk (x3 + 1) L ∧
  bnd (gA r 1000 (x3 + 1).toNatClampNeg) fun y_57 =>
  ixOk (x3 + 2) L ∧
  bnd (gA r 1000 (x3 + 2).toNatClampNeg) fun y_59 =>
  MO_labelSign y_57 y_59 r fun v_61 r_60 =>
  if v_55 = v_61 then
  (LAW_647 (LAW_18 L Q n) L x3 c_54 r_60 Q)
  else
  (Q 0 c_54 r_60))
  else
  if (y_3 &&& 31) = 5 then
  (ixOk (x3 + 1) L ∧
  bnd (gA r 1000 (x3 + 1).toNatClampNeg) fun y_65 =>
  OF_write y_65 c fun v_67 c_66 =>
  ixOk (x3 + 1) L ∧
  bnd (gA r 1000 (x3 + 1).toNatClampNeg) fun y_69 =>
  MO_write y_69 r fun v_71 r_70 =>
  if v_67 = v_71 then
  (LAW_647 (LAW_18 L Q n) L x3 c_66 r_70 Q)
  else
  (Q 0 c_66 r_70))
  else
  if (y_3 &&& 31) = 6 then
  (ixOk (x3 + 1) L ∧
  bnd (gA r 1000 (x3 + 1).toNatClampNeg) fun y_75 =>
  OF_sign y_75 c fun v_77 c_76 =>
  ixOk (x3 + 1) L ∧
  bnd (gA r 1000 (x3 + 1).toNatClampNeg) fun y_79 =>
  MO_sign y_79 r fun v_81 r_80 =>
  if v_77 = v_81 then
  (LAW_647 (LAW_18 L Q n) L x3 c_76 r_80 Q)
  else
  (Q 0 c_76 r_80))
  else
  if (y_3 &&& 31) = 7 then
  (ixOk (x3 + 1) L ∧
  bnd (gA r 1000 (x3 + 1).toNatClampNeg) fun y_85 =>
  ixOk (x3 + 2) L ∧
  bnd (gA r 1000 (x3 + 2).toNatClampNeg) fun y_87 =>
  OF_source y_85 y_87 c fun v_89 c_88 =>
  ixOk (x3 + 1) L ∧
  bnd (gA r 1000 (x3 + 1).toNatClampNeg) fun y_91 =>
  ixOk (x3 + 2) L ∧
  bnd (gA r 1000 (x3 + 2).toNatClampNeg) fun y_93 =>
  MO_source y_91 y_93 r fun v_95 r_94 =>
  if v_89 = v_95 then
  (LAW_647 (LAW_18 L Q n) L x3 c_88 r_94 Q)
  else
  (Q 0 c_88 r_94))
  else
  if (y_3 &&& 31) = 8 then
  (ixOk (x3 + 1) L ∧
  bnd (gA r 1000 (x3 + 1).toNatClampNeg) fun y_99 =>
  OF_sourceAt y_99 c fun v_101 c_100 =>
  ixOk (x3 + 1) L ∧
  bnd (gA r 1000 (x3 + 1).toNatClampNeg) fun y_103 =>
  MO_sourceAt y_103 r fun v_105 r_104 =>
  if v_101 = v_105 then
  (LAW_647 (LAW_18 L Q n) L x3 c_100 r_104 Q)
  else
  (Q 0 c_100 r_104))
  else
  if (y_3 &&& 31) = 9 then
  (ixOk (x3 + 1) L ∧
  bnd (gA r 1000 (x3 + 1).toNatClampNeg) fun y_109 =>
  OF_octet y_109 c fun v_111 c_110 =>
  ixOk (x3 + 1) L ∧
  bnd (gA r 1000 (x3 + 1).toNatClampNeg) fun y_113 =>
  MO_octet y_113 r fun v_115 r_114 =>
  if v_111 = v_115 then
  (LAW_647 (LAW_18 L Q n) L x3 c_110 r_114 Q)
  else
  (Q 0 c_110 r_114))
  else
  if (y_3 &&& 31) = 10 then
  (ixOk (x3 + 1) L ∧
  bnd (gA r 1000 (x3 + 1).toNatClampNeg) fun y_119 =>
  ixOk (x3 + 2) L ∧
  bnd (gA r 1000 (x3 + 2).toNatClampNeg) fun y_121 =>
  OF_put y_119 y_121 c fun v_123 c_122 =>
  ixOk (x3 + 1) L ∧
  bnd (gA r 1000 (x3 + 1).toNatClampNeg) fun y_125 =>
  ixOk (x3 + 2) L ∧
  bnd (gA r 1000 (x3 + 2).toNatClampNeg) fun y_127 =>
  MO_put y_125 y_127 r fun v_129 r_128 =>
  if v_123 = v_129 then
  (LAW_647 (LAW_18 L Q n) L x3 c_122 r_128 Q)
  else
  (Q 0 c_122 r_128))
  else
  if (y_3 &&& 31) = 11 then
  (ixOk (x3 + 1) L ∧
  bnd (gA r 1000 (x3 + 1).toNatClampNeg) fun y_133 =>
  OF_register y_133 c fun v_135 c_134 =>
  ixOk (x3 + 1) L ∧
  bnd (gA r 1000 (x3 + 1).toNatClampNeg) fun y_137 =>
  MO_register y_137 r fun v_139 r_138 =>
  if v_135 = v_139 then
  (LAW_647 (LAW_18 L Q n) L x3 c_134 r_138 Q)
  else
  (Q 0 c_134 r_138))
  else
  if (y_3 &&& 31) = 12 then
  (ixOk (x3 + 1) L ∧
  bnd (gA r 1000 (x3 + 1).toNatClampNeg) fun y_143 =>
  ixOk (x3 + 2) L ∧
  bnd (gA r 1000 (x3 + 2).toNatClampNeg) fun y_145 =>
  OF_set y_143 y_145 c fun v_147 c_146 =>
  ixOk (x3 + 1) L ∧
  bnd (gA r 1000 (x3 + 1).toNatClampNeg) fun y_149 =>
  ixOk (x3 + 2) L ∧
  bnd (gA r 1000 (x3 + 2).toNatClampNeg) fun y_151 =>
  MO_set y_149 y_151 r fun v_153 r_152 =>
  if v_147 = v_153 then
  (LAW_647 (LAW_18 L Q n) L x3 c_146 r_152 Q)
  else
  (Q 0 c_146 r_152))
  else
  if (y_3 &&& 31) = 13 then
  (ixOk (x3 + 1) L ∧
  bnd (gA r 1000 (x3 + 1).toNatClampNeg) fun y_157 =>
  ixOk (x3 + 2) L ∧
  bnd (gA r 1000 (x3 + 2).toNatClampNeg) fun y_159 =>
  OF_port y_157 y_159 c fun v_161 c_160 =>
  ixOk (x3 + 1) L ∧
  bnd (gA r 1000 (x3 + 1).toNatClampNeg) fun y_163 =>
  ixOk (x3 + 2) L ∧
  bnd (gA r 1000 (x3 + 2).toNatClampNeg) fun y_165 =>
  MO_port y_163 y_165 r fun v_167 r_166 =>
  if v_161 = v_167 then
  (LAW_647 (LAW_18 L Q n) L x3 c_160 r_166 Q)
  else
  (Q 0 c_160 r_166))
  else
  if (y_3 &&& 31) = 14 then
  (ixOk (x3 + 1) L ∧
  bnd (gA r 1000 (x3 + 1).toNatClampNeg) fun y_171 =>
  OF_out y_171 c fun v_173 c_172 =>
  ixOk (x3 + 1) L ∧
  bnd (gA r 1000 (x3 + 1).toNatClampNeg) fun y_175 =>
  MO_out y_175 r fun v_177 r_176 =>
  if v_173 = v_177 then
  (LAW_647 (LAW_18 L Q n) L x3 c_172 r_176 Q)
  else
  (Q 0 c_172 r_176))
  else
  if (y_3 &&& 31) = 15 then
  (ixOk (x3 + 1) L ∧
  bnd (gA r 1000 (x3 + 1).toNatClampNeg) fun y_181 =>
  ixOk (x3 + 2) L ∧
  bnd (gA r 1000 (x3 + 2).toNatClampNeg) fun y_183 =>
  OF_request y_181 y_183 c fun v_185 c_184 =>
  ixOk (x3 + 1) L ∧
  bnd (gA r 1000 (x3 + 1).toNatClampNeg) fun y_187 =>
  ixOk (x3 + 2) L ∧
  bnd (gA r 1000 (x3 + 2).toNatClampNeg) fun y_189 =>
  MO_request y_187 y_189 r fun v_191 r_190 =>
  if v_185 = v_191 then
  (LAW_647 (LAW_18 L Q n) L x3 c_184 r_190 Q)
  else
  (Q 0 c_184 r_190))
  else
  if (y_3 &&& 31) = 16 then
  (OF_step c fun v_195 c_194 =>
  MO_step r fun v_197 r_196 =>
  if v_195 = v_197 then
  (LAW_647 (LAW_18 L Q n) L x3 c_194 r_196 Q)
  else
  (Q 0 c_194 r_196))
  else
  if (y_3 &&& 31) = 17 then
  (ixOk (x3 + 1) L ∧
  bnd (gA r 1000 (x3 + 1).toNatClampNeg) fun y_201 =>
  OF_run y_201 c fun v_203 c_202 =>
  ixOk (x3 + 1) L ∧
  bnd (gA r 1000 (x3 + 1).toNatClampNeg) fun y_205 =>
  MO_run y_205 r fun v_207 r_206 =>
  if v_203 = v_207 then
  (LAW_647 (LAW_18 L Q n) L x3 c_202 r_206 Q)
  else
  (Q 0 c_202 r_206))
  else
  if (y_3 &&& 31) = 18 then
  (OF_outs c fun v_211 c_210 =>
  MO_outs r fun v_213 r_212 =>
  if (lg_cmp v_211 v_213) = 0 then
  (LAW_647 (LAW_18 L Q n) L x3 c_210 r_212 Q)
  else
  (Q 0 c_210 r_212))
  else
  if (y_3 &&& 31) = 19 then
  (OF_clear c fun c_216 =>
  MO_clear r fun r_217 =>
  LAW_647 (LAW_18 L Q n) L x3 c_216 r_217 Q)
  else
  (LAW_647 (LAW_18 L Q n) L x3 c r Q))
set_option maxRecDepth 100000 in
set_option maxHeartbeats 8000000 in
theorem tLAW_18 {L : Nat} {Qo : Option Value → vmW → Prop} {Q : Int32 → vmD → vmD → Prop} (hQ : ∀ x c r, Q x c r → Qo (some (.int x)) (wC L c r)) : ∀ (n : Nat) (x3 : Int32) (c r : vmD), LAW_18 L Q n x3 c r → vmWp 406 18 [(0, .ref 1000), (1, .ref 0), (2, .ref 42), (3, .int x3)] [] (wC L c r) Qo := by
  intro n
  induction n with
  | zero => intro x3 c r h; exact h.elim
  | succ n ih =>
    intro x3 c r h
    unfold LAW_18 at h
    refine st_go 5 (pc' := 23) (lo' := [(0, .ref 1000), (1, .ref 0), (2, .ref 42), (3, .int x3)]) (st' := [.int ((Int32.ofNat L) - 4), .int x3]) rfl ?_
    by_cases hc_1 : ((Int32.ofNat L) - 4) < x3
    · have h := Eq.mp (if_pos hc_1) h
      refine st_icmp (t := 653) (b := true) rfl (decide_eq_true hc_1) rfl ?_
      refine st_go 1 (pc' := 654) (lo' := [(0, .ref 1000), (1, .ref 0), (2, .ref 42), (3, .int x3)]) (st' := [.int 1]) rfl ?_
      exact st_retZ rfl rfl (Or.inr rfl) (hQ _ _ _ h)
    · have h := Eq.mp (if_neg hc_1) h
      refine st_icmp (t := 26) (b := false) rfl (decide_eq_false hc_1) rfl ?_
      refine st_go 2 (pc' := 28) (lo' := [(0, .ref 1000), (1, .ref 0), (2, .ref 42), (3, .int x3)]) (st' := [.int x3, .ref 1000]) rfl ?_
      obtain ⟨hj_2, h⟩ := h
      refine st_scr rfl hj_2 (fun y_3 hy_y_3 => ?_)
      have h := h y_3 hy_y_3
      refine st_go 2 (pc' := 32) (lo' := [(0, .ref 1000), (1, .ref 0), (2, .ref 42), (3, .int x3)]) (st' := [.int (y_3 &&& 31)]) rfl ?_
      by_cases hc_4 : (y_3 &&& 31) = 0
      · have h := Eq.mp (if_pos hc_4) h
        refine st_tab (t := 128) rfl (by rw [hc_4]; rfl) ?_
        refine st_go 5 (pc' := 133) (lo' := [(0, .ref 1000), (1, .ref 0), (2, .ref 42), (3, .int x3)]) (st' := [.int (x3 + 1), .ref 1000, .ref 0]) rfl ?_
        obtain ⟨hj_5, h⟩ := h
        refine st_scr rfl hj_5 (fun y_6 hy_y_6 => ?_)
        have h := h y_6 hy_y_6
        refine st_go 7 (pc' := 142) (lo' := [(0, .ref 1000), (1, .ref 0), (2, .ref 42), (3, .int x3)]) (st' := [.int (x3 + 2), .ref 1000, .long ((Int32.toInt64 y_6) <<< ((Int32.toInt64 (32 : Int32)) &&& 63)), .ref 0]) rfl ?_
        obtain ⟨hj_7, h⟩ := h
        refine st_scr rfl hj_7 (fun y_8 hy_y_8 => ?_)
        have h := h y_8 hy_y_8
        refine st_go 8 (pc' := 153) (lo' := [(0, .ref 1000), (1, .ref 0), (2, .ref 42), (3, .int x3)]) (st' := [.int (x3 + 3), .ref 1000, .long (((Int32.toInt64 y_6) <<< ((Int32.toInt64 (32 : Int32)) &&& 63)) ||| ((Int32.toInt64 y_8) &&& 4294967295)), .ref 0]) rfl ?_
        obtain ⟨hj_9, h⟩ := h
        refine st_scr rfl hj_9 (fun y_10 hy_y_10 => ?_)
        have h := h y_10 hy_y_10
        refine st_calli (k' := 222) (as := [.ref 0, .long (((Int32.toInt64 y_6) <<< ((Int32.toInt64 (32 : Int32)) &&& 63)) ||| ((Int32.toInt64 y_8) &&& 4294967295)), .int y_10]) (rest := []) (lo' := [(0, .ref 0), (1, .long (((Int32.toInt64 y_6) <<< ((Int32.toInt64 (32 : Int32)) &&& 63)) ||| ((Int32.toInt64 y_8) &&& 4294967295))), (3, .int y_10)]) (wf := (fun z => wC L z r)) rfl rfl rfl ?_
        refine tOF_feed (e := r) (fun v_12 c_11 h => ⟨v_12, c_11, rfl, rfl, ?_⟩) (((Int32.toInt64 y_6) <<< ((Int32.toInt64 (32 : Int32)) &&& 63)) ||| ((Int32.toInt64 y_8) &&& 4294967295)) y_10 c h
        refine st_go 5 (pc' := 162) (lo' := [(0, .ref 1000), (1, .ref 0), (2, .ref 42), (3, .int x3)]) (st' := [.int (x3 + 1), .ref 1000, .ref 42, .int v_12]) rfl ?_
        obtain ⟨hj_13, h⟩ := h
        refine st_scr rfl hj_13 (fun y_14 hy_y_14 => ?_)
        have h := h y_14 hy_y_14
        refine st_go 7 (pc' := 171) (lo' := [(0, .ref 1000), (1, .ref 0), (2, .ref 42), (3, .int x3)]) (st' := [.int (x3 + 2), .ref 1000, .long ((Int32.toInt64 y_14) <<< ((Int32.toInt64 (32 : Int32)) &&& 63)), .ref 42, .int v_12]) rfl ?_
        obtain ⟨hj_15, h⟩ := h
        refine st_scr rfl hj_15 (fun y_16 hy_y_16 => ?_)
        have h := h y_16 hy_y_16
        refine st_go 8 (pc' := 182) (lo' := [(0, .ref 1000), (1, .ref 0), (2, .ref 42), (3, .int x3)]) (st' := [.int (x3 + 3), .ref 1000, .long (((Int32.toInt64 y_14) <<< ((Int32.toInt64 (32 : Int32)) &&& 63)) ||| ((Int32.toInt64 y_16) &&& 4294967295)), .ref 42, .int v_12]) rfl ?_
        obtain ⟨hj_17, h⟩ := h
        refine st_scr rfl hj_17 (fun y_18 hy_y_18 => ?_)
        have h := h y_18 hy_y_18
        refine st_calli (k' := 243) (as := [.ref 42, .long (((Int32.toInt64 y_14) <<< ((Int32.toInt64 (32 : Int32)) &&& 63)) ||| ((Int32.toInt64 y_16) &&& 4294967295)), .int y_18]) (rest := [.int v_12]) (lo' := [(0, .ref 42), (1, .long (((Int32.toInt64 y_14) <<< ((Int32.toInt64 (32 : Int32)) &&& 63)) ||| ((Int32.toInt64 y_16) &&& 4294967295))), (3, .int y_18)]) (wf := (fun z => wC L c_11 z)) rfl rfl rfl ?_
        refine tMO_feed (e := c_11) (fun v_20 r_19 h => ⟨v_20, r_19, rfl, rfl, ?_⟩) (((Int32.toInt64 y_14) <<< ((Int32.toInt64 (32 : Int32)) &&& 63)) ||| ((Int32.toInt64 y_16) &&& 4294967295)) y_18 r h
        by_cases hc_21 : v_12 = v_20
        · have h := Eq.mp (if_pos hc_21) h
          refine st_icmp (t := 647) (b := true) rfl (decide_eq_true hc_21) rfl ?_
          refine vmWp.sub (lo' := [(0, .ref 1000), (1, .ref 0), (2, .ref 42), (3, .int x3)]) ⟨rfl, rfl, rfl, rfl, trivial⟩ ?_
          exact tLAW_647 ih hQ x3 c_11 r_19 h
        · have h := Eq.mp (if_neg hc_21) h
          refine st_icmp (t := 189) (b := false) rfl (decide_eq_false hc_21) rfl ?_
          refine st_go 1 (pc' := 190) (lo' := [(0, .ref 1000), (1, .ref 0), (2, .ref 42), (3, .int x3)]) (st' := [.int 0]) rfl ?_
          exact st_retZ rfl rfl (Or.inl rfl) (hQ _ _ _ h)
      · have h := Eq.mp (if_neg hc_4) h
        by_cases hc_23 : (y_3 &&& 31) = 1
        · have h := Eq.mp (if_pos hc_23) h
          refine st_tab (t := 191) rfl (by rw [hc_23]; rfl) ?_
          refine st_go 1 (pc' := 192) (lo' := [(0, .ref 1000), (1, .ref 0), (2, .ref 42), (3, .int x3)]) (st' := [.ref 0]) rfl ?_
          refine st_calli (k' := 223) (as := [.ref 0]) (rest := []) (lo' := [(0, .ref 0)]) (wf := (fun z => wC L z r)) rfl rfl rfl ?_
          refine tOF_forge (e := r) (fun v_25 c_24 h => ⟨v_25, c_24, rfl, rfl, ?_⟩) c h
          refine st_go 1 (pc' := 196) (lo' := [(0, .ref 1000), (1, .ref 0), (2, .ref 42), (3, .int x3)]) (st' := [.ref 42, .int v_25]) rfl ?_
          refine st_calli (k' := 316) (as := [.ref 42]) (rest := [.int v_25]) (lo' := [(0, .ref 42)]) (wf := (fun z => wC L c_24 z)) rfl rfl rfl ?_
          refine tMO_forge (e := c_24) (fun v_27 r_26 h => ⟨v_27, r_26, rfl, rfl, ?_⟩) r h
          by_cases hc_28 : v_25 = v_27
          · have h := Eq.mp (if_pos hc_28) h
            refine st_icmp (t := 647) (b := true) rfl (decide_eq_true hc_28) rfl ?_
            refine vmWp.sub (lo' := [(0, .ref 1000), (1, .ref 0), (2, .ref 42), (3, .int x3)]) ⟨rfl, rfl, rfl, rfl, trivial⟩ ?_
            exact tLAW_647 ih hQ x3 c_24 r_26 h
          · have h := Eq.mp (if_neg hc_28) h
            refine st_icmp (t := 202) (b := false) rfl (decide_eq_false hc_28) rfl ?_
            refine st_go 1 (pc' := 203) (lo' := [(0, .ref 1000), (1, .ref 0), (2, .ref 42), (3, .int x3)]) (st' := [.int 0]) rfl ?_
            exact st_retZ rfl rfl (Or.inl rfl) (hQ _ _ _ h)
        · have h := Eq.mp (if_neg hc_23) h
          by_cases hc_29 : (y_3 &&& 31) = 2
          · have h := Eq.mp (if_pos hc_29) h
            refine st_tab (t := 204) rfl (by rw [hc_29]; rfl) ?_
            refine st_go 5 (pc' := 209) (lo' := [(0, .ref 1000), (1, .ref 0), (2, .ref 42), (3, .int x3)]) (st' := [.int (x3 + 1), .ref 1000, .ref 0]) rfl ?_
            obtain ⟨hj_30, h⟩ := h
            refine st_scr rfl hj_30 (fun y_31 hy_y_31 => ?_)
            have h := h y_31 hy_y_31
            refine st_calli (k' := 224) (as := [.ref 0, .int y_31]) (rest := []) (lo' := [(0, .ref 0), (1, .int y_31)]) (wf := (fun z => wC L z r)) rfl rfl rfl ?_
            refine tOF_told (e := r) (fun v_33 c_32 h => ⟨v_33, c_32, rfl, rfl, ?_⟩) y_31 c h
            refine st_go 5 (pc' := 218) (lo' := [(0, .ref 1000), (1, .ref 0), (2, .ref 42), (3, .int x3)]) (st' := [.int (x3 + 1), .ref 1000, .ref 42, .int v_33]) rfl ?_
            obtain ⟨hj_34, h⟩ := h
            refine st_scr rfl hj_34 (fun y_35 hy_y_35 => ?_)
            have h := h y_35 hy_y_35
            refine st_calli (k' := 317) (as := [.ref 42, .int y_35]) (rest := [.int v_33]) (lo' := [(0, .ref 42), (1, .int y_35)]) (wf := (fun z => wC L c_32 z)) rfl rfl rfl ?_
            refine tMO_told (e := c_32) (fun v_37 r_36 h => ⟨v_37, r_36, rfl, rfl, ?_⟩) y_35 r h
            by_cases hc_38 : v_33 = v_37
            · have h := Eq.mp (if_pos hc_38) h
              refine st_icmp (t := 647) (b := true) rfl (decide_eq_true hc_38) rfl ?_
              refine vmWp.sub (lo' := [(0, .ref 1000), (1, .ref 0), (2, .ref 42), (3, .int x3)]) ⟨rfl, rfl, rfl, rfl, trivial⟩ ?_
              exact tLAW_647 ih hQ x3 c_32 r_36 h
            · have h := Eq.mp (if_neg hc_38) h
              refine st_icmp (t := 225) (b := false) rfl (decide_eq_false hc_38) rfl ?_
              refine st_go 1 (pc' := 226) (lo' := [(0, .ref 1000), (1, .ref 0), (2, .ref 42), (3, .int x3)]) (st' := [.int 0]) rfl ?_
              exact st_retZ rfl rfl (Or.inl rfl) (hQ _ _ _ h)
          · have h := Eq.mp (if_neg hc_29) h
            by_cases hc_39 : (y_3 &&& 31) = 3
            · have h := Eq.mp (if_pos hc_39) h
              refine st_tab (t := 227) rfl (by rw [hc_39]; rfl) ?_
              refine st_go 5 (pc' := 232) (lo' := [(0, .ref 1000), (1, .ref 0), (2, .ref 42), (3, .int x3)]) (st' := [.int (x3 + 1), .ref 1000, .ref 0]) rfl ?_
              obtain ⟨hj_40, h⟩ := h
              refine st_scr rfl hj_40 (fun y_41 hy_y_41 => ?_)
              have h := h y_41 hy_y_41
              refine st_calli (k' := 225) (as := [.ref 0, .int y_41]) (rest := []) (lo' := [(0, .ref 0), (1, .int y_41)]) (wf := (fun z => wC L z r)) rfl rfl rfl ?_
              refine tOF_label (e := r) (fun v_43 c_42 h => ⟨v_43, c_42, rfl, rfl, ?_⟩) y_41 c h
              refine st_go 5 (pc' := 241) (lo' := [(0, .ref 1000), (1, .ref 0), (2, .ref 42), (3, .int x3)]) (st' := [.int (x3 + 1), .ref 1000, .ref 42, .int v_43]) rfl ?_
              obtain ⟨hj_44, h⟩ := h
              refine st_scr rfl hj_44 (fun y_45 hy_y_45 => ?_)
              have h := h y_45 hy_y_45
              refine st_calli (k' := 318) (as := [.ref 42, .int y_45]) (rest := [.int v_43]) (lo' := [(0, .ref 42), (1, .int y_45)]) (wf := (fun z => wC L c_42 z)) rfl rfl rfl ?_
              refine tMO_label (e := c_42) (fun v_47 r_46 h => ⟨v_47, r_46, rfl, rfl, ?_⟩) y_45 r h
              by_cases hc_48 : v_43 = v_47
              · have h := Eq.mp (if_pos hc_48) h
                refine st_icmp (t := 647) (b := true) rfl (decide_eq_true hc_48) rfl ?_
                refine vmWp.sub (lo' := [(0, .ref 1000), (1, .ref 0), (2, .ref 42), (3, .int x3)]) ⟨rfl, rfl, rfl, rfl, trivial⟩ ?_
                exact tLAW_647 ih hQ x3 c_42 r_46 h
              · have h := Eq.mp (if_neg hc_48) h
                refine st_icmp (t := 248) (b := false) rfl (decide_eq_false hc_48) rfl ?_
                refine st_go 1 (pc' := 249) (lo' := [(0, .ref 1000), (1, .ref 0), (2, .ref 42), (3, .int x3)]) (st' := [.int 0]) rfl ?_
                exact st_retZ rfl rfl (Or.inl rfl) (hQ _ _ _ h)
            · have h := Eq.mp (if_neg hc_39) h
              by_cases hc_49 : (y_3 &&& 31) = 4
              · have h := Eq.mp (if_pos hc_49) h
                refine st_tab (t := 250) rfl (by rw [hc_49]; rfl) ?_
                refine st_go 5 (pc' := 255) (lo' := [(0, .ref 1000), (1, .ref 0), (2, .ref 42), (3, .int x3)]) (st' := [.int (x3 + 1), .ref 1000, .ref 0]) rfl ?_
                obtain ⟨hj_50, h⟩ := h
                refine st_scr rfl hj_50 (fun y_51 hy_y_51 => ?_)
                have h := h y_51 hy_y_51
                refine st_go 4 (pc' := 260) (lo' := [(0, .ref 1000), (1, .ref 0), (2, .ref 42), (3, .int x3)]) (st' := [.int (x3 + 2), .ref 1000, .int y_51, .ref 0]) rfl ?_
                obtain ⟨hj_52, h⟩ := h
                refine st_scr rfl hj_52 (fun y_53 hy_y_53 => ?_)
                have h := h y_53 hy_y_53
                refine st_calli (k' := 226) (as := [.ref 0, .int y_51, .int y_53]) (rest := []) (lo' := [(0, .ref 0), (1, .int y_51), (2, .int y_53)]) (wf := (fun z => wC L z r)) rfl rfl rfl ?_
                refine tOF_labelSign (e := r) (fun v_55 c_54 h => ⟨v_55, c_54, rfl, rfl, ?_⟩) y_51 y_53 c h
                refine st_go 5 (pc' := 269) (lo' := [(0, .ref 1000), (1, .ref 0), (2, .ref 42), (3, .int x3)]) (st' := [.int (x3 + 1), .ref 1000, .ref 42, .int v_55]) rfl ?_
                obtain ⟨hj_56, h⟩ := h
                refine st_scr rfl hj_56 (fun y_57 hy_y_57 => ?_)
                have h := h y_57 hy_y_57
                refine st_go 4 (pc' := 274) (lo' := [(0, .ref 1000), (1, .ref 0), (2, .ref 42), (3, .int x3)]) (st' := [.int (x3 + 2), .ref 1000, .int y_57, .ref 42, .int v_55]) rfl ?_
                obtain ⟨hj_58, h⟩ := h
                refine st_scr rfl hj_58 (fun y_59 hy_y_59 => ?_)
                have h := h y_59 hy_y_59
                refine st_calli (k' := 319) (as := [.ref 42, .int y_57, .int y_59]) (rest := [.int v_55]) (lo' := [(0, .ref 42), (1, .int y_57), (2, .int y_59)]) (wf := (fun z => wC L c_54 z)) rfl rfl rfl ?_
                refine tMO_labelSign (e := c_54) (fun v_61 r_60 h => ⟨v_61, r_60, rfl, rfl, ?_⟩) y_57 y_59 r h
                by_cases hc_62 : v_55 = v_61
                · have h := Eq.mp (if_pos hc_62) h
                  refine st_icmp (t := 647) (b := true) rfl (decide_eq_true hc_62) rfl ?_
                  refine vmWp.sub (lo' := [(0, .ref 1000), (1, .ref 0), (2, .ref 42), (3, .int x3)]) ⟨rfl, rfl, rfl, rfl, trivial⟩ ?_
                  exact tLAW_647 ih hQ x3 c_54 r_60 h
                · have h := Eq.mp (if_neg hc_62) h
                  refine st_icmp (t := 281) (b := false) rfl (decide_eq_false hc_62) rfl ?_
                  refine st_go 1 (pc' := 282) (lo' := [(0, .ref 1000), (1, .ref 0), (2, .ref 42), (3, .int x3)]) (st' := [.int 0]) rfl ?_
                  exact st_retZ rfl rfl (Or.inl rfl) (hQ _ _ _ h)
              · have h := Eq.mp (if_neg hc_49) h
                by_cases hc_63 : (y_3 &&& 31) = 5
                · have h := Eq.mp (if_pos hc_63) h
                  refine st_tab (t := 283) rfl (by rw [hc_63]; rfl) ?_
                  refine st_go 5 (pc' := 288) (lo' := [(0, .ref 1000), (1, .ref 0), (2, .ref 42), (3, .int x3)]) (st' := [.int (x3 + 1), .ref 1000, .ref 0]) rfl ?_
                  obtain ⟨hj_64, h⟩ := h
                  refine st_scr rfl hj_64 (fun y_65 hy_y_65 => ?_)
                  have h := h y_65 hy_y_65
                  refine st_calli (k' := 227) (as := [.ref 0, .int y_65]) (rest := []) (lo' := [(0, .ref 0), (1, .int y_65)]) (wf := (fun z => wC L z r)) rfl rfl rfl ?_
                  refine tOF_write (e := r) (fun v_67 c_66 h => ⟨v_67, c_66, rfl, rfl, ?_⟩) y_65 c h
                  refine st_go 5 (pc' := 297) (lo' := [(0, .ref 1000), (1, .ref 0), (2, .ref 42), (3, .int x3)]) (st' := [.int (x3 + 1), .ref 1000, .ref 42, .int v_67]) rfl ?_
                  obtain ⟨hj_68, h⟩ := h
                  refine st_scr rfl hj_68 (fun y_69 hy_y_69 => ?_)
                  have h := h y_69 hy_y_69
                  refine st_calli (k' := 348) (as := [.ref 42, .int y_69]) (rest := [.int v_67]) (lo' := [(0, .ref 42), (1, .int y_69)]) (wf := (fun z => wC L c_66 z)) rfl rfl rfl ?_
                  refine tMO_write (e := c_66) (fun v_71 r_70 h => ⟨v_71, r_70, rfl, rfl, ?_⟩) y_69 r h
                  by_cases hc_72 : v_67 = v_71
                  · have h := Eq.mp (if_pos hc_72) h
                    refine st_icmp (t := 647) (b := true) rfl (decide_eq_true hc_72) rfl ?_
                    refine vmWp.sub (lo' := [(0, .ref 1000), (1, .ref 0), (2, .ref 42), (3, .int x3)]) ⟨rfl, rfl, rfl, rfl, trivial⟩ ?_
                    exact tLAW_647 ih hQ x3 c_66 r_70 h
                  · have h := Eq.mp (if_neg hc_72) h
                    refine st_icmp (t := 304) (b := false) rfl (decide_eq_false hc_72) rfl ?_
                    refine st_go 1 (pc' := 305) (lo' := [(0, .ref 1000), (1, .ref 0), (2, .ref 42), (3, .int x3)]) (st' := [.int 0]) rfl ?_
                    exact st_retZ rfl rfl (Or.inl rfl) (hQ _ _ _ h)
                · have h := Eq.mp (if_neg hc_63) h
                  by_cases hc_73 : (y_3 &&& 31) = 6
                  · have h := Eq.mp (if_pos hc_73) h
                    refine st_tab (t := 306) rfl (by rw [hc_73]; rfl) ?_
                    refine st_go 5 (pc' := 311) (lo' := [(0, .ref 1000), (1, .ref 0), (2, .ref 42), (3, .int x3)]) (st' := [.int (x3 + 1), .ref 1000, .ref 0]) rfl ?_
                    obtain ⟨hj_74, h⟩ := h
                    refine st_scr rfl hj_74 (fun y_75 hy_y_75 => ?_)
                    have h := h y_75 hy_y_75
                    refine st_calli (k' := 228) (as := [.ref 0, .int y_75]) (rest := []) (lo' := [(0, .ref 0), (1, .int y_75)]) (wf := (fun z => wC L z r)) rfl rfl rfl ?_
                    refine tOF_sign (e := r) (fun v_77 c_76 h => ⟨v_77, c_76, rfl, rfl, ?_⟩) y_75 c h
                    refine st_go 5 (pc' := 320) (lo' := [(0, .ref 1000), (1, .ref 0), (2, .ref 42), (3, .int x3)]) (st' := [.int (x3 + 1), .ref 1000, .ref 42, .int v_77]) rfl ?_
                    obtain ⟨hj_78, h⟩ := h
                    refine st_scr rfl hj_78 (fun y_79 hy_y_79 => ?_)
                    have h := h y_79 hy_y_79
                    refine st_calli (k' := 349) (as := [.ref 42, .int y_79]) (rest := [.int v_77]) (lo' := [(0, .ref 42), (1, .int y_79)]) (wf := (fun z => wC L c_76 z)) rfl rfl rfl ?_
                    refine tMO_sign (e := c_76) (fun v_81 r_80 h => ⟨v_81, r_80, rfl, rfl, ?_⟩) y_79 r h
                    by_cases hc_82 : v_77 = v_81
                    · have h := Eq.mp (if_pos hc_82) h
                      refine st_icmp (t := 647) (b := true) rfl (decide_eq_true hc_82) rfl ?_
                      refine vmWp.sub (lo' := [(0, .ref 1000), (1, .ref 0), (2, .ref 42), (3, .int x3)]) ⟨rfl, rfl, rfl, rfl, trivial⟩ ?_
                      exact tLAW_647 ih hQ x3 c_76 r_80 h
                    · have h := Eq.mp (if_neg hc_82) h
                      refine st_icmp (t := 327) (b := false) rfl (decide_eq_false hc_82) rfl ?_
                      refine st_go 1 (pc' := 328) (lo' := [(0, .ref 1000), (1, .ref 0), (2, .ref 42), (3, .int x3)]) (st' := [.int 0]) rfl ?_
                      exact st_retZ rfl rfl (Or.inl rfl) (hQ _ _ _ h)
                  · have h := Eq.mp (if_neg hc_73) h
                    by_cases hc_83 : (y_3 &&& 31) = 7
                    · have h := Eq.mp (if_pos hc_83) h
                      refine st_tab (t := 329) rfl (by rw [hc_83]; rfl) ?_
                      refine st_go 5 (pc' := 334) (lo' := [(0, .ref 1000), (1, .ref 0), (2, .ref 42), (3, .int x3)]) (st' := [.int (x3 + 1), .ref 1000, .ref 0]) rfl ?_
                      obtain ⟨hj_84, h⟩ := h
                      refine st_scr rfl hj_84 (fun y_85 hy_y_85 => ?_)
                      have h := h y_85 hy_y_85
                      refine st_go 4 (pc' := 339) (lo' := [(0, .ref 1000), (1, .ref 0), (2, .ref 42), (3, .int x3)]) (st' := [.int (x3 + 2), .ref 1000, .int y_85, .ref 0]) rfl ?_
                      obtain ⟨hj_86, h⟩ := h
                      refine st_scr rfl hj_86 (fun y_87 hy_y_87 => ?_)
                      have h := h y_87 hy_y_87
                      refine st_calli (k' := 229) (as := [.ref 0, .int y_85, .int y_87]) (rest := []) (lo' := [(0, .ref 0), (1, .int y_85), (2, .int y_87)]) (wf := (fun z => wC L z r)) rfl rfl rfl ?_
                      refine tOF_source (e := r) (fun v_89 c_88 h => ⟨v_89, c_88, rfl, rfl, ?_⟩) y_85 y_87 c h
                      refine st_go 5 (pc' := 348) (lo' := [(0, .ref 1000), (1, .ref 0), (2, .ref 42), (3, .int x3)]) (st' := [.int (x3 + 1), .ref 1000, .ref 42, .int v_89]) rfl ?_
                      obtain ⟨hj_90, h⟩ := h
                      refine st_scr rfl hj_90 (fun y_91 hy_y_91 => ?_)
                      have h := h y_91 hy_y_91
                      refine st_go 4 (pc' := 353) (lo' := [(0, .ref 1000), (1, .ref 0), (2, .ref 42), (3, .int x3)]) (st' := [.int (x3 + 2), .ref 1000, .int y_91, .ref 42, .int v_89]) rfl ?_
                      obtain ⟨hj_92, h⟩ := h
                      refine st_scr rfl hj_92 (fun y_93 hy_y_93 => ?_)
                      have h := h y_93 hy_y_93
                      refine st_calli (k' := 350) (as := [.ref 42, .int y_91, .int y_93]) (rest := [.int v_89]) (lo' := [(0, .ref 42), (1, .int y_91), (2, .int y_93)]) (wf := (fun z => wC L c_88 z)) rfl rfl rfl ?_
                      refine tMO_source (e := c_88) (fun v_95 r_94 h => ⟨v_95, r_94, rfl, rfl, ?_⟩) y_91 y_93 r h
                      by_cases hc_96 : v_89 = v_95
                      · have h := Eq.mp (if_pos hc_96) h
                        refine st_icmp (t := 647) (b := true) rfl (decide_eq_true hc_96) rfl ?_
                        refine vmWp.sub (lo' := [(0, .ref 1000), (1, .ref 0), (2, .ref 42), (3, .int x3)]) ⟨rfl, rfl, rfl, rfl, trivial⟩ ?_
                        exact tLAW_647 ih hQ x3 c_88 r_94 h
                      · have h := Eq.mp (if_neg hc_96) h
                        refine st_icmp (t := 360) (b := false) rfl (decide_eq_false hc_96) rfl ?_
                        refine st_go 1 (pc' := 361) (lo' := [(0, .ref 1000), (1, .ref 0), (2, .ref 42), (3, .int x3)]) (st' := [.int 0]) rfl ?_
                        exact st_retZ rfl rfl (Or.inl rfl) (hQ _ _ _ h)
                    · have h := Eq.mp (if_neg hc_83) h
                      by_cases hc_97 : (y_3 &&& 31) = 8
                      · have h := Eq.mp (if_pos hc_97) h
                        refine st_tab (t := 362) rfl (by rw [hc_97]; rfl) ?_
                        refine st_go 5 (pc' := 367) (lo' := [(0, .ref 1000), (1, .ref 0), (2, .ref 42), (3, .int x3)]) (st' := [.int (x3 + 1), .ref 1000, .ref 0]) rfl ?_
                        obtain ⟨hj_98, h⟩ := h
                        refine st_scr rfl hj_98 (fun y_99 hy_y_99 => ?_)
                        have h := h y_99 hy_y_99
                        refine st_calli (k' := 230) (as := [.ref 0, .int y_99]) (rest := []) (lo' := [(0, .ref 0), (1, .int y_99)]) (wf := (fun z => wC L z r)) rfl rfl rfl ?_
                        refine tOF_sourceAt (e := r) (fun v_101 c_100 h => ⟨v_101, c_100, rfl, rfl, ?_⟩) y_99 c h
                        refine st_go 5 (pc' := 376) (lo' := [(0, .ref 1000), (1, .ref 0), (2, .ref 42), (3, .int x3)]) (st' := [.int (x3 + 1), .ref 1000, .ref 42, .int v_101]) rfl ?_
                        obtain ⟨hj_102, h⟩ := h
                        refine st_scr rfl hj_102 (fun y_103 hy_y_103 => ?_)
                        have h := h y_103 hy_y_103
                        refine st_calli (k' := 244) (as := [.ref 42, .int y_103]) (rest := [.int v_101]) (lo' := [(0, .ref 42), (1, .int y_103)]) (wf := (fun z => wC L c_100 z)) rfl rfl rfl ?_
                        refine tMO_sourceAt (e := c_100) (fun v_105 r_104 h => ⟨v_105, r_104, rfl, rfl, ?_⟩) y_103 r h
                        by_cases hc_106 : v_101 = v_105
                        · have h := Eq.mp (if_pos hc_106) h
                          refine st_icmp (t := 647) (b := true) rfl (decide_eq_true hc_106) rfl ?_
                          refine vmWp.sub (lo' := [(0, .ref 1000), (1, .ref 0), (2, .ref 42), (3, .int x3)]) ⟨rfl, rfl, rfl, rfl, trivial⟩ ?_
                          exact tLAW_647 ih hQ x3 c_100 r_104 h
                        · have h := Eq.mp (if_neg hc_106) h
                          refine st_icmp (t := 383) (b := false) rfl (decide_eq_false hc_106) rfl ?_
                          refine st_go 1 (pc' := 384) (lo' := [(0, .ref 1000), (1, .ref 0), (2, .ref 42), (3, .int x3)]) (st' := [.int 0]) rfl ?_
                          exact st_retZ rfl rfl (Or.inl rfl) (hQ _ _ _ h)
                      · have h := Eq.mp (if_neg hc_97) h
                        by_cases hc_107 : (y_3 &&& 31) = 9
                        · have h := Eq.mp (if_pos hc_107) h
                          refine st_tab (t := 385) rfl (by rw [hc_107]; rfl) ?_
                          refine st_go 5 (pc' := 390) (lo' := [(0, .ref 1000), (1, .ref 0), (2, .ref 42), (3, .int x3)]) (st' := [.int (x3 + 1), .ref 1000, .ref 0]) rfl ?_
                          obtain ⟨hj_108, h⟩ := h
                          refine st_scr rfl hj_108 (fun y_109 hy_y_109 => ?_)
                          have h := h y_109 hy_y_109
                          refine st_calli (k' := 231) (as := [.ref 0, .int y_109]) (rest := []) (lo' := [(0, .ref 0), (1, .int y_109)]) (wf := (fun z => wC L z r)) rfl rfl rfl ?_
                          refine tOF_octet (e := r) (fun v_111 c_110 h => ⟨v_111, c_110, rfl, rfl, ?_⟩) y_109 c h
                          refine st_go 5 (pc' := 399) (lo' := [(0, .ref 1000), (1, .ref 0), (2, .ref 42), (3, .int x3)]) (st' := [.int (x3 + 1), .ref 1000, .ref 42, .int v_111]) rfl ?_
                          obtain ⟨hj_112, h⟩ := h
                          refine st_scr rfl hj_112 (fun y_113 hy_y_113 => ?_)
                          have h := h y_113 hy_y_113
                          refine st_calli (k' := 351) (as := [.ref 42, .int y_113]) (rest := [.int v_111]) (lo' := [(0, .ref 42), (1, .int y_113)]) (wf := (fun z => wC L c_110 z)) rfl rfl rfl ?_
                          refine tMO_octet (e := c_110) (fun v_115 r_114 h => ⟨v_115, r_114, rfl, rfl, ?_⟩) y_113 r h
                          by_cases hc_116 : v_111 = v_115
                          · have h := Eq.mp (if_pos hc_116) h
                            refine st_icmp (t := 647) (b := true) rfl (decide_eq_true hc_116) rfl ?_
                            refine vmWp.sub (lo' := [(0, .ref 1000), (1, .ref 0), (2, .ref 42), (3, .int x3)]) ⟨rfl, rfl, rfl, rfl, trivial⟩ ?_
                            exact tLAW_647 ih hQ x3 c_110 r_114 h
                          · have h := Eq.mp (if_neg hc_116) h
                            refine st_icmp (t := 406) (b := false) rfl (decide_eq_false hc_116) rfl ?_
                            refine st_go 1 (pc' := 407) (lo' := [(0, .ref 1000), (1, .ref 0), (2, .ref 42), (3, .int x3)]) (st' := [.int 0]) rfl ?_
                            exact st_retZ rfl rfl (Or.inl rfl) (hQ _ _ _ h)
                        · have h := Eq.mp (if_neg hc_107) h
                          by_cases hc_117 : (y_3 &&& 31) = 10
                          · have h := Eq.mp (if_pos hc_117) h
                            refine st_tab (t := 408) rfl (by rw [hc_117]; rfl) ?_
                            refine st_go 5 (pc' := 413) (lo' := [(0, .ref 1000), (1, .ref 0), (2, .ref 42), (3, .int x3)]) (st' := [.int (x3 + 1), .ref 1000, .ref 0]) rfl ?_
                            obtain ⟨hj_118, h⟩ := h
                            refine st_scr rfl hj_118 (fun y_119 hy_y_119 => ?_)
                            have h := h y_119 hy_y_119
                            refine st_go 4 (pc' := 418) (lo' := [(0, .ref 1000), (1, .ref 0), (2, .ref 42), (3, .int x3)]) (st' := [.int (x3 + 2), .ref 1000, .int y_119, .ref 0]) rfl ?_
                            obtain ⟨hj_120, h⟩ := h
                            refine st_scr rfl hj_120 (fun y_121 hy_y_121 => ?_)
                            have h := h y_121 hy_y_121
                            refine st_calli (k' := 232) (as := [.ref 0, .int y_119, .int y_121]) (rest := []) (lo' := [(0, .ref 0), (1, .int y_119), (2, .int y_121)]) (wf := (fun z => wC L z r)) rfl rfl rfl ?_
                            refine tOF_put (e := r) (fun v_123 c_122 h => ⟨v_123, c_122, rfl, rfl, ?_⟩) y_119 y_121 c h
                            refine st_go 5 (pc' := 427) (lo' := [(0, .ref 1000), (1, .ref 0), (2, .ref 42), (3, .int x3)]) (st' := [.int (x3 + 1), .ref 1000, .ref 42, .int v_123]) rfl ?_
                            obtain ⟨hj_124, h⟩ := h
                            refine st_scr rfl hj_124 (fun y_125 hy_y_125 => ?_)
                            have h := h y_125 hy_y_125
                            refine st_go 4 (pc' := 432) (lo' := [(0, .ref 1000), (1, .ref 0), (2, .ref 42), (3, .int x3)]) (st' := [.int (x3 + 2), .ref 1000, .int y_125, .ref 42, .int v_123]) rfl ?_
                            obtain ⟨hj_126, h⟩ := h
                            refine st_scr rfl hj_126 (fun y_127 hy_y_127 => ?_)
                            have h := h y_127 hy_y_127
                            refine st_calli (k' := 352) (as := [.ref 42, .int y_125, .int y_127]) (rest := [.int v_123]) (lo' := [(0, .ref 42), (1, .int y_125), (2, .int y_127)]) (wf := (fun z => wC L c_122 z)) rfl rfl rfl ?_
                            refine tMO_put (e := c_122) (fun v_129 r_128 h => ⟨v_129, r_128, rfl, rfl, ?_⟩) y_125 y_127 r h
                            by_cases hc_130 : v_123 = v_129
                            · have h := Eq.mp (if_pos hc_130) h
                              refine st_icmp (t := 647) (b := true) rfl (decide_eq_true hc_130) rfl ?_
                              refine vmWp.sub (lo' := [(0, .ref 1000), (1, .ref 0), (2, .ref 42), (3, .int x3)]) ⟨rfl, rfl, rfl, rfl, trivial⟩ ?_
                              exact tLAW_647 ih hQ x3 c_122 r_128 h
                            · have h := Eq.mp (if_neg hc_130) h
                              refine st_icmp (t := 439) (b := false) rfl (decide_eq_false hc_130) rfl ?_
                              refine st_go 1 (pc' := 440) (lo' := [(0, .ref 1000), (1, .ref 0), (2, .ref 42), (3, .int x3)]) (st' := [.int 0]) rfl ?_
                              exact st_retZ rfl rfl (Or.inl rfl) (hQ _ _ _ h)
                          · have h := Eq.mp (if_neg hc_117) h
                            by_cases hc_131 : (y_3 &&& 31) = 11
                            · have h := Eq.mp (if_pos hc_131) h
                              refine st_tab (t := 441) rfl (by rw [hc_131]; rfl) ?_
                              refine st_go 5 (pc' := 446) (lo' := [(0, .ref 1000), (1, .ref 0), (2, .ref 42), (3, .int x3)]) (st' := [.int (x3 + 1), .ref 1000, .ref 0]) rfl ?_
                              obtain ⟨hj_132, h⟩ := h
                              refine st_scr rfl hj_132 (fun y_133 hy_y_133 => ?_)
                              have h := h y_133 hy_y_133
                              refine st_calli (k' := 233) (as := [.ref 0, .int y_133]) (rest := []) (lo' := [(0, .ref 0), (1, .int y_133)]) (wf := (fun z => wC L z r)) rfl rfl rfl ?_
                              refine tOF_register (e := r) (fun v_135 c_134 h => ⟨v_135, c_134, rfl, rfl, ?_⟩) y_133 c h
                              refine st_go 5 (pc' := 455) (lo' := [(0, .ref 1000), (1, .ref 0), (2, .ref 42), (3, .int x3)]) (st' := [.int (x3 + 1), .ref 1000, .ref 42, .int v_135]) rfl ?_
                              obtain ⟨hj_136, h⟩ := h
                              refine st_scr rfl hj_136 (fun y_137 hy_y_137 => ?_)
                              have h := h y_137 hy_y_137
                              refine st_calli (k' := 357) (as := [.ref 42, .int y_137]) (rest := [.int v_135]) (lo' := [(0, .ref 42), (1, .int y_137)]) (wf := (fun z => wC L c_134 z)) rfl rfl rfl ?_
                              refine tMO_register (e := c_134) (fun v_139 r_138 h => ⟨v_139, r_138, rfl, rfl, ?_⟩) y_137 r h
                              by_cases hc_140 : v_135 = v_139
                              · have h := Eq.mp (if_pos hc_140) h
                                refine st_icmp (t := 647) (b := true) rfl (decide_eq_true hc_140) rfl ?_
                                refine vmWp.sub (lo' := [(0, .ref 1000), (1, .ref 0), (2, .ref 42), (3, .int x3)]) ⟨rfl, rfl, rfl, rfl, trivial⟩ ?_
                                exact tLAW_647 ih hQ x3 c_134 r_138 h
                              · have h := Eq.mp (if_neg hc_140) h
                                refine st_icmp (t := 462) (b := false) rfl (decide_eq_false hc_140) rfl ?_
                                refine st_go 1 (pc' := 463) (lo' := [(0, .ref 1000), (1, .ref 0), (2, .ref 42), (3, .int x3)]) (st' := [.int 0]) rfl ?_
                                exact st_retZ rfl rfl (Or.inl rfl) (hQ _ _ _ h)
                            · have h := Eq.mp (if_neg hc_131) h
                              by_cases hc_141 : (y_3 &&& 31) = 12
                              · have h := Eq.mp (if_pos hc_141) h
                                refine st_tab (t := 464) rfl (by rw [hc_141]; rfl) ?_
                                refine st_go 5 (pc' := 469) (lo' := [(0, .ref 1000), (1, .ref 0), (2, .ref 42), (3, .int x3)]) (st' := [.int (x3 + 1), .ref 1000, .ref 0]) rfl ?_
                                obtain ⟨hj_142, h⟩ := h
                                refine st_scr rfl hj_142 (fun y_143 hy_y_143 => ?_)
                                have h := h y_143 hy_y_143
                                refine st_go 4 (pc' := 474) (lo' := [(0, .ref 1000), (1, .ref 0), (2, .ref 42), (3, .int x3)]) (st' := [.int (x3 + 2), .ref 1000, .int y_143, .ref 0]) rfl ?_
                                obtain ⟨hj_144, h⟩ := h
                                refine st_scr rfl hj_144 (fun y_145 hy_y_145 => ?_)
                                have h := h y_145 hy_y_145
                                refine st_calli (k' := 234) (as := [.ref 0, .int y_143, .int y_145]) (rest := []) (lo' := [(0, .ref 0), (1, .int y_143), (2, .int y_145)]) (wf := (fun z => wC L z r)) rfl rfl rfl ?_
                                refine tOF_set (e := r) (fun v_147 c_146 h => ⟨v_147, c_146, rfl, rfl, ?_⟩) y_143 y_145 c h
                                refine st_go 5 (pc' := 483) (lo' := [(0, .ref 1000), (1, .ref 0), (2, .ref 42), (3, .int x3)]) (st' := [.int (x3 + 1), .ref 1000, .ref 42, .int v_147]) rfl ?_
                                obtain ⟨hj_148, h⟩ := h
                                refine st_scr rfl hj_148 (fun y_149 hy_y_149 => ?_)
                                have h := h y_149 hy_y_149
                                refine st_go 4 (pc' := 488) (lo' := [(0, .ref 1000), (1, .ref 0), (2, .ref 42), (3, .int x3)]) (st' := [.int (x3 + 2), .ref 1000, .int y_149, .ref 42, .int v_147]) rfl ?_
                                obtain ⟨hj_150, h⟩ := h
                                refine st_scr rfl hj_150 (fun y_151 hy_y_151 => ?_)
                                have h := h y_151 hy_y_151
                                refine st_calli (k' := 358) (as := [.ref 42, .int y_149, .int y_151]) (rest := [.int v_147]) (lo' := [(0, .ref 42), (1, .int y_149), (2, .int y_151)]) (wf := (fun z => wC L c_146 z)) rfl rfl rfl ?_
                                refine tMO_set (e := c_146) (fun v_153 r_152 h => ⟨v_153, r_152, rfl, rfl, ?_⟩) y_149 y_151 r h
                                by_cases hc_154 : v_147 = v_153
                                · have h := Eq.mp (if_pos hc_154) h
                                  refine st_icmp (t := 647) (b := true) rfl (decide_eq_true hc_154) rfl ?_
                                  refine vmWp.sub (lo' := [(0, .ref 1000), (1, .ref 0), (2, .ref 42), (3, .int x3)]) ⟨rfl, rfl, rfl, rfl, trivial⟩ ?_
                                  exact tLAW_647 ih hQ x3 c_146 r_152 h
                                · have h := Eq.mp (if_neg hc_154) h
                                  refine st_icmp (t := 495) (b := false) rfl (decide_eq_false hc_154) rfl ?_
                                  refine st_go 1 (pc' := 496) (lo' := [(0, .ref 1000), (1, .ref 0), (2, .ref 42), (3, .int x3)]) (st' := [.int 0]) rfl ?_
                                  exact st_retZ rfl rfl (Or.inl rfl) (hQ _ _ _ h)
                              · have h := Eq.mp (if_neg hc_141) h
                                by_cases hc_155 : (y_3 &&& 31) = 13
                                · have h := Eq.mp (if_pos hc_155) h
                                  refine st_tab (t := 497) rfl (by rw [hc_155]; rfl) ?_
                                  refine st_go 5 (pc' := 502) (lo' := [(0, .ref 1000), (1, .ref 0), (2, .ref 42), (3, .int x3)]) (st' := [.int (x3 + 1), .ref 1000, .ref 0]) rfl ?_
                                  obtain ⟨hj_156, h⟩ := h
                                  refine st_scr rfl hj_156 (fun y_157 hy_y_157 => ?_)
                                  have h := h y_157 hy_y_157
                                  refine st_go 4 (pc' := 507) (lo' := [(0, .ref 1000), (1, .ref 0), (2, .ref 42), (3, .int x3)]) (st' := [.int (x3 + 2), .ref 1000, .int y_157, .ref 0]) rfl ?_
                                  obtain ⟨hj_158, h⟩ := h
                                  refine st_scr rfl hj_158 (fun y_159 hy_y_159 => ?_)
                                  have h := h y_159 hy_y_159
                                  refine st_calli (k' := 235) (as := [.ref 0, .int y_157, .int y_159]) (rest := []) (lo' := [(0, .ref 0), (1, .int y_157), (2, .int y_159)]) (wf := (fun z => wC L z r)) rfl rfl rfl ?_
                                  refine tOF_port (e := r) (fun v_161 c_160 h => ⟨v_161, c_160, rfl, rfl, ?_⟩) y_157 y_159 c h
                                  refine st_go 5 (pc' := 516) (lo' := [(0, .ref 1000), (1, .ref 0), (2, .ref 42), (3, .int x3)]) (st' := [.int (x3 + 1), .ref 1000, .ref 42, .int v_161]) rfl ?_
                                  obtain ⟨hj_162, h⟩ := h
                                  refine st_scr rfl hj_162 (fun y_163 hy_y_163 => ?_)
                                  have h := h y_163 hy_y_163
                                  refine st_go 4 (pc' := 521) (lo' := [(0, .ref 1000), (1, .ref 0), (2, .ref 42), (3, .int x3)]) (st' := [.int (x3 + 2), .ref 1000, .int y_163, .ref 42, .int v_161]) rfl ?_
                                  obtain ⟨hj_164, h⟩ := h
                                  refine st_scr rfl hj_164 (fun y_165 hy_y_165 => ?_)
                                  have h := h y_165 hy_y_165
                                  refine st_calli (k' := 359) (as := [.ref 42, .int y_163, .int y_165]) (rest := [.int v_161]) (lo' := [(0, .ref 42), (1, .int y_163), (2, .int y_165)]) (wf := (fun z => wC L c_160 z)) rfl rfl rfl ?_
                                  refine tMO_port (e := c_160) (fun v_167 r_166 h => ⟨v_167, r_166, rfl, rfl, ?_⟩) y_163 y_165 r h
                                  by_cases hc_168 : v_161 = v_167
                                  · have h := Eq.mp (if_pos hc_168) h
                                    refine st_icmp (t := 647) (b := true) rfl (decide_eq_true hc_168) rfl ?_
                                    refine vmWp.sub (lo' := [(0, .ref 1000), (1, .ref 0), (2, .ref 42), (3, .int x3)]) ⟨rfl, rfl, rfl, rfl, trivial⟩ ?_
                                    exact tLAW_647 ih hQ x3 c_160 r_166 h
                                  · have h := Eq.mp (if_neg hc_168) h
                                    refine st_icmp (t := 528) (b := false) rfl (decide_eq_false hc_168) rfl ?_
                                    refine st_go 1 (pc' := 529) (lo' := [(0, .ref 1000), (1, .ref 0), (2, .ref 42), (3, .int x3)]) (st' := [.int 0]) rfl ?_
                                    exact st_retZ rfl rfl (Or.inl rfl) (hQ _ _ _ h)
                                · have h := Eq.mp (if_neg hc_155) h
                                  by_cases hc_169 : (y_3 &&& 31) = 14
                                  · have h := Eq.mp (if_pos hc_169) h
                                    refine st_tab (t := 530) rfl (by rw [hc_169]; rfl) ?_
                                    refine st_go 5 (pc' := 535) (lo' := [(0, .ref 1000), (1, .ref 0), (2, .ref 42), (3, .int x3)]) (st' := [.int (x3 + 1), .ref 1000, .ref 0]) rfl ?_
                                    obtain ⟨hj_170, h⟩ := h
                                    refine st_scr rfl hj_170 (fun y_171 hy_y_171 => ?_)
                                    have h := h y_171 hy_y_171
                                    refine st_calli (k' := 236) (as := [.ref 0, .int y_171]) (rest := []) (lo' := [(0, .ref 0), (1, .int y_171)]) (wf := (fun z => wC L z r)) rfl rfl rfl ?_
                                    refine tOF_out (e := r) (fun v_173 c_172 h => ⟨v_173, c_172, rfl, rfl, ?_⟩) y_171 c h
                                    refine st_go 5 (pc' := 544) (lo' := [(0, .ref 1000), (1, .ref 0), (2, .ref 42), (3, .int x3)]) (st' := [.int (x3 + 1), .ref 1000, .ref 42, .int v_173]) rfl ?_
                                    obtain ⟨hj_174, h⟩ := h
                                    refine st_scr rfl hj_174 (fun y_175 hy_y_175 => ?_)
                                    have h := h y_175 hy_y_175
                                    refine st_calli (k' := 360) (as := [.ref 42, .int y_175]) (rest := [.int v_173]) (lo' := [(0, .ref 42), (1, .int y_175)]) (wf := (fun z => wC L c_172 z)) rfl rfl rfl ?_
                                    refine tMO_out (e := c_172) (fun v_177 r_176 h => ⟨v_177, r_176, rfl, rfl, ?_⟩) y_175 r h
                                    by_cases hc_178 : v_173 = v_177
                                    · have h := Eq.mp (if_pos hc_178) h
                                      refine st_icmp (t := 647) (b := true) rfl (decide_eq_true hc_178) rfl ?_
                                      refine vmWp.sub (lo' := [(0, .ref 1000), (1, .ref 0), (2, .ref 42), (3, .int x3)]) ⟨rfl, rfl, rfl, rfl, trivial⟩ ?_
                                      exact tLAW_647 ih hQ x3 c_172 r_176 h
                                    · have h := Eq.mp (if_neg hc_178) h
                                      refine st_icmp (t := 551) (b := false) rfl (decide_eq_false hc_178) rfl ?_
                                      refine st_go 1 (pc' := 552) (lo' := [(0, .ref 1000), (1, .ref 0), (2, .ref 42), (3, .int x3)]) (st' := [.int 0]) rfl ?_
                                      exact st_retZ rfl rfl (Or.inl rfl) (hQ _ _ _ h)
                                  · have h := Eq.mp (if_neg hc_169) h
                                    by_cases hc_179 : (y_3 &&& 31) = 15
                                    · have h := Eq.mp (if_pos hc_179) h
                                      refine st_tab (t := 553) rfl (by rw [hc_179]; rfl) ?_
                                      refine st_go 5 (pc' := 558) (lo' := [(0, .ref 1000), (1, .ref 0), (2, .ref 42), (3, .int x3)]) (st' := [.int (x3 + 1), .ref 1000, .ref 0]) rfl ?_
                                      obtain ⟨hj_180, h⟩ := h
                                      refine st_scr rfl hj_180 (fun y_181 hy_y_181 => ?_)
                                      have h := h y_181 hy_y_181
                                      refine st_go 4 (pc' := 563) (lo' := [(0, .ref 1000), (1, .ref 0), (2, .ref 42), (3, .int x3)]) (st' := [.int (x3 + 2), .ref 1000, .int y_181, .ref 0]) rfl ?_
                                      obtain ⟨hj_182, h⟩ := h
                                      refine st_scr rfl hj_182 (fun y_183 hy_y_183 => ?_)
                                      have h := h y_183 hy_y_183
                                      refine st_calli (k' := 237) (as := [.ref 0, .int y_181, .int y_183]) (rest := []) (lo' := [(0, .ref 0), (1, .int y_181), (2, .int y_183)]) (wf := (fun z => wC L z r)) rfl rfl rfl ?_
                                      refine tOF_request (e := r) (fun v_185 c_184 h => ⟨v_185, c_184, rfl, rfl, ?_⟩) y_181 y_183 c h
                                      refine st_go 5 (pc' := 572) (lo' := [(0, .ref 1000), (1, .ref 0), (2, .ref 42), (3, .int x3)]) (st' := [.int (x3 + 1), .ref 1000, .ref 42, .int v_185]) rfl ?_
                                      obtain ⟨hj_186, h⟩ := h
                                      refine st_scr rfl hj_186 (fun y_187 hy_y_187 => ?_)
                                      have h := h y_187 hy_y_187
                                      refine st_go 4 (pc' := 577) (lo' := [(0, .ref 1000), (1, .ref 0), (2, .ref 42), (3, .int x3)]) (st' := [.int (x3 + 2), .ref 1000, .int y_187, .ref 42, .int v_185]) rfl ?_
                                      obtain ⟨hj_188, h⟩ := h
                                      refine st_scr rfl hj_188 (fun y_189 hy_y_189 => ?_)
                                      have h := h y_189 hy_y_189
                                      refine st_calli (k' := 362) (as := [.ref 42, .int y_187, .int y_189]) (rest := [.int v_185]) (lo' := [(0, .ref 42), (1, .int y_187), (2, .int y_189)]) (wf := (fun z => wC L c_184 z)) rfl rfl rfl ?_
                                      refine tMO_request (e := c_184) (fun v_191 r_190 h => ⟨v_191, r_190, rfl, rfl, ?_⟩) y_187 y_189 r h
                                      by_cases hc_192 : v_185 = v_191
                                      · have h := Eq.mp (if_pos hc_192) h
                                        refine st_icmp (t := 647) (b := true) rfl (decide_eq_true hc_192) rfl ?_
                                        refine vmWp.sub (lo' := [(0, .ref 1000), (1, .ref 0), (2, .ref 42), (3, .int x3)]) ⟨rfl, rfl, rfl, rfl, trivial⟩ ?_
                                        exact tLAW_647 ih hQ x3 c_184 r_190 h
                                      · have h := Eq.mp (if_neg hc_192) h
                                        refine st_icmp (t := 584) (b := false) rfl (decide_eq_false hc_192) rfl ?_
                                        refine st_go 1 (pc' := 585) (lo' := [(0, .ref 1000), (1, .ref 0), (2, .ref 42), (3, .int x3)]) (st' := [.int 0]) rfl ?_
                                        exact st_retZ rfl rfl (Or.inl rfl) (hQ _ _ _ h)
                                    · have h := Eq.mp (if_neg hc_179) h
                                      by_cases hc_193 : (y_3 &&& 31) = 16
                                      · have h := Eq.mp (if_pos hc_193) h
                                        refine st_tab (t := 586) rfl (by rw [hc_193]; rfl) ?_
                                        refine st_go 1 (pc' := 587) (lo' := [(0, .ref 1000), (1, .ref 0), (2, .ref 42), (3, .int x3)]) (st' := [.ref 0]) rfl ?_
                                        refine st_calli (k' := 238) (as := [.ref 0]) (rest := []) (lo' := [(0, .ref 0)]) (wf := (fun z => wC L z r)) rfl rfl rfl ?_
                                        refine tOF_step (e := r) (fun v_195 c_194 h => ⟨v_195, c_194, rfl, rfl, ?_⟩) c h
                                        refine st_go 1 (pc' := 591) (lo' := [(0, .ref 1000), (1, .ref 0), (2, .ref 42), (3, .int x3)]) (st' := [.ref 42, .int v_195]) rfl ?_
                                        refine st_calli (k' := 384) (as := [.ref 42]) (rest := [.int v_195]) (lo' := [(0, .ref 42)]) (wf := (fun z => wC L c_194 z)) rfl rfl rfl ?_
                                        refine tMO_step (e := c_194) (fun v_197 r_196 h => ⟨v_197, r_196, rfl, rfl, ?_⟩) r h
                                        by_cases hc_198 : v_195 = v_197
                                        · have h := Eq.mp (if_pos hc_198) h
                                          refine st_icmp (t := 647) (b := true) rfl (decide_eq_true hc_198) rfl ?_
                                          refine vmWp.sub (lo' := [(0, .ref 1000), (1, .ref 0), (2, .ref 42), (3, .int x3)]) ⟨rfl, rfl, rfl, rfl, trivial⟩ ?_
                                          exact tLAW_647 ih hQ x3 c_194 r_196 h
                                        · have h := Eq.mp (if_neg hc_198) h
                                          refine st_icmp (t := 597) (b := false) rfl (decide_eq_false hc_198) rfl ?_
                                          refine st_go 1 (pc' := 598) (lo' := [(0, .ref 1000), (1, .ref 0), (2, .ref 42), (3, .int x3)]) (st' := [.int 0]) rfl ?_
                                          exact st_retZ rfl rfl (Or.inl rfl) (hQ _ _ _ h)
                                      · have h := Eq.mp (if_neg hc_193) h
                                        by_cases hc_199 : (y_3 &&& 31) = 17
                                        · have h := Eq.mp (if_pos hc_199) h
                                          refine st_tab (t := 599) rfl (by rw [hc_199]; rfl) ?_
                                          refine st_go 5 (pc' := 604) (lo' := [(0, .ref 1000), (1, .ref 0), (2, .ref 42), (3, .int x3)]) (st' := [.int (x3 + 1), .ref 1000, .ref 0]) rfl ?_
                                          obtain ⟨hj_200, h⟩ := h
                                          refine st_scr rfl hj_200 (fun y_201 hy_y_201 => ?_)
                                          have h := h y_201 hy_y_201
                                          refine st_calli (k' := 239) (as := [.ref 0, .int y_201]) (rest := []) (lo' := [(0, .ref 0), (1, .int y_201)]) (wf := (fun z => wC L z r)) rfl rfl rfl ?_
                                          refine tOF_run (e := r) (fun v_203 c_202 h => ⟨v_203, c_202, rfl, rfl, ?_⟩) y_201 c h
                                          refine st_go 5 (pc' := 613) (lo' := [(0, .ref 1000), (1, .ref 0), (2, .ref 42), (3, .int x3)]) (st' := [.int (x3 + 1), .ref 1000, .ref 42, .int v_203]) rfl ?_
                                          obtain ⟨hj_204, h⟩ := h
                                          refine st_scr rfl hj_204 (fun y_205 hy_y_205 => ?_)
                                          have h := h y_205 hy_y_205
                                          refine st_calli (k' := 385) (as := [.ref 42, .int y_205]) (rest := [.int v_203]) (lo' := [(0, .ref 42), (1, .int y_205)]) (wf := (fun z => wC L c_202 z)) rfl rfl rfl ?_
                                          refine tMO_run (e := c_202) (fun v_207 r_206 h => ⟨v_207, r_206, rfl, rfl, ?_⟩) y_205 r h
                                          by_cases hc_208 : v_203 = v_207
                                          · have h := Eq.mp (if_pos hc_208) h
                                            refine st_icmp (t := 647) (b := true) rfl (decide_eq_true hc_208) rfl ?_
                                            refine vmWp.sub (lo' := [(0, .ref 1000), (1, .ref 0), (2, .ref 42), (3, .int x3)]) ⟨rfl, rfl, rfl, rfl, trivial⟩ ?_
                                            exact tLAW_647 ih hQ x3 c_202 r_206 h
                                          · have h := Eq.mp (if_neg hc_208) h
                                            refine st_icmp (t := 620) (b := false) rfl (decide_eq_false hc_208) rfl ?_
                                            refine st_go 1 (pc' := 621) (lo' := [(0, .ref 1000), (1, .ref 0), (2, .ref 42), (3, .int x3)]) (st' := [.int 0]) rfl ?_
                                            exact st_retZ rfl rfl (Or.inl rfl) (hQ _ _ _ h)
                                        · have h := Eq.mp (if_neg hc_199) h
                                          by_cases hc_209 : (y_3 &&& 31) = 18
                                          · have h := Eq.mp (if_pos hc_209) h
                                            refine st_tab (t := 622) rfl (by rw [hc_209]; rfl) ?_
                                            refine st_go 1 (pc' := 623) (lo' := [(0, .ref 1000), (1, .ref 0), (2, .ref 42), (3, .int x3)]) (st' := [.ref 0]) rfl ?_
                                            refine st_calll (k' := 240) (as := [.ref 0]) (rest := []) (lo' := [(0, .ref 0)]) (wf := (fun z => wC L z r)) rfl rfl rfl ?_
                                            refine tOF_outs (e := r) (fun v_211 c_210 h => ⟨v_211, c_210, rfl, rfl, ?_⟩) c h
                                            refine st_go 1 (pc' := 627) (lo' := [(0, .ref 1000), (1, .ref 0), (2, .ref 42), (3, .int x3)]) (st' := [.ref 42, .long v_211]) rfl ?_
                                            refine st_calll (k' := 361) (as := [.ref 42]) (rest := [.long v_211]) (lo' := [(0, .ref 42)]) (wf := (fun z => wC L c_210 z)) rfl rfl rfl ?_
                                            refine tMO_outs (e := c_210) (fun v_213 r_212 h => ⟨v_213, r_212, rfl, rfl, ?_⟩) r h
                                            refine st_go 1 (pc' := 631) (lo' := [(0, .ref 1000), (1, .ref 0), (2, .ref 42), (3, .int x3)]) (st' := [.int (lg_cmp v_211 v_213)]) rfl ?_
                                            by_cases hc_214 : (lg_cmp v_211 v_213) = 0
                                            · have h := Eq.mp (if_pos hc_214) h
                                              refine st_if (t := 647) (b := true) rfl (decide_eq_true hc_214) rfl ?_
                                              refine vmWp.sub (lo' := [(0, .ref 1000), (1, .ref 0), (2, .ref 42), (3, .int x3)]) ⟨rfl, rfl, rfl, rfl, trivial⟩ ?_
                                              exact tLAW_647 ih hQ x3 c_210 r_212 h
                                            · have h := Eq.mp (if_neg hc_214) h
                                              refine st_if (t := 634) (b := false) rfl (decide_eq_false hc_214) rfl ?_
                                              refine st_go 1 (pc' := 635) (lo' := [(0, .ref 1000), (1, .ref 0), (2, .ref 42), (3, .int x3)]) (st' := [.int 0]) rfl ?_
                                              exact st_retZ rfl rfl (Or.inl rfl) (hQ _ _ _ h)
                                          · have h := Eq.mp (if_neg hc_209) h
                                            by_cases hc_215 : (y_3 &&& 31) = 19
                                            · have h := Eq.mp (if_pos hc_215) h
                                              refine st_tab (t := 636) rfl (by rw [hc_215]; rfl) ?_
                                              refine st_go 1 (pc' := 637) (lo' := [(0, .ref 1000), (1, .ref 0), (2, .ref 42), (3, .int x3)]) (st' := [.ref 0]) rfl ?_
                                              refine st_callv (k' := 241) (as := [.ref 0]) (rest := []) (lo' := [(0, .ref 0)]) (wf := (fun z => wC L z r)) rfl rfl rfl ?_
                                              refine tOF_clear (e := r) (fun c_216 h => ⟨c_216, rfl, rfl, ?_⟩) c h
                                              refine st_go 1 (pc' := 641) (lo' := [(0, .ref 1000), (1, .ref 0), (2, .ref 42), (3, .int x3)]) (st' := [.ref 42]) rfl ?_
                                              refine st_callv (k' := 353) (as := [.ref 42]) (rest := []) (lo' := [(0, .ref 42)]) (wf := (fun z => wC L c_216 z)) rfl rfl rfl ?_
                                              refine tMO_clear (e := c_216) (fun r_217 h => ⟨r_217, rfl, rfl, ?_⟩) r h
                                              refine st_go 1 (pc' := 647) (lo' := [(0, .ref 1000), (1, .ref 0), (2, .ref 42), (3, .int x3)]) (st' := []) rfl ?_
                                              refine vmWp.sub (lo' := [(0, .ref 1000), (1, .ref 0), (2, .ref 42), (3, .int x3)]) ⟨rfl, rfl, rfl, rfl, trivial⟩ ?_
                                              exact tLAW_647 ih hQ x3 c_216 r_217 h
                                            · have h := Eq.mp (if_neg hc_215) h
                                              refine st_tab (t := 647) rfl (tab_def rfl (by decide) rfl (by
                                                intro j hj hx
                                                have hj : j < 20 := hj
                                                rcases (j = 0 ∨ j = 1 ∨ j = 2 ∨ j = 3 ∨ j = 4 ∨ j = 5 ∨ j = 6 ∨ j = 7 ∨ j = 8 ∨ j = 9 ∨ j = 10 ∨ j = 11 ∨ j = 12 ∨ j = 13 ∨ j = 14 ∨ j = 15 ∨ j = 16 ∨ j = 17 ∨ j = 18 ∨ j = 19 : Prop) |> fun _ => (show j = 0 ∨ j = 1 ∨ j = 2 ∨ j = 3 ∨ j = 4 ∨ j = 5 ∨ j = 6 ∨ j = 7 ∨ j = 8 ∨ j = 9 ∨ j = 10 ∨ j = 11 ∨ j = 12 ∨ j = 13 ∨ j = 14 ∨ j = 15 ∨ j = 16 ∨ j = 17 ∨ j = 18 ∨ j = 19 by omega) with rfl | rfl | rfl | rfl | rfl | rfl | rfl | rfl | rfl | rfl | rfl | rfl | rfl | rfl | rfl | rfl | rfl | rfl | rfl | rfl <;> first | rfl | exact absurd hx hc_4 | exact absurd hx hc_23 | exact absurd hx hc_29 | exact absurd hx hc_39 | exact absurd hx hc_49 | exact absurd hx hc_63 | exact absurd hx hc_73 | exact absurd hx hc_83 | exact absurd hx hc_97 | exact absurd hx hc_107 | exact absurd hx hc_117 | exact absurd hx hc_131 | exact absurd hx hc_141 | exact absurd hx hc_155 | exact absurd hx hc_169 | exact absurd hx hc_179 | exact absurd hx hc_193 | exact absurd hx hc_199 | exact absurd hx hc_209 | exact absurd hx hc_215)) ?_
                                              refine vmWp.sub (lo' := [(0, .ref 1000), (1, .ref 0), (2, .ref 42), (3, .int x3)]) ⟨rfl, rfl, rfl, rfl, trivial⟩ ?_
                                              exact tLAW_647 ih hQ x3 c r h
