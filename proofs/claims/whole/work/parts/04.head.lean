/-! The data against the claim's own tables: what the interpreter takes from the data is in lw_tbl, and is what decode says. -/
noncomputable def TB : List Jvm.Cond := lw_tbl.filter goodWord
theorem TB_of {i : Nat} {w : Jvm.Cond} (h : lw_tbl[i]? = some w) (g : goodWord w = true) : w ∈ TB := List.mem_filter.mpr ⟨List.mem_of_getElem? h, g⟩
theorem TB_good {w : Jvm.Cond} (h : w ∈ TB) : goodWord w = true := (List.mem_filter.mp h).2
theorem TB_tbl {w : Jvm.Cond} (h : w ∈ TB) : w ∈ lw_tbl := (List.mem_filter.mp h).1
noncomputable def ckAt (i : Nat) (w : Jvm.Cond) : Bool := decide (lw_tbl[i]? = some w) && goodWord w
theorem ckAt_TB {i : Nat} {w : Jvm.Cond} (h : ckAt i w = true) : w ∈ TB := by
  unfold ckAt at h
  rw [Bool.and_eq_true, decide_eq_true_eq] at h
  exact TB_of h.1 h.2
noncomputable def ckF (c j : Nat) : Bool := match rF c j with
  | none => true
  | some (ci, f, h) => ckAt h (.fieldLink (cN c) j (cN ci) (cT ci f).2.1 (cT ci f).2.2.1) && (decide ((cT ci f).1 = cN ci) && (Nat.blt f (cF ci) && Nat.blt ci 14))
noncomputable def ckM (c j : Nat) : Bool := match rM c j with
  | none => true
  | some (kd, k', hs) => match kd with
    | 0 => Nat.blt k' 406 && (ckAt (hs.getD 0 0) (.methodLink (cN c) j (mN k')) && (ckAt (hs.getD 1 0) (.static (mN k')) && ckAt (hs.getD 2 0) (.initialized (mN k').cls)))
    | 1 => Nat.blt k' 406 && (decide (lw_tbl[hs.getD 0 0]? = some (.methodLinkNest (cN c) j (mN k') (rH c j))) && (ckAt (hs.getD 1 0) (.static (mN k')) && ckAt (hs.getD 2 0) (.initialized (mN k').cls)))
    | 2 => (Nat.blt k' 406 && Nat.blt (mC k') 14) && (ckAt (hs.getD 0 0) (.methodLink (cN c) j (mN k')) && (ckAt (hs.getD 1 0) (.instanceMethod (mN k')) && (ckAt (hs.getD 2 0) (.selects (mN k').cls (mN k') (mN k')) && ckAt (hs.getD 3 0) (.initialized (mN k').cls))))
    | 3 => (Nat.blt k' 406 && Nat.blt (mC k') 14) && (decide (lw_tbl[hs.getD 0 0]? = some (.methodLinkNest (cN c) j (mN k') (rH c j))) && (ckAt (hs.getD 1 0) (.instanceMethod (mN k')) && (ckAt (hs.getD 2 0) (.selects (mN k').cls (mN k') (mN k')) && ckAt (hs.getD 3 0) (.initialized (mN k').cls))))
    | 4 => (Nat.blt k' 406 && mInit k') && (ckAt (hs.getD 0 0) (.methodLink (cN c) j (mN k')) && (ckAt (hs.getD 1 0) (.instanceMethod (mN k')) && ckAt (hs.getD 2 0) (.initialized (mN k').cls)))
    | 5 => (Nat.blt k' 406 && mInit k') && (decide (lw_tbl[hs.getD 0 0]? = some (.methodLinkNest (cN c) j (mN k') (rH c j))) && (ckAt (hs.getD 1 0) (.instanceMethod (mN k')) && ckAt (hs.getD 2 0) (.initialized (mN k').cls)))
    | 6 => ckAt (hs.getD 0 0) (.methodLink (cN c) j objectInit) && (ckAt (hs.getD 1 0) (.instanceMethod objectInit) && ckAt (hs.getD 2 0) (.code objectInit ⟨#[0xb1]⟩ 1 none))
    | 7 => ckAt (hs.getD 0 0) (.methodLink (cN c) j yJ0_length_8abf5)
    | 8 => ckAt (hs.getD 0 0) (.methodLink (cN c) j yJ0_charAt_5068e)
    | 9 => ckAt (hs.getD 0 0) (.methodLink (cN c) j yJ0_indexOf_0f7a4)
    | 10 => ckAt (hs.getD 0 0) (.methodLink (cN c) j Lib.Math.max.name) && (ckAt (hs.getD 1 0) (.static Lib.Math.max.name) && (ckAt (hs.getD 2 0) (.initialized "java/lang/Math") && ckAt (hs.getD 3 0) (.code Lib.Math.max.name Lib.Math.max.code 2 (some .int))))
    | 11 => ckAt (hs.getD 0 0) (.methodLink (cN c) j Lib.Math.min.name) && (ckAt (hs.getD 1 0) (.static Lib.Math.min.name) && (ckAt (hs.getD 2 0) (.initialized "java/lang/Math") && ckAt (hs.getD 3 0) (.code Lib.Math.min.name Lib.Math.min.code 2 (some .int))))
    | 12 => ckAt (hs.getD 0 0) (.methodLink (cN c) j Lib.Math.abs.name) && (ckAt (hs.getD 1 0) (.static Lib.Math.abs.name) && (ckAt (hs.getD 2 0) (.initialized "java/lang/Math") && ckAt (hs.getD 3 0) (.code Lib.Math.abs.name Lib.Math.abs.code 1 (some .int))))
    | _ => true
noncomputable def ckI (c j : Nat) : Bool := match rI c j with
  | none => true
  | some (v, h) => ckAt h (.constant (cN c) j v)
noncomputable def ckJ (c j : Nat) : Bool := match rJ c j with
  | none => true
  | some (v, h) => ckAt h (.constantLong (cN c) j v)
noncomputable def ckN (c j : Nat) : Bool := match rN c j with
  | none => true
  | some (ci, hs) => Nat.blt ci 14 && (ckAt (hs.getD 0 0) (.classLink (cN c) j (cN ci)) && (ckAt (hs.getD 1 0) (.instantiable (cN ci) (cF ci)) && ckAt (hs.getD 2 0) (.initialized (cN ci))))
noncomputable def ckK (k : Nat) : Bool := ckAt (mHint k) (.code (mN k) (mB k) (mL k) (mR k)) && decide (mInit k = true → mR k = none)
noncomputable def ckK2 (k : Nat) : Bool := decide ((mN k).cls = cN (mC k)) && (Jvm.plainName (mN k).cls && (decide ((mN k).cls ≠ "java/lang/invoke/MethodHandle" ∧ (mN k).cls ≠ "java/lang/invoke/VarHandle" ∧ (parseMethodDescriptor (mN k).desc).map (fun d => d.parameters.length) = some (mArgs k)) && decide (mInit k = true ↔ (mN k).name = "<init>")))
noncomputable def ckW (c : Nat) : Bool := (List.range (cF c)).all (fun f => ckAt (hW c f) (u_lay (cN c) (cT c) f) && decide (parseFieldDescriptor (cT c f).2.2.1 = some (cTy c f)))
/-! decode says what the data says; the code words; the room of calls -/
/-- which kinds of calls go with invokestatic 0, invokevirtual 1, invokespecial 2 -/
def vmKd (kd : Nat) : Nat := match kd with
  | 0 => 0 | 1 => 0 | 10 => 0 | 11 => 0 | 12 => 0
  | 2 => 1 | 3 => 1 | 7 => 1 | 8 => 1 | 9 => 1
  | 4 => 2 | 5 => 2 | 6 => 2
  | _ => 3
noncomputable def vmOk (k pc : Nat) (i : Instr) (len : Nat) (cv : Int32) (tg : Nat) : Bool := match i with
  | .iconst v => Nat.beq len 1 && decide (Int32.ofInt v = cv)
  | .bipush v => Nat.beq len 2 && decide ((Int8.ofInt v).toInt32 = cv)
  | .sipush v => Nat.beq len 3 && decide ((Int16.ofInt v).toInt32 = cv)
  | .ldc _ => Nat.beq len 2
  | .ldc_w _ => Nat.beq len 3
  | .ldc2_w _ => Nat.beq len 3
  | .iload _ => Nat.beq len 2
  | .lload _ => Nat.beq len 2
  | .aload _ => Nat.beq len 2
  | .istore _ => Nat.beq len 2
  | .lstore _ => Nat.beq len 2
  | .astore _ => Nat.beq len 2
  | .iinc _ v => Nat.beq len 3 && decide (Int32.ofInt v = cv)
  | .ifCond _ off => Nat.beq len 3 && decide ((pc : Int) + off = (tg : Int))
  | .if_icmp _ off => Nat.beq len 3 && decide ((pc : Int) + off = (tg : Int))
  | .goto off => Nat.beq len 3 && decide ((pc : Int) + off = (tg : Int))
  | .tableswitch d a b offs => decide (0 ≤ (pc : Int) + d) && (decide (a ≤ b) && (decide ((offs.size : Int) = b - a + 1) && offs.toList.all (fun o => decide (0 ≤ (pc : Int) + o))))
  | .lookupswitch d ps => decide (0 ≤ (pc : Int) + d) && ((ps.toList.zip (ps.toList.drop 1)).all (fun (a, next) => a.1 < next.1) && ps.toList.all (fun o => decide (0 ≤ (pc : Int) + o.2)))
  | .getfield _ => Nat.beq len 3
  | .putfield _ => Nat.beq len 3
  | .new _ => Nat.beq len 3
  | .newarray _ => Nat.beq len 2
  | .invokevirtual j => Nat.beq len 3 && vmFits k j 1
  | .invokespecial j => Nat.beq len 3 && vmFits k j 2
  | .invokestatic j => Nat.beq len 3 && vmFits k j 0
  | _ => Nat.beq len 1
where
  vmFits (k j cl : Nat) : Bool := match rM (mC k) j with
    | none => true
    | some (kd, k', _) => Nat.beq (vmKd kd) cl && bif Nat.ble kd 5 then Nat.ble (mF k' + 1) (mF k) && Nat.ble (8 + (mL k' + 11) + mX k') (mX k)
      else bif Nat.ble kd 6 then Nat.ble 1 (mF k) && Nat.ble 20 (mX k)
      else bif Nat.ble kd 9 then Nat.ble 6 (mF k) && Nat.ble 140 (mX k)
      else Nat.ble 1 (mF k) && Nat.ble 21 (mX k)
noncomputable def ckD (k pc : Nat) : Bool := match mI k pc with
  | none => true
  | some (i, len, cv, tg) => decide (decode (mB k) pc = .ok (i, len)) && vmOk k pc i len cv tg
