/-! The decompiled program, 3: rows on the data, on either side -/
theorem st_ialdC {k pc tg o : Nat} {cv : Int32} {j : Int32} {L : Nat} {d e : vmD} {lo : vmL} {st : List Value} {Q : Option Value → vmW → Prop} (hI : mI k pc = some (.iaload, 1, cv, tg)) (hk : vmIs (wC L d e) o 20 = true) (hj : ixOk j (S0n L o)) (ho : Nat.blt o 42 = true) (h : ∀ y : Int32, y = gA d o j.toNatClampNeg → vmWp k (pc + 1) lo (.int y :: st) (wC L d e) Q) : vmWp k pc lo (.int j :: .ref o :: st) (wC L d e) Q := by
  have h1 := h _ rfl
  have hv : (wC L d e).2.2.2.1 o j.toNatClampNeg = gA d o j.toNatClampNeg := by
    show (bif Nat.blt o 42 then _ else _) = _
    rw [ho]
    rfl
  rw [← hv] at h1
  have hb : (vmIs (wC L d e) o 20 || (Nat.beq o 1000 && Nat.beq k 406)) = true := by rw [hk]; rfl
  refine vmWp.one hI ?_ h1
  show (bif (vmIs (wC L d e) o 20 || (Nat.beq o 1000 && Nat.beq k 406)) then (if ¬ (j < 0 ∨ S0n L o ≤ j.toNatClampNeg) then vmGo _ _ _ _ else vmNo) else vmNo) = _
  rw [hb]
  exact if_pos hj
theorem st_baldC {k pc tg o : Nat} {cv : Int32} {j : Int32} {L : Nat} {d e : vmD} {lo : vmL} {st : List Value} {Q : Option Value → vmW → Prop} (hI : mI k pc = some (.baload, 1, cv, tg)) (hk : vmIs (wC L d e) o 21 = true) (hj : ixOk j (S0n L o)) (ho : Nat.blt o 42 = true) (h : ∀ y : Int32, y = gA d o j.toNatClampNeg → vmWp k (pc + 1) lo (.int y :: st) (wC L d e) Q) : vmWp k pc lo (.int j :: .ref o :: st) (wC L d e) Q := by
  have h1 := h _ rfl
  have hv : (wC L d e).2.2.2.1 o j.toNatClampNeg = gA d o j.toNatClampNeg := by
    show (bif Nat.blt o 42 then _ else _) = _
    rw [ho]
    rfl
  rw [← hv] at h1
  have hb : (vmIs (wC L d e) o 21 || vmIs (wC L d e) o 22) = true := by rw [hk]; rfl
  refine vmWp.one hI ?_ h1
  show (bif (vmIs (wC L d e) o 21 || vmIs (wC L d e) o 22) then (if ¬ (j < 0 ∨ S0n L o ≤ j.toNatClampNeg) then vmGo _ _ _ _ else vmNo) else vmNo) = _
  rw [hb]
  exact if_pos hj
theorem st_zaldC {k pc tg o : Nat} {cv : Int32} {j : Int32} {L : Nat} {d e : vmD} {lo : vmL} {st : List Value} {Q : Option Value → vmW → Prop} (hI : mI k pc = some (.baload, 1, cv, tg)) (hk : vmIs (wC L d e) o 22 = true) (hj : ixOk j (S0n L o)) (ho : Nat.blt o 42 = true) (h : ∀ y : Int32, y = gA d o j.toNatClampNeg → vmWp k (pc + 1) lo (.int y :: st) (wC L d e) Q) : vmWp k pc lo (.int j :: .ref o :: st) (wC L d e) Q := by
  have h1 := h _ rfl
  have hv : (wC L d e).2.2.2.1 o j.toNatClampNeg = gA d o j.toNatClampNeg := by
    show (bif Nat.blt o 42 then _ else _) = _
    rw [ho]
    rfl
  rw [← hv] at h1
  have hb : (vmIs (wC L d e) o 21 || vmIs (wC L d e) o 22) = true := by rw [hk, Bool.or_true]
  refine vmWp.one hI ?_ h1
  show (bif (vmIs (wC L d e) o 21 || vmIs (wC L d e) o 22) then (if ¬ (j < 0 ∨ S0n L o ≤ j.toNatClampNeg) then vmGo _ _ _ _ else vmNo) else vmNo) = _
  rw [hb]
  exact if_pos hj
theorem st_laldC {k pc tg o : Nat} {cv : Int32} {j : Int32} {L : Nat} {d e : vmD} {lo : vmL} {st : List Value} {Q : Option Value → vmW → Prop} (hI : mI k pc = some (.laload, 1, cv, tg)) (hk : vmIs (wC L d e) o 23 = true) (hj : ixOk j (S0n L o)) (ho : Nat.blt o 42 = true) (h : ∀ y : Int64, y = gL d o j.toNatClampNeg → vmWp k (pc + 1) lo (.long y :: st) (wC L d e) Q) : vmWp k pc lo (.int j :: .ref o :: st) (wC L d e) Q := by
  have h1 := h _ rfl
  have hv : (wC L d e).2.2.2.2 o j.toNatClampNeg = gL d o j.toNatClampNeg := by
    show (bif Nat.blt o 42 then _ else _) = _
    rw [ho]
    rfl
  rw [← hv] at h1
  have hb : (vmIs (wC L d e) o 23) = true := hk
  refine vmWp.one hI ?_ h1
  show (bif (vmIs (wC L d e) o 23) then (if ¬ (j < 0 ∨ S0n L o ≤ j.toNatClampNeg) then vmGo _ _ _ _ else vmNo) else vmNo) = _
  rw [hb]
  exact if_pos hj
theorem st_iastC {k pc tg o : Nat} {cv : Int32} {j : Int32} {x : Int32} {L : Nat} {d e : vmD} {lo : vmL} {st : List Value} {Q : Option Value → vmW → Prop} (hI : mI k pc = some (.iastore, 1, cv, tg)) (hk : vmIs (wC L d e) o 20 = true) (hj : ixOk j (S0n L o)) (ho : Nat.blt o 42 = true) (h : ∀ d', d' = sA d o j.toNatClampNeg x → vmWp k (pc + 1) lo st (wC L d' e) Q) : vmWp k pc lo (.int x :: .int j :: .ref o :: st) (wC L d e) Q := by
  have h1 := h _ rfl
  have hv : wC L (sA d o j.toNatClampNeg x) e = (S0 L, ((mrg d e).1, (mrg d e).2.1, up2 (mrg d e).2.2.1 o j.toNatClampNeg x, (mrg d e).2.2.2)) := by
    unfold wC sA mrg
    dsimp only
    rw [up_mrgC _ _ ho]
  rw [hv] at h1
  refine vmWp.one hI ?_ h1
  show (bif vmIs (wC L d e) o 20 then (if ¬ (j < 0 ∨ S0n L o ≤ j.toNatClampNeg) then vmGo _ _ _ _ else vmNo) else vmNo) = _
  rw [hk]
  exact if_pos hj
theorem st_bastC {k pc tg o : Nat} {cv : Int32} {j : Int32} {x : Int32} {L : Nat} {d e : vmD} {lo : vmL} {st : List Value} {Q : Option Value → vmW → Prop} (hI : mI k pc = some (.bastore, 1, cv, tg)) (hk : vmIs (wC L d e) o 21 = true) (hj : ixOk j (S0n L o)) (ho : Nat.blt o 42 = true) (h : ∀ d', d' = sA d o j.toNatClampNeg (vp_nar .byte x) → vmWp k (pc + 1) lo st (wC L d' e) Q) : vmWp k pc lo (.int x :: .int j :: .ref o :: st) (wC L d e) Q := by
  have h1 := h _ rfl
  have hv : wC L (sA d o j.toNatClampNeg (vp_nar .byte x)) e = (S0 L, ((mrg d e).1, (mrg d e).2.1, up2 (mrg d e).2.2.1 o j.toNatClampNeg (vp_nar .byte x), (mrg d e).2.2.2)) := by
    unfold wC sA mrg
    dsimp only
    rw [up_mrgC _ _ ho]
  rw [hv] at h1
  refine vmWp.one hI ?_ h1
  show (bif vmIs (wC L d e) o 21 then (if ¬ (j < 0 ∨ S0n L o ≤ j.toNatClampNeg) then vmGo _ _ _ _ else vmNo) else _) = _
  rw [hk]
  exact if_pos hj
theorem st_zastC {k pc tg o : Nat} {cv : Int32} {j : Int32} {x : Int32} {L : Nat} {d e : vmD} {lo : vmL} {st : List Value} {Q : Option Value → vmW → Prop} (hI : mI k pc = some (.bastore, 1, cv, tg)) (hk : vmIs (wC L d e) o 22 = true) (h21 : vmIs (wC L d e) o 21 = false) (hj : ixOk j (S0n L o)) (ho : Nat.blt o 42 = true) (h : ∀ d', d' = sA d o j.toNatClampNeg (vp_nar .boolean x) → vmWp k (pc + 1) lo st (wC L d' e) Q) : vmWp k pc lo (.int x :: .int j :: .ref o :: st) (wC L d e) Q := by
  have h1 := h _ rfl
  have hv : wC L (sA d o j.toNatClampNeg (vp_nar .boolean x)) e = (S0 L, ((mrg d e).1, (mrg d e).2.1, up2 (mrg d e).2.2.1 o j.toNatClampNeg (vp_nar .boolean x), (mrg d e).2.2.2)) := by
    unfold wC sA mrg
    dsimp only
    rw [up_mrgC _ _ ho]
  rw [hv] at h1
  refine vmWp.one hI ?_ h1
  show (bif vmIs (wC L d e) o 21 then _ else bif vmIs (wC L d e) o 22 then (if ¬ (j < 0 ∨ S0n L o ≤ j.toNatClampNeg) then vmGo _ _ _ _ else vmNo) else vmNo) = _
  rw [h21, hk]
  exact if_pos hj
theorem st_lastC {k pc tg o : Nat} {cv : Int32} {j : Int32} {x : Int64} {L : Nat} {d e : vmD} {lo : vmL} {st : List Value} {Q : Option Value → vmW → Prop} (hI : mI k pc = some (.lastore, 1, cv, tg)) (hk : vmIs (wC L d e) o 23 = true) (hj : ixOk j (S0n L o)) (ho : Nat.blt o 42 = true) (h : ∀ d', d' = sL d o j.toNatClampNeg x → vmWp k (pc + 1) lo st (wC L d' e) Q) : vmWp k pc lo (.long x :: .int j :: .ref o :: st) (wC L d e) Q := by
  have h1 := h _ rfl
  have hv : wC L (sL d o j.toNatClampNeg x) e = (S0 L, ((mrg d e).1, (mrg d e).2.1, (mrg d e).2.2.1, up2 (mrg d e).2.2.2 o j.toNatClampNeg x)) := by
    unfold wC sL mrg
    dsimp only
    rw [up_mrgC _ _ ho]
  rw [hv] at h1
  refine vmWp.one hI ?_ h1
  show (bif vmIs (wC L d e) o 23 then (if ¬ (j < 0 ∨ S0n L o ≤ j.toNatClampNeg) then vmGo _ _ _ _ else vmNo) else vmNo) = _
  rw [hk]
  exact if_pos hj
theorem st_putIC {k pc tg o f ci h0 j : Nat} {cv : Int32} {x : Int32} {L : Nat} {d e : vmD} {lo : vmL} {st : List Value} {Q : Option Value → vmW → Prop} (hI : mI k pc = some (.putfield j, 3, cv, tg)) (hr : rF (mC k) j = some (ci, f, h0)) (hb : (vmIs (wC L d e) o ci && (!(cT ci f).2.2.2 || (mInit k && Nat.beq ci (mC k)))) = true) (hty : cTy ci f = .int) (ho : Nat.blt o 42 = true) (h : ∀ d', d' = sF d o f x → vmWp k (pc + 3) lo st (wC L d' e) Q) : vmWp k pc lo (.int x :: .ref o :: st) (wC L d e) Q := by
  have h1 := h _ rfl
  have hv : wC L (sF d o f x) e = (S0 L, (up2 (mrg d e).1 o f x, (mrg d e).2)) := by
    unfold wC sF mrg
    dsimp only
    rw [up_mrgC _ _ ho]
  rw [hv] at h1
  have hp : vmPut (wC L d e) ci o f (.int x) = some (S0 L, (up2 (mrg d e).1 o f x, (mrg d e).2)) := by
    unfold vmPut
    rw [hty]
    exact rfl
  refine vmWp.one hI ?_ h1
  delta vmAct
  dsimp only
  rw [hr]
  dsimp only
  rw [hb]
  dsimp only [cond_true]
  rw [hp]
theorem st_putZC {k pc tg o f ci h0 j : Nat} {cv : Int32} {x : Int32} {L : Nat} {d e : vmD} {lo : vmL} {st : List Value} {Q : Option Value → vmW → Prop} (hI : mI k pc = some (.putfield j, 3, cv, tg)) (hr : rF (mC k) j = some (ci, f, h0)) (hb : (vmIs (wC L d e) o ci && (!(cT ci f).2.2.2 || (mInit k && Nat.beq ci (mC k)))) = true) (hty : cTy ci f = .boolean) (hx : x = 0 ∨ x = 1) (ho : Nat.blt o 42 = true) (h : ∀ d', d' = sF d o f x → vmWp k (pc + 3) lo st (wC L d' e) Q) : vmWp k pc lo (.int x :: .ref o :: st) (wC L d e) Q := by
  have h1 := h _ rfl
  have hv : wC L (sF d o f x) e = (S0 L, (up2 (mrg d e).1 o f x, (mrg d e).2)) := by
    unfold wC sF mrg
    dsimp only
    rw [up_mrgC _ _ ho]
  rw [hv] at h1
  have hp : vmPut (wC L d e) ci o f (.int x) = some (S0 L, (up2 (mrg d e).1 o f x, (mrg d e).2)) := by
    unfold vmPut
    rw [hty]
    exact if_pos hx
  refine vmWp.one hI ?_ h1
  delta vmAct
  dsimp only
  rw [hr]
  dsimp only
  rw [hb]
  dsimp only [cond_true]
  rw [hp]
theorem st_putJC {k pc tg o f ci h0 j : Nat} {cv : Int32} {x : Int64} {L : Nat} {d e : vmD} {lo : vmL} {st : List Value} {Q : Option Value → vmW → Prop} (hI : mI k pc = some (.putfield j, 3, cv, tg)) (hr : rF (mC k) j = some (ci, f, h0)) (hb : (vmIs (wC L d e) o ci && (!(cT ci f).2.2.2 || (mInit k && Nat.beq ci (mC k)))) = true) (hty : cTy ci f = .long) (ho : Nat.blt o 42 = true) (h : ∀ d', d' = sG d o f x → vmWp k (pc + 3) lo st (wC L d' e) Q) : vmWp k pc lo (.long x :: .ref o :: st) (wC L d e) Q := by
  have h1 := h _ rfl
  have hv : wC L (sG d o f x) e = (S0 L, ((mrg d e).1, up2 (mrg d e).2.1 o f x, (mrg d e).2.2)) := by
    unfold wC sG mrg
    dsimp only
    rw [up_mrgC _ _ ho]
  rw [hv] at h1
  have hp : vmPut (wC L d e) ci o f (.long x) = some (S0 L, ((mrg d e).1, up2 (mrg d e).2.1 o f x, (mrg d e).2.2)) := by
    unfold vmPut
    rw [hty]
    exact rfl
  refine vmWp.one hI ?_ h1
  delta vmAct
  dsimp only
  rw [hr]
  dsimp only
  rw [hb]
  dsimp only [cond_true]
  rw [hp]
theorem st_ialdR {k pc tg o : Nat} {cv : Int32} {j : Int32} {L : Nat} {d e : vmD} {lo : vmL} {st : List Value} {Q : Option Value → vmW → Prop} (hI : mI k pc = some (.iaload, 1, cv, tg)) (hk : vmIs (wR L d e) o 20 = true) (hj : ixOk j (S0n L o)) (ho : Nat.blt o 42 = false) (h : ∀ y : Int32, y = gA d o j.toNatClampNeg → vmWp k (pc + 1) lo (.int y :: st) (wR L d e) Q) : vmWp k pc lo (.int j :: .ref o :: st) (wR L d e) Q := by
  have h1 := h _ rfl
  have hv : (wR L d e).2.2.2.1 o j.toNatClampNeg = gA d o j.toNatClampNeg := by
    show (bif Nat.blt o 42 then _ else _) = _
    rw [ho]
    rfl
  rw [← hv] at h1
  have hb : (vmIs (wR L d e) o 20 || (Nat.beq o 1000 && Nat.beq k 406)) = true := by rw [hk]; rfl
  refine vmWp.one hI ?_ h1
  show (bif (vmIs (wR L d e) o 20 || (Nat.beq o 1000 && Nat.beq k 406)) then (if ¬ (j < 0 ∨ S0n L o ≤ j.toNatClampNeg) then vmGo _ _ _ _ else vmNo) else vmNo) = _
  rw [hb]
  exact if_pos hj
theorem st_baldR {k pc tg o : Nat} {cv : Int32} {j : Int32} {L : Nat} {d e : vmD} {lo : vmL} {st : List Value} {Q : Option Value → vmW → Prop} (hI : mI k pc = some (.baload, 1, cv, tg)) (hk : vmIs (wR L d e) o 21 = true) (hj : ixOk j (S0n L o)) (ho : Nat.blt o 42 = false) (h : ∀ y : Int32, y = gA d o j.toNatClampNeg → vmWp k (pc + 1) lo (.int y :: st) (wR L d e) Q) : vmWp k pc lo (.int j :: .ref o :: st) (wR L d e) Q := by
  have h1 := h _ rfl
  have hv : (wR L d e).2.2.2.1 o j.toNatClampNeg = gA d o j.toNatClampNeg := by
    show (bif Nat.blt o 42 then _ else _) = _
    rw [ho]
    rfl
  rw [← hv] at h1
  have hb : (vmIs (wR L d e) o 21 || vmIs (wR L d e) o 22) = true := by rw [hk]; rfl
  refine vmWp.one hI ?_ h1
  show (bif (vmIs (wR L d e) o 21 || vmIs (wR L d e) o 22) then (if ¬ (j < 0 ∨ S0n L o ≤ j.toNatClampNeg) then vmGo _ _ _ _ else vmNo) else vmNo) = _
  rw [hb]
  exact if_pos hj
theorem st_zaldR {k pc tg o : Nat} {cv : Int32} {j : Int32} {L : Nat} {d e : vmD} {lo : vmL} {st : List Value} {Q : Option Value → vmW → Prop} (hI : mI k pc = some (.baload, 1, cv, tg)) (hk : vmIs (wR L d e) o 22 = true) (hj : ixOk j (S0n L o)) (ho : Nat.blt o 42 = false) (h : ∀ y : Int32, y = gA d o j.toNatClampNeg → vmWp k (pc + 1) lo (.int y :: st) (wR L d e) Q) : vmWp k pc lo (.int j :: .ref o :: st) (wR L d e) Q := by
  have h1 := h _ rfl
  have hv : (wR L d e).2.2.2.1 o j.toNatClampNeg = gA d o j.toNatClampNeg := by
    show (bif Nat.blt o 42 then _ else _) = _
    rw [ho]
    rfl
  rw [← hv] at h1
  have hb : (vmIs (wR L d e) o 21 || vmIs (wR L d e) o 22) = true := by rw [hk, Bool.or_true]
  refine vmWp.one hI ?_ h1
  show (bif (vmIs (wR L d e) o 21 || vmIs (wR L d e) o 22) then (if ¬ (j < 0 ∨ S0n L o ≤ j.toNatClampNeg) then vmGo _ _ _ _ else vmNo) else vmNo) = _
  rw [hb]
  exact if_pos hj
theorem st_laldR {k pc tg o : Nat} {cv : Int32} {j : Int32} {L : Nat} {d e : vmD} {lo : vmL} {st : List Value} {Q : Option Value → vmW → Prop} (hI : mI k pc = some (.laload, 1, cv, tg)) (hk : vmIs (wR L d e) o 23 = true) (hj : ixOk j (S0n L o)) (ho : Nat.blt o 42 = false) (h : ∀ y : Int64, y = gL d o j.toNatClampNeg → vmWp k (pc + 1) lo (.long y :: st) (wR L d e) Q) : vmWp k pc lo (.int j :: .ref o :: st) (wR L d e) Q := by
  have h1 := h _ rfl
  have hv : (wR L d e).2.2.2.2 o j.toNatClampNeg = gL d o j.toNatClampNeg := by
    show (bif Nat.blt o 42 then _ else _) = _
    rw [ho]
    rfl
  rw [← hv] at h1
  have hb : (vmIs (wR L d e) o 23) = true := hk
  refine vmWp.one hI ?_ h1
  show (bif (vmIs (wR L d e) o 23) then (if ¬ (j < 0 ∨ S0n L o ≤ j.toNatClampNeg) then vmGo _ _ _ _ else vmNo) else vmNo) = _
  rw [hb]
  exact if_pos hj
theorem st_iastR {k pc tg o : Nat} {cv : Int32} {j : Int32} {x : Int32} {L : Nat} {d e : vmD} {lo : vmL} {st : List Value} {Q : Option Value → vmW → Prop} (hI : mI k pc = some (.iastore, 1, cv, tg)) (hk : vmIs (wR L d e) o 20 = true) (hj : ixOk j (S0n L o)) (ho : Nat.blt o 42 = false) (h : ∀ d', d' = sA d o j.toNatClampNeg x → vmWp k (pc + 1) lo st (wR L d' e) Q) : vmWp k pc lo (.int x :: .int j :: .ref o :: st) (wR L d e) Q := by
  have h1 := h _ rfl
  have hv : wR L (sA d o j.toNatClampNeg x) e = (S0 L, ((mrg e d).1, (mrg e d).2.1, up2 (mrg e d).2.2.1 o j.toNatClampNeg x, (mrg e d).2.2.2)) := by
    unfold wR sA mrg
    dsimp only
    rw [up_mrgR _ _ ho]
  rw [hv] at h1
  refine vmWp.one hI ?_ h1
  show (bif vmIs (wR L d e) o 20 then (if ¬ (j < 0 ∨ S0n L o ≤ j.toNatClampNeg) then vmGo _ _ _ _ else vmNo) else vmNo) = _
  rw [hk]
  exact if_pos hj
theorem st_bastR {k pc tg o : Nat} {cv : Int32} {j : Int32} {x : Int32} {L : Nat} {d e : vmD} {lo : vmL} {st : List Value} {Q : Option Value → vmW → Prop} (hI : mI k pc = some (.bastore, 1, cv, tg)) (hk : vmIs (wR L d e) o 21 = true) (hj : ixOk j (S0n L o)) (ho : Nat.blt o 42 = false) (h : ∀ d', d' = sA d o j.toNatClampNeg (vp_nar .byte x) → vmWp k (pc + 1) lo st (wR L d' e) Q) : vmWp k pc lo (.int x :: .int j :: .ref o :: st) (wR L d e) Q := by
  have h1 := h _ rfl
  have hv : wR L (sA d o j.toNatClampNeg (vp_nar .byte x)) e = (S0 L, ((mrg e d).1, (mrg e d).2.1, up2 (mrg e d).2.2.1 o j.toNatClampNeg (vp_nar .byte x), (mrg e d).2.2.2)) := by
    unfold wR sA mrg
    dsimp only
    rw [up_mrgR _ _ ho]
  rw [hv] at h1
  refine vmWp.one hI ?_ h1
  show (bif vmIs (wR L d e) o 21 then (if ¬ (j < 0 ∨ S0n L o ≤ j.toNatClampNeg) then vmGo _ _ _ _ else vmNo) else _) = _
  rw [hk]
  exact if_pos hj
theorem st_zastR {k pc tg o : Nat} {cv : Int32} {j : Int32} {x : Int32} {L : Nat} {d e : vmD} {lo : vmL} {st : List Value} {Q : Option Value → vmW → Prop} (hI : mI k pc = some (.bastore, 1, cv, tg)) (hk : vmIs (wR L d e) o 22 = true) (h21 : vmIs (wR L d e) o 21 = false) (hj : ixOk j (S0n L o)) (ho : Nat.blt o 42 = false) (h : ∀ d', d' = sA d o j.toNatClampNeg (vp_nar .boolean x) → vmWp k (pc + 1) lo st (wR L d' e) Q) : vmWp k pc lo (.int x :: .int j :: .ref o :: st) (wR L d e) Q := by
  have h1 := h _ rfl
  have hv : wR L (sA d o j.toNatClampNeg (vp_nar .boolean x)) e = (S0 L, ((mrg e d).1, (mrg e d).2.1, up2 (mrg e d).2.2.1 o j.toNatClampNeg (vp_nar .boolean x), (mrg e d).2.2.2)) := by
    unfold wR sA mrg
    dsimp only
    rw [up_mrgR _ _ ho]
  rw [hv] at h1
  refine vmWp.one hI ?_ h1
  show (bif vmIs (wR L d e) o 21 then _ else bif vmIs (wR L d e) o 22 then (if ¬ (j < 0 ∨ S0n L o ≤ j.toNatClampNeg) then vmGo _ _ _ _ else vmNo) else vmNo) = _
  rw [h21, hk]
  exact if_pos hj
theorem st_lastR {k pc tg o : Nat} {cv : Int32} {j : Int32} {x : Int64} {L : Nat} {d e : vmD} {lo : vmL} {st : List Value} {Q : Option Value → vmW → Prop} (hI : mI k pc = some (.lastore, 1, cv, tg)) (hk : vmIs (wR L d e) o 23 = true) (hj : ixOk j (S0n L o)) (ho : Nat.blt o 42 = false) (h : ∀ d', d' = sL d o j.toNatClampNeg x → vmWp k (pc + 1) lo st (wR L d' e) Q) : vmWp k pc lo (.long x :: .int j :: .ref o :: st) (wR L d e) Q := by
  have h1 := h _ rfl
  have hv : wR L (sL d o j.toNatClampNeg x) e = (S0 L, ((mrg e d).1, (mrg e d).2.1, (mrg e d).2.2.1, up2 (mrg e d).2.2.2 o j.toNatClampNeg x)) := by
    unfold wR sL mrg
    dsimp only
    rw [up_mrgR _ _ ho]
  rw [hv] at h1
  refine vmWp.one hI ?_ h1
  show (bif vmIs (wR L d e) o 23 then (if ¬ (j < 0 ∨ S0n L o ≤ j.toNatClampNeg) then vmGo _ _ _ _ else vmNo) else vmNo) = _
  rw [hk]
  exact if_pos hj
theorem st_putIR {k pc tg o f ci h0 j : Nat} {cv : Int32} {x : Int32} {L : Nat} {d e : vmD} {lo : vmL} {st : List Value} {Q : Option Value → vmW → Prop} (hI : mI k pc = some (.putfield j, 3, cv, tg)) (hr : rF (mC k) j = some (ci, f, h0)) (hb : (vmIs (wR L d e) o ci && (!(cT ci f).2.2.2 || (mInit k && Nat.beq ci (mC k)))) = true) (hty : cTy ci f = .int) (ho : Nat.blt o 42 = false) (h : ∀ d', d' = sF d o f x → vmWp k (pc + 3) lo st (wR L d' e) Q) : vmWp k pc lo (.int x :: .ref o :: st) (wR L d e) Q := by
  have h1 := h _ rfl
  have hv : wR L (sF d o f x) e = (S0 L, (up2 (mrg e d).1 o f x, (mrg e d).2)) := by
    unfold wR sF mrg
    dsimp only
    rw [up_mrgR _ _ ho]
  rw [hv] at h1
  have hp : vmPut (wR L d e) ci o f (.int x) = some (S0 L, (up2 (mrg e d).1 o f x, (mrg e d).2)) := by
    unfold vmPut
    rw [hty]
    exact rfl
  refine vmWp.one hI ?_ h1
  delta vmAct
  dsimp only
  rw [hr]
  dsimp only
  rw [hb]
  dsimp only [cond_true]
  rw [hp]
theorem st_putZR {k pc tg o f ci h0 j : Nat} {cv : Int32} {x : Int32} {L : Nat} {d e : vmD} {lo : vmL} {st : List Value} {Q : Option Value → vmW → Prop} (hI : mI k pc = some (.putfield j, 3, cv, tg)) (hr : rF (mC k) j = some (ci, f, h0)) (hb : (vmIs (wR L d e) o ci && (!(cT ci f).2.2.2 || (mInit k && Nat.beq ci (mC k)))) = true) (hty : cTy ci f = .boolean) (hx : x = 0 ∨ x = 1) (ho : Nat.blt o 42 = false) (h : ∀ d', d' = sF d o f x → vmWp k (pc + 3) lo st (wR L d' e) Q) : vmWp k pc lo (.int x :: .ref o :: st) (wR L d e) Q := by
  have h1 := h _ rfl
  have hv : wR L (sF d o f x) e = (S0 L, (up2 (mrg e d).1 o f x, (mrg e d).2)) := by
    unfold wR sF mrg
    dsimp only
    rw [up_mrgR _ _ ho]
  rw [hv] at h1
  have hp : vmPut (wR L d e) ci o f (.int x) = some (S0 L, (up2 (mrg e d).1 o f x, (mrg e d).2)) := by
    unfold vmPut
    rw [hty]
    exact if_pos hx
  refine vmWp.one hI ?_ h1
  delta vmAct
  dsimp only
  rw [hr]
  dsimp only
  rw [hb]
  dsimp only [cond_true]
  rw [hp]
theorem st_putJR {k pc tg o f ci h0 j : Nat} {cv : Int32} {x : Int64} {L : Nat} {d e : vmD} {lo : vmL} {st : List Value} {Q : Option Value → vmW → Prop} (hI : mI k pc = some (.putfield j, 3, cv, tg)) (hr : rF (mC k) j = some (ci, f, h0)) (hb : (vmIs (wR L d e) o ci && (!(cT ci f).2.2.2 || (mInit k && Nat.beq ci (mC k)))) = true) (hty : cTy ci f = .long) (ho : Nat.blt o 42 = false) (h : ∀ d', d' = sG d o f x → vmWp k (pc + 3) lo st (wR L d' e) Q) : vmWp k pc lo (.long x :: .ref o :: st) (wR L d e) Q := by
  have h1 := h _ rfl
  have hv : wR L (sG d o f x) e = (S0 L, ((mrg e d).1, up2 (mrg e d).2.1 o f x, (mrg e d).2.2)) := by
    unfold wR sG mrg
    dsimp only
    rw [up_mrgR _ _ ho]
  rw [hv] at h1
  have hp : vmPut (wR L d e) ci o f (.long x) = some (S0 L, ((mrg e d).1, up2 (mrg e d).2.1 o f x, (mrg e d).2.2)) := by
    unfold vmPut
    rw [hty]
    exact rfl
  refine vmWp.one hI ?_ h1
  delta vmAct
  dsimp only
  rw [hr]
  dsimp only
  rw [hb]
  dsimp only [cond_true]
  rw [hp]
