/-! The decompiled program, 2: a run needs no more locals than it reads -/
def actSub (r' r : vmR) : Prop := (∀ pc2 lo2 w2 st2, r' = vmGo pc2 lo2 w2 st2 → ndl lo2 ∧ ∃ lo3, r = vmGo pc2 lo3 w2 st2 ∧ vmSub lo2 lo3) ∧ (∀ x, r' = .inl x → r = .inl x) ∧ ∀ x, r' = .inr (.inl x) → r = .inr (.inl x)
theorem as_go {pc : Nat} {lo' lo : vmL} {w : vmW} {st : List Value} (hn : ndl lo') (h : vmSub lo' lo) : actSub (vmGo pc lo' w st) (vmGo pc lo w st) := by
  refine ⟨fun pc2 lo2 w2 st2 e => ?_, fun x e => (vmGo_ret e).elim, fun x e => (vmGo_call e).elim⟩
  obtain ⟨rfl, rfl, rfl, rfl⟩ := vmGo_inj e
  exact ⟨hn, lo, rfl, h⟩
theorem as_no {r : vmR} : actSub vmNo r := ⟨fun _ _ _ _ e => (vmNo_go e).elim, fun _ e => (vmNo_ret e).elim, fun _ e => (vmNo_call e).elim⟩
theorem as_ret {x : Option Value} : actSub (.inl x) (.inl x) := ⟨fun _ _ _ _ e => (vmGo_ret e.symm).elim, fun _ e => e, fun _ e => by cases e⟩
theorem as_bif {b : Bool} {x' x y' y : vmR} (h1 : actSub x' x) (h2 : actSub y' y) : actSub (bif b then x' else y') (bif b then x else y) := by cases b; exact h2; exact h1
theorem as_ite {P : Prop} [Decidable P] {x' x y' y : vmR} (h1 : actSub x' x) (h2 : actSub y' y) : actSub (if P then x' else y') (if P then x else y) := by
  split
  · exact h1
  · exact h2
theorem as_call {w : vmW} {k' : Nat} {inst : Bool} {st : List Value} : actSub (vmCall w k' inst st) (vmCall w k' inst st) := ⟨fun _ _ _ _ e => (vmCall_go e).elim, fun _ e => e, fun _ e => e⟩
theorem as_invoke {pc : Nat} {lo' lo : vmL} {w : vmW} {r : Option (Nat × Nat × List Nat)} {st : List Value} (hn : ndl lo') (h : vmSub lo' lo) : actSub (vmInvoke pc lo' w r st) (vmInvoke pc lo w r st) := by
  unfold vmInvoke
  repeat' (first | exact as_go hn h | exact as_no | exact as_call | apply as_bif | apply as_ite | split)
set_option maxRecDepth 100000 in
set_option maxHeartbeats 8000000 in
theorem act_sub {k pc len tg : Nat} {cv : Int32} {i : Instr} {lo' lo : vmL} {st : List Value} {w : vmW} (hn : ndl lo') (h : vmSub lo' lo) : actSub (vmAct k i len cv tg pc lo' st w) (vmAct k i len cv tg pc lo st w) := by
  have hst1 : ∀ (n : Nat) (v : Value) {pc : Nat} {st : List Value}, actSub (vmGo pc (vmSet1 lo' n v) w st) (vmGo pc (vmSet1 lo n v) w st) := fun n v {pc st} => as_go (ndl_store (fun a b => !(a == n) && !(a + 1 == n && b == 2)) hn n v (fun c => by simp)) (sub_store (fun a b => !(a == n) && !(a + 1 == n && b == 2)) hn h n v)
  have hst2 : ∀ (n : Nat) (v : Value) {pc : Nat} {st : List Value}, actSub (vmGo pc (vmSet2 lo' n v) w st) (vmGo pc (vmSet2 lo n v) w st) := fun n v {pc st} => as_go (ndl_store (fun a b => !(a == n) && (!(a == n + 1) && !(a + 1 == n && b == 2))) hn n v (fun c => by simp)) (sub_store (fun a b => !(a == n) && (!(a == n + 1) && !(a + 1 == n && b == 2))) hn h n v)
  cases i
  case invokevirtual j => exact as_invoke hn h
  case invokespecial j => exact as_invoke hn h
  case invokestatic j => exact as_invoke hn h
  case iload n =>
    delta vmAct; dsimp only; split
    · rename_i x hx; rw [h _ _ hx]; exact as_go hn h
    · exact as_no
  case iload_n n =>
    delta vmAct; dsimp only; split
    · rename_i x hx; rw [h _ _ hx]; exact as_go hn h
    · exact as_no
  case lload n =>
    delta vmAct; dsimp only; split
    · rename_i x hx; rw [h _ _ hx]; exact as_go hn h
    · exact as_no
  case lload_n n =>
    delta vmAct; dsimp only; split
    · rename_i x hx; rw [h _ _ hx]; exact as_go hn h
    · exact as_no
  case aload n =>
    delta vmAct; dsimp only; split
    · rename_i x hx; rw [h _ _ hx]; exact as_go hn h
    · exact as_no
  case aload_n n =>
    delta vmAct; dsimp only; split
    · rename_i x hx; rw [h _ _ hx]; exact as_go hn h
    · exact as_no
  case iinc n v =>
    delta vmAct; dsimp only; split
    · rename_i x hx; rw [h _ _ hx]; exact as_bif (hst1 _ _) as_no
    · exact as_no
  all_goals first
    | exact as_no
    | (delta vmAct
       try dsimp only
       repeat' (first | exact as_go hn h | exact hst1 _ _ | exact hst2 _ _ | exact as_no | exact as_ret | apply as_bif | apply as_ite | split))
theorem vmRun_sub : ∀ (n : Nat) {k pc : Nat} {lo' lo : vmL} {st : List Value} {w : vmW} {r : Option Value × vmW}, ndl lo' → vmSub lo' lo → vmRun n k pc lo' st w = some r → vmRun n k pc lo st w = some r := by
  intro n
  induction n with
  | zero => intro k pc lo' lo st w r _ _ h; simp [vmRun] at h
  | succ n ih =>
    intro k pc lo' lo st w r hn hs h
    unfold vmRun at h ⊢
    cases hi : mI k pc with
    | none => rw [hi] at h; cases h
    | some q =>
      obtain ⟨i, len, cv, tg⟩ := q
      rw [hi] at h
      dsimp only at h ⊢
      obtain ⟨h1, h2, h3⟩ := act_sub (k := k) (pc := pc) (len := len) (tg := tg) (cv := cv) (i := i) (st := st) (w := w) hn hs
      cases hA : vmAct k i len cv tg pc lo' st w with
      | inl v =>
        rw [hA] at h
        rw [h2 _ hA]
        exact h
      | inr z =>
        rw [hA] at h
        cases z with
        | inl c =>
          rw [h3 _ hA]
          obtain ⟨k2, as, rest⟩ := c
          dsimp only at h ⊢
          cases hC : vmRun n k2 0 (lv_args 0 as) [] w with
          | none => rw [hC] at h; cases h
          | some y =>
            rw [hC] at h
            exact ih hn hs h
        | inr c =>
          cases c with
          | none => cases h
          | some y =>
            obtain ⟨pc2, lo2, st2, w2⟩ := y
            obtain ⟨g1, lo3, g2, g3⟩ := h1 pc2 lo2 w2 st2 hA
            rw [g2]
            exact ih g1 g3 h
def ndlB : vmL → Bool
  | [] => true
  | q :: l => l.all (fun p => !(Nat.beq p.1 q.1)) && ndlB l
theorem ndlB_ok : ∀ {lo : vmL}, ndlB lo = true → ndl lo
  | [], _ => List.nodup_nil
  | q :: l, h => by
    unfold ndlB at h
    obtain ⟨h1, h2⟩ := Bool.and_eq_true_iff.mp h
    show ((q :: l).map (fun q => q.1)).Nodup
    rw [List.map_cons, List.nodup_cons]
    refine ⟨fun hm => ?_, ndlB_ok h2⟩
    obtain ⟨p, hp, he⟩ := List.mem_map.mp hm
    have h3 := List.all_eq_true.mp h1 p hp
    rw [he, show Nat.beq q.1 q.1 = true from Nat.beq_refl _] at h3
    cases h3
theorem vmWp.sub {k pc : Nat} {lo' lo : vmL} {st : List Value} {w : vmW} {Q : Option Value → vmW → Prop} (hs : vmSubL lo' lo) (h : vmWp k pc lo' st w Q) (hn : ndlB lo' = true := by rfl) : vmWp k pc lo st w Q := by
  obtain ⟨n, rv, w2, h1, h2⟩ := h
  exact ⟨n, rv, w2, vmRun_sub n (ndlB_ok hn) (vmSubL_all hs) h1, h2⟩
/-! rows for walking a method -/
theorem st_go (n : Nat) {k pc : Nat} {lo : vmL} {st : List Value} {w : vmW} {Q : Option Value → vmW → Prop} {pc' : Nat} {lo' : vmL} {st' : List Value} (hA : vmSteps n k pc lo st w = some (pc', lo', st', w)) (h : vmWp k pc' lo' st' w Q) : vmWp k pc lo st w Q := vmWp.go n hA h
theorem st_if {k pc t len tg : Nat} {cv : Int32} {c : Jvm.ClassFile.Cond} {off : Int} {b : Bool} {x : Int32} {lo : vmL} {st : List Value} {w : vmW} {Q : Option Value → vmW → Prop} (hI : mI k pc = some (.ifCond c off, len, cv, tg)) (hb : vmCmp0 c x = b) (ht : (bif b then tg else pc + len) = t) (h : vmWp k t lo st w Q) : vmWp k pc lo (.int x :: st) w Q := by
  subst hb; subst ht
  exact vmWp.one hI rfl h
theorem st_icmp {k pc t len tg : Nat} {cv : Int32} {c : Jvm.ClassFile.Cond} {off : Int} {b : Bool} {x y : Int32} {lo : vmL} {st : List Value} {w : vmW} {Q : Option Value → vmW → Prop} (hI : mI k pc = some (.if_icmp c off, len, cv, tg)) (hb : vmCmp c x y = b) (ht : (bif b then tg else pc + len) = t) (h : vmWp k t lo st w Q) : vmWp k pc lo (.int y :: .int x :: st) w Q := by
  subst hb; subst ht
  exact vmWp.one hI rfl h
theorem st_tab {k pc t len tg : Nat} {cv : Int32} {d a b : Int} {offs : Array Int} {x : Int32} {lo : vmL} {st : List Value} {w : vmW} {Q : Option Value → vmW → Prop} (hI : mI k pc = some (.tableswitch d a b offs, len, cv, tg)) (ht : vmTab pc d a b offs x = t) (h : vmWp k t lo st w Q) : vmWp k pc lo (.int x :: st) w Q := by
  subst ht
  exact vmWp.one hI rfl h
theorem st_look {k pc t len tg : Nat} {cv : Int32} {d : Int} {ps : Array (Int × Int)} {x : Int32} {lo : vmL} {st : List Value} {w : vmW} {Q : Option Value → vmW → Prop} (hI : mI k pc = some (.lookupswitch d ps, len, cv, tg)) (ht : vmLook pc d ps.toList x = t) (h : vmWp k t lo st w Q) : vmWp k pc lo (.int x :: st) w Q := by
  subst ht
  exact vmWp.one hI rfl h
theorem tab_def {pc t : Nat} {d a b : Int} {offs : Array Int} {x : Int32} (hsz : (offs.size : Int) = b - a + 1) (h32 : -2147483648 ≤ a ∧ b < 2147483648) (hd : ((pc : Int) + d).toNat = t) (h : ∀ j : Nat, j < offs.size → x = Int32.ofInt (a + j) → ((pc : Int) + offs.getD j 0).toNat = t) : vmTab pc d a b offs x = t := by
  unfold vmTab
  split
  · exact hd
  · rename_i hr
    refine h (x.toInt - a).toNat (by omega) ?_
    apply Int32.toInt_inj.mp
    rw [Int32.toInt_ofInt]
    have e : a + ((x.toInt - a).toNat : Int) = x.toInt := by omega
    rw [e]
    have h1 := Int32.le_toInt x
    have h2 := Int32.toInt_lt x
    rw [show Int32.size = 4294967296 from rfl, Int.bmod_eq_of_le (by omega) (by omega)]
theorem look_def {pc t : Nat} {d : Int} {x : Int32} : ∀ {ps : List (Int × Int)}, (∀ q ∈ ps, q.1 = x.toInt → ((pc : Int) + q.2).toNat = t) → ((pc : Int) + d).toNat = t → vmLook pc d ps x = t := by
  intro ps hq hd
  unfold vmLook
  induction ps with
  | nil => exact hd
  | cons q l ih =>
    show ((pc : Int) + (if q.1 = x.toInt then q.2 else Op.lookupswitch.offset l d x.toInt)).toNat = t
    split
    · rename_i e; exact hq q List.mem_cons_self e
    · exact ih (fun o ho => hq o (List.mem_cons_of_mem _ ho))
theorem st_locI {k pc i : Nat} {x : Int32} {lo : vmL} {st : List Value} {w : vmW} {Q : Option Value → vmW → Prop} (h : ∀ y, y = x → vmWp k pc ((i, .int y) :: lo) st w Q) : vmWp k pc ((i, .int x) :: lo) st w Q := h x rfl
theorem st_locJ {k pc i : Nat} {x : Int64} {lo : vmL} {st : List Value} {w : vmW} {Q : Option Value → vmW → Prop} (h : ∀ y, y = x → vmWp k pc ((i, .long y) :: lo) st w Q) : vmWp k pc ((i, .long x) :: lo) st w Q := h x rfl
theorem st_idiv {k pc tg : Nat} {cv : Int32} {x y : Int32} {lo : vmL} {st : List Value} {w : vmW} {Q : Option Value → vmW → Prop} (hI : mI k pc = some (.idiv, 1, cv, tg)) (hy : ¬ y = 0) (h : vmWp k (pc + 1) lo (.int (x / y) :: st) w Q) : vmWp k pc lo (.int y :: .int x :: st) w Q := vmWp.one hI (if_neg hy) h
theorem st_irem {k pc tg : Nat} {cv : Int32} {x y : Int32} {lo : vmL} {st : List Value} {w : vmW} {Q : Option Value → vmW → Prop} (hI : mI k pc = some (.irem, 1, cv, tg)) (hy : ¬ y = 0) (h : vmWp k (pc + 1) lo (.int (x - x / y * y) :: st) w Q) : vmWp k pc lo (.int y :: .int x :: st) w Q := vmWp.one hI (if_neg hy) h
theorem st_ldiv {k pc tg : Nat} {cv : Int32} {x y : Int64} {lo : vmL} {st : List Value} {w : vmW} {Q : Option Value → vmW → Prop} (hI : mI k pc = some (.ldiv, 1, cv, tg)) (hy : ¬ y = 0) (h : vmWp k (pc + 1) lo (.long (x / y) :: st) w Q) : vmWp k pc lo (.long y :: .long x :: st) w Q := vmWp.one hI (if_neg hy) h
theorem st_lrem {k pc tg : Nat} {cv : Int32} {x y : Int64} {lo : vmL} {st : List Value} {w : vmW} {Q : Option Value → vmW → Prop} (hI : mI k pc = some (.lrem, 1, cv, tg)) (hy : ¬ y = 0) (h : vmWp k (pc + 1) lo (.long (x - x / y * y) :: st) w Q) : vmWp k pc lo (.long y :: .long x :: st) w Q := vmWp.one hI (if_neg hy) h
theorem st_retI {k pc tg : Nat} {cv : Int32} {x : Int32} {lo : vmL} {w : vmW} {Q : Option Value → vmW → Prop} (hI : mI k pc = some (.ireturn, 1, cv, tg)) (hm : mR k = some .int) (h : Q (some (.int x)) w) : vmWp k pc lo [.int x] w Q := vmWp.ret hI (show (match [Value.int x], mR k with | [.int x], some .int => (.inl (some (.int x)) : vmR) | [.int x], some .boolean => if x = 0 ∨ x = 1 then .inl (some (.int x)) else vmNo | _, _ => vmNo) = _ by rw [hm]) h
theorem st_retZ {k pc tg : Nat} {cv : Int32} {x : Int32} {lo : vmL} {w : vmW} {Q : Option Value → vmW → Prop} (hI : mI k pc = some (.ireturn, 1, cv, tg)) (hm : mR k = some .boolean) (hx : x = 0 ∨ x = 1) (h : Q (some (.int x)) w) : vmWp k pc lo [.int x] w Q := vmWp.ret hI (show (match [Value.int x], mR k with | [.int x], some .int => (.inl (some (.int x)) : vmR) | [.int x], some .boolean => if x = 0 ∨ x = 1 then .inl (some (.int x)) else vmNo | _, _ => vmNo) = _ by rw [hm]; exact if_pos hx) h
theorem st_retJ {k pc tg : Nat} {cv : Int32} {x : Int64} {lo : vmL} {w : vmW} {Q : Option Value → vmW → Prop} (hI : mI k pc = some (.lreturn, 1, cv, tg)) (hm : mR k = some .long) (h : Q (some (.long x)) w) : vmWp k pc lo [.long x] w Q := vmWp.ret hI (show (match [Value.long x], mR k with | [.long x], some .long => (.inl (some (.long x)) : vmR) | _, _ => vmNo) = _ by rw [hm]) h
theorem st_retV {k pc tg : Nat} {cv : Int32} {lo : vmL} {w : vmW} {Q : Option Value → vmW → Prop} (hI : mI k pc = some (.return_, 1, cv, tg)) (hm : mR k = none) (h : Q none w) : vmWp k pc lo [] w Q := vmWp.ret hI (show (match ([] : List Value), mR k with | [], none => (.inl none : vmR) | _, _ => vmNo) = _ by rw [hm]) h
theorem st_calli {k pc tg k' : Nat} {cv : Int32} {i : Instr} {as rest : List Value} {lo lo' : vmL} {st : List Value} {w : vmW} {Q : Option Value → vmW → Prop} {wf : vmD → vmW} (hI : mI k pc = some (i, 3, cv, tg)) (hA : vmAct k i 3 cv tg pc lo st w = .inr (.inl (k', as, rest))) (hl : lv_args 0 as = lo') (h : vmWp k' 0 lo' [] w (fun rv w' => ∃ (r : Int32) (d' : vmD), rv = some (.int r) ∧ w' = wf d' ∧ vmWp k (pc + 3) lo (.int r :: rest) (wf d') Q)) : vmWp k pc lo st w Q := by
  subst hl
  refine vmWp.call hI hA (h.mono ?_)
  rintro rv w' ⟨r, d', rfl, rfl, hq⟩
  exact hq
theorem st_calll {k pc tg k' : Nat} {cv : Int32} {i : Instr} {as rest : List Value} {lo lo' : vmL} {st : List Value} {w : vmW} {Q : Option Value → vmW → Prop} {wf : vmD → vmW} (hI : mI k pc = some (i, 3, cv, tg)) (hA : vmAct k i 3 cv tg pc lo st w = .inr (.inl (k', as, rest))) (hl : lv_args 0 as = lo') (h : vmWp k' 0 lo' [] w (fun rv w' => ∃ (r : Int64) (d' : vmD), rv = some (.long r) ∧ w' = wf d' ∧ vmWp k (pc + 3) lo (.long r :: rest) (wf d') Q)) : vmWp k pc lo st w Q := by
  subst hl
  refine vmWp.call hI hA (h.mono ?_)
  rintro rv w' ⟨r, d', rfl, rfl, hq⟩
  exact hq
theorem st_callv {k pc tg k' : Nat} {cv : Int32} {i : Instr} {as rest : List Value} {lo lo' : vmL} {st : List Value} {w : vmW} {Q : Option Value → vmW → Prop} {wf : vmD → vmW} (hI : mI k pc = some (i, 3, cv, tg)) (hA : vmAct k i 3 cv tg pc lo st w = .inr (.inl (k', as, rest))) (hl : lv_args 0 as = lo') (h : vmWp k' 0 lo' [] w (fun rv w' => ∃ (d' : vmD), rv = none ∧ w' = wf d' ∧ vmWp k (pc + 3) lo rest (wf d') Q)) : vmWp k pc lo st w Q := by
  subst hl
  refine vmWp.call hI hA (h.mono ?_)
  rintro rv w' ⟨d', rfl, rfl, hq⟩
  exact hq
theorem st_chr {k pc tg j v : Nat} {cv : Int32} {x : Int32} {lo : vmL} {st : List Value} {w : vmW} {Q : Option Value → vmW → Prop} (hI : mI k pc = some (.invokevirtual j, 3, cv, tg)) (hA : vmAct k (.invokevirtual j) 3 cv tg pc lo (.int x :: .ref (vmBase + v) :: st) w = (if ¬ (x < 0 ∨ (sB v).length ≤ x.toNatClampNeg) then vmGo (pc + 3) lo w (.int ((sB v).getD x.toNatClampNeg 0) :: st) else vmNo)) (hx : ixOk x (sB v).length) (h : vmWp k (pc + 3) lo (.int ((sB v).getD x.toNatClampNeg 0) :: st) w Q) : vmWp k pc lo (.int x :: .ref (vmBase + v) :: st) w Q := vmWp.one hI (hA.trans (if_pos hx)) h
