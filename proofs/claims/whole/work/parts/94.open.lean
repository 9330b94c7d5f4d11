/-! THE CLAIM OUT OF ONE WALK OF THE LAW'S BODY. Your part is whole_start (and what it stands on); all else here is the same for every law, but numbers. -/
def R_law : String := "OpcodeForgeLaw"
def lw_P (b : Addr) (xs : List Int32) (args : Array Value) (s : State) : Prop := args = #[.ref b] ∧ s.IntsAt b xs ∧ xs.length ≤ 256 ∧ (Jvm.Cond.and given_1 narrow_1).before args s = true
def lw_Q (_ : Array Value) (s : State) (o : Outcome) (t : State) : Prop := o = .returned (some (.int 1)) ∧ Framed s o t [] 600000 7302250
def lw_Z (below : List Frame) (a : Array Value) (s : State) : State → Prop := fun t => ∃ o, t.status = .running ∧ Ended t below o ∧ lw_Q a s o t
/-- the law's own end, with 1 on the stack, nothing written that was there before, its room as the claim has it -/
theorem lw_ret {p : Program} {l : Launch} {e : Env} {s : State} {m : MethodId} {below : List Frame} {meth : Method} {c : Code} {b : Nat} (hx : p.tables.exec = Jvm.exec) (hb : c.code = code) (hr : meth.sig.returnType = ret) (hlocks : meth.locks = false) {pc : Nat} {H : Heap} {ls : Array Slot} (hdg : decode code pc = .ok (.ireturn, 1)) : W p l e room_1 s m #[Value.ref b] below meth c H [] 600000 7302250 (lw_Z below #[Value.ref b] s) (F0 m pc ls [.int 1]) := by
  intro T hT X
  obtain ⟨fs, hret, hrun, hended, hW, hframe⟩ := X.leave (v := some (.int 1)) (hlocks := hlocks) (fun h => by rw [hr] at h; cases h)
  have hmeth' : T.vm.method? m = some meth := X.method'
  refine ⟨T.setFrames fs, ?_, .returned (some (.int 1)), hrun, hended, rfl, ⟨_, rfl⟩, hW, hframe⟩
  jvm_step X.here [X.here.top, hx, hb, hdg, hmeth', hr, ret, narrow_b1]
  (try refine ⟨rfl, ?_⟩); (try refine ⟨rfl, ?_⟩)
  first | (intro acts; rw [hret _ acts rfl rfl rfl]) | rw [hret _ _ rfl rfl rfl]
  exact Steps.refl _
/-- what holds at the law's entry: the machine, the code, the tables' words (any of lw_tbl by 'hts w (by decide +kernel)'), the script of L ints xs at the cell b, what the Statement gives of the start (any of its parts by flat_of_before) -/
def lw_At (p : Program) (s : State) (m : MethodId) (meth : Method) (c : Code) (b L : Nat) (xs : Nat → Int32) : Prop :=
  p.tables.exec = Jvm.exec ∧ c.code = code ∧ meth.sig.returnType = ret ∧ c.maxLocals = 4 ∧ s.vm.findClass R_law = some m.cls ∧ (∀ w ∈ lw_tbl, w.before #[Value.ref b] s = true) ∧ va_X b L xs s s.heap ∧ b < s.heap.size ∧ meth.locks = false ∧ (Jvm.Cond.and given_1 narrow_1).before #[Value.ref b] s = true
/-- the walk of the law's body, out of a run of our machine -/
theorem whole_open (hrun : LawRuns) {p : Program} {e : Env} {s : State} {m : MethodId} {below : List Frame} {meth : Method} {c : Code} (l : Launch) {b L : Nat} {xs : Nat → Int32} (hL : L ≤ 256) (C0 : lw_At p s m meth c b L xs) : W p l e room_1 s m #[Value.ref b] below meth c s.heap [] 0 0 (lw_Z below #[Value.ref b] s) (entryFrame m ([Value.ref b] : List Value).toArray 4) := by
  obtain ⟨hx, hb, hr, hml, hown, hts, hX, hbl, hlk, hgv⟩ := C0
  obtain ⟨rx, hrx, hSt⟩ := st_start hts hgv (A := fun q => s.heap.size ≤ q) (fun a h h2 => by omega) b
  obtain ⟨D, kA, hK⟩ := st_classes dataOk hts
  obtain ⟨n, rv, wf, h1, rfl, h2, h3⟩ := hrun L xs hL
  have hl := lv_entry ([.ref b]) (n := 4) (Nat.le_of_ble_eq_true rfl)
  rw [lg_entry_eq]
  generalize (lg_sl ([.ref b]) ++ List.replicate (4 - (lg_sl ([.ref b])).length) Slot.unset).toArray = ls at hl ⊢
  have hl : lv_has ls 4 [(0, .ref b)] := hl
  have hCx : Cx p s m #[Value.ref b] meth c room_1 D kA rx (fun q => s.heap.size ≤ q) 406 :=
    ⟨⟨hx, hb, hml, hown, fun w hw => hts w (TB_tbl hw)⟩, fun a j y h hm => va_Nw.of rfl (hts _ hm), fun h => (by have h0 : mInit 406 = false := rfl
                                                                                                                 rw [h0] at h
                                                                                                                 cases h), hK, ⟨Nat.le_of_ble_eq_true rfl, Nat.le_of_ble_eq_true rfl⟩, hSt, fun q h => h⟩
  have hxs : (fun j => if (1000 : Nat) = 1000 then xs j else 0) = xs := by
    funext j
    rw [if_pos rfl]
  refine body_all dataOk l (strAll l) n p e room_1 s m #[Value.ref b] below meth c (fun q => s.heap.size ≤ q) D kA rx (lw_Z below #[Value.ref b] s) wf.1.1 wf.1.2.2.2.2 406 (w0 L xs) rx (some (.int 1)) wf hCx h2 h3 ?_ 0 [(0, .ref 1000)] [] (w0 L xs) ls rx s.heap [] 0 0 h1 ⟨?_, ?_, va_S.rf, fun _ _ => rfl⟩ ?_ ?_ ?_ ?_ ?_ (fun _ _ => rfl) (Nat.le_refl _)
  · intro pc len tg cv i lo st ls H locs rd hi hA2 hH hrd
    obtain ⟨hd, hok⟩ := ckD_of dataOk hi
    obtain ⟨hP2, hD2, hS2, hrx2⟩ := hH
    rcases act_ret hA2 with ⟨-, -, h, -⟩ | ⟨-, -, x, -, h⟩ | ⟨rfl, x, rfl, h, -⟩
    · cases h
    · cases h
    · cases h
      obtain rfl : len = 1 := Nat.eq_of_beq_eq_true hok
      exact va_forget (fun q hq => hS2.2.2 q hq) (W.widen h2 h3 (lw_ret hx hb hr hlk hd))
  · intro k q h
    cases h
  · exact ⟨fun i j p q h => (by cases h), fun k q h => (by cases h)⟩
  · intro _
    rw [hrx]
    refine ⟨?_, hbl, fun h => by omega⟩
    show va_X b L (fun j => if (1000 : Nat) = 1000 then xs j else 0) s s.heap
    rw [hxs]
    exact hX
  · refine ⟨Nat.zero_le _, fun o f i h => (by have h : 0 = i + 1 := h; cases h), fun q hq => ?_, fun v hv => (by cases hv)⟩
    rw [List.mem_singleton.mp hq]
    exact fun i hi => (by cases hi; exact Or.inr (by decide))
  · show lv_has ls 4 [(0, .ref (rx 1000))]
    rw [hrx]
    exact hl
  · show 0 + wf.1.1 = wf.1.1 + 0
    omega
  · show 0 + wf.1.2.2.2.2 = wf.1.2.2.2.2 + 0
    omega
