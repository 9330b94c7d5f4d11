/-! The law runs to its end with 1, in our machine -/
theorem ok_all : OkAll Rel := ⟨ok_feed, ok_forge, ok_told, ok_label, ok_labelSign, ok_write, ok_sign, ok_source, ok_sourceAt, ok_octet, ok_put, ok_register, ok_set, ok_port, ok_out, ok_request, ok_step, ok_run, ok_outs, ok_clear⟩
/-- what there is at the law's entry: the script under the number 1000 -/
def d00 (xs : Nat → Int32) : vmD := (fun _ _ => 0, fun _ _ => 0, fun o j => if o = 1000 then xs j else 0, fun _ _ => 0)
/-- the world at the law's entry: no object yet -/
def w0 (L : Nat) (xs : Nat → Int32) : vmW := wK 0 [] 0 L (d00 xs)
def LawRuns : Prop := ∀ (L : Nat) (xs : Nat → Int32), L ≤ 256 → vmWp 406 0 [(0, .ref 1000)] [] (w0 L xs) (fun rv w' => rv = some (.int 1) ∧ w'.1.1 ≤ 600000 ∧ w'.1.2.2.2.2 ≤ 7302250)
theorem d00_iv (xs : Nat → Int32) : Iv0 (d00 xs) := by
  refine ⟨fun _ _ => Or.inr rfl, fun _ _ => rfl, fun o j => ?_⟩
  by_cases z : o = 1000
  · exact Or.inl (Or.inl (by rw [z]; exact List.mem_cons_self))
  · exact Or.inr (show (if o = 1000 then xs j else 0) = 0 from if_neg z)
theorem d00_zs (xs : Nat → Int32) : Zs 0 (d00 xs) := by
  refine fun o _ h => ⟨rfl, rfl, ?_, rfl⟩
  funext j
  exact if_neg (show ¬ o = 1000 by omega)
theorem lawRuns : LawRuns := by
  intro L xs hL
  refine ctorW rsvW shpW (d00_zs xs) (fun d hd => ?_)
  show vmWp 406 18 [(3, .int 0), (2, .ref 42), (1, .ref 0), (0, .ref 1000)] [] (wK 70 endL 255720 L d) _
  rw [wK_end]
  refine vmWp.sub (lo' := [(0, .ref 1000), (1, .ref 0), (2, .ref 42), (3, .int (nI 0))]) ⟨rfl, rfl, rfl, rfl, trivial⟩ ?_
  obtain ⟨n, hn⟩ := law_loop ok_all hL (Q := fun x _ _ => x = 1) (fun _ _ _ => rfl) L 0 d d (by omega) (by omega) (ctd_rel (d00_iv xs) rfl hd)
  exact tLAW_18 (Q := fun x _ _ => x = 1) (fun x c r hx => ⟨by rw [hx], show 70 ≤ 600000 by decide, show 255720 ≤ 7302250 by decide⟩) n _ d d hn
