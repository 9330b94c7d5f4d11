/-! Behind the constructors -/
theorem fillA_F {d : vmD} {o : Nat} {v : Int32} (n p f : Nat) : gF (fillA d o v n) p f = gF d p f := (fillA_fr n).1 p f (List.not_mem_nil)
theorem fillA_A {d : vmD} {o : Nat} {v : Int32} (n p : Nat) (h : ¬ p = o) : gA (fillA d o v n) p = gA d p := (fillA_fr n).2.1 p (fun q => h (List.mem_singleton.mp q))
theorem fillA_L {d : vmD} {o : Nat} {v : Int32} (n p : Nat) : gL (fillA d o v n) p = gL d p := (fillA_fr n).2.2.1 p (List.not_mem_nil)
theorem fillA_G {d : vmD} {o : Nat} {v : Int32} (n : Nat) : gG (fillA d o v n) = gG d := (fillA_fr n).2.2.2
theorem rsvF_fr : ∀ (s : List Int32) (id : Nat) (d : vmD), ModC [] [] [4] d (rsvF s id d)
  | [], _, _ => ModC.refl _ _ _ _
  | c :: t, id, d => by
    unfold rsvF
    split
    · exact rsvF_fr t _ d
    · split
      · exact rsvF_fr t _ d
      · exact ((ModC.refl _ _ _ d).sL (List.mem_singleton.mpr rfl) _ _).trans (rsvF_fr t _ _)
/-- the array of keys alone -/
def rvA : List Int32 → Nat → (Nat → Int64) → Nat → Int64
  | [], _, a => a
  | c :: t, id, a => if c = 32 then rvA t (id + 1) a else if c = 45 then rvA t id a else rvA t id (fun i => if i = id then lgr (a id) c else a i)
theorem rsvF_A : ∀ (s : List Int32) (id : Nat) (d : vmD), gL (rsvF s id d) 4 = rvA s id (gL d 4)
  | [], _, _ => rfl
  | c :: t, id, d => by
    unfold rsvF rvA
    split
    · exact rsvF_A t _ d
    · split
      · exact rsvF_A t _ d
      · rw [rsvF_A t]
        congr 1
        funext i
        show up2 d.2.2.2 4 id _ 4 i = _
        unfold up2
        by_cases z : i = id
        · rw [if_pos ⟨rfl, z⟩, if_pos z]
        · rw [if_neg (fun q => z q.2), if_neg z]
          rfl
set_option maxRecDepth 100000 in
theorem rvA_tab : (List.range 107).all (fun i => decide (rvA (sB 5) 99 (rvA (sB 4) 83 (rvA (sB 3) 67 (rvA (sB 2) 48 (rvA (sB 1) 32 (rvA (sB 0) 1 (fun _ => 0)))))) i = tabN i)) = true := by decide +kernel
theorem mrg_self (d : vmD) : mrg d d = d := by
  unfold mrg
  have e : ∀ {α : Type} (f : Nat → Nat → α), (fun o k => bif Nat.blt o 42 then f o k else f o k) = f := by
    intro α f
    funext o k
    cases Nat.blt o 42 <;> rfl
  rw [e, e, e, e]
