/-! what the class's closed runs say; how much they make -/
noncomputable def okV (N : Nat) (_ : Unit) (h : PH) : Bool := cmpH (CL N) h && ((match nth h (lF N 15) with
  | none => false
  | some c => Nat.beq c.1 21 && (Nat.beq c.2.1 8 && allN 8 (fun n => Nat.beq (dg c.2.2 n) 1))) && Nat.ble (h.length + sl h) 4200)
/-- the cells of the first heap are the second's, digit by digit -/
noncomputable def eqH (e : PH) : PH → Bool := @List.rec PC (fun _ => PH → Bool) (fun _ => true) (fun c _ ih h => @List.casesOn PC (fun _ => Bool) h false (fun d t => bif Nat.beq c.1 d.1 && (Nat.beq c.2.1 d.2.1 && Nat.beq c.2.2 d.2.2) then ih t else false)) e
theorem eqH_at {e h : PH} (q : eqH e h = true) : ∀ a, a < e.length → nth h a = nth e a := by
  induction e generalizing h with
  | nil => intro a ea; exact absurd ea (Nat.not_lt_zero _)
  | cons c e ih =>
    cases h with
    | nil => cases q
    | cons d g =>
      have q' : (bif Nat.beq c.1 d.1 && (Nat.beq c.2.1 d.2.1 && Nat.beq c.2.2 d.2.2) then eqH e g else false) = true := q
      cases hb : (Nat.beq c.1 d.1 && (Nat.beq c.2.1 d.2.1 && Nat.beq c.2.2 d.2.2)) with
      | false => rw [hb] at q'; cases q'
      | true =>
        rw [hb] at q'
        intro a ea
        cases a with
        | succ a => exact ih q' a (Nat.lt_of_succ_lt_succ ea)
        | zero =>
          simp only [Bool.and_eq_true] at hb
          have h1 := Nat.eq_of_beq_eq_true hb.1
          have h2 := Nat.eq_of_beq_eq_true hb.2.1
          have h3 := Nat.eq_of_beq_eq_true hb.2.2
          show some d = some c
          rw [show c = d from Prod.ext h1 (Prod.ext h2 h3)]
noncomputable def okO2 (N n : Nat) (_ : Unit) (h : PH) : Bool := (cmpH (CL N ++ OC N n) h && eqH (CL N) h) && Nat.ble (h.length + sl h) ((CL N).length + sl (CL N) + 130)
noncomputable def okW2 (M : PH) (d : Nat) (t : Nat → Nat) (v : Nat) (h : PH) : Bool := (okW M d t v h && eqH M h) && Nat.ble (h.length + sl h) (M.length + sl M + 220)
noncomputable def okS2 (M : PH) (t : Nat) (v : Int64) (h : PH) : Bool := (okS M t v h && eqH M h) && (Nat.beq h.length M.length && Nat.beq (sl h) (sl M))
noncomputable def okG2 (N n v : Nat) (a : Int32) (h : PH) : Bool := (okG N n v a h && eqH (VR N n) h) && Nat.ble (sl h) (sl (VR N n) + 18)
