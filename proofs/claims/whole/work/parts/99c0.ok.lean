/-! what the class's closed runs say; how much they make -/
noncomputable def okV (N : Nat) (_ : Unit) (h : PH) : Bool := cmpH (CL N) h && ((match nth h (lF N 15) with
  | none => false
  | some c => Nat.beq c.1 21 && (Nat.beq c.2.1 8 && allN 8 (fun n => Nat.beq (dg c.2.2 n) 1))) && Nat.ble (h.length + sl h) 4200)
noncomputable def okO2 (N n : Nat) (_ : Unit) (h : PH) : Bool := cmpH (CL N ++ OC N n) h && Nat.ble (h.length + sl h) ((CL N).length + sl (CL N) + 130)
noncomputable def okW2 (M : PH) (d : Nat) (t : Nat → Nat) (v : Nat) (h : PH) : Bool := okW M d t v h && Nat.ble (h.length + sl h) (M.length + sl M + 220)
noncomputable def okS2 (M : PH) (t : Nat) (v : Int64) (h : PH) : Bool := okS M t v h && (Nat.beq h.length M.length && Nat.beq (sl h) (sl M))
noncomputable def okG2 (N n v : Nat) (a : Int32) (h : PH) : Bool := okG N n v a h && Nat.ble (sl h) (sl (VR N n) + 18)
