noncomputable def fJ7_fill_53178_b5 (x0 : Nat) (x1 : Int32) (x3 : Int32) (x2 : Int32) : PM ((Int32) ⊕ (Unit)) :=
  (@ite _ (x3 ≤ x2) (dLe x3 x2) (
    pp (.inr ())
  ) (
    pb (tI 17 x0 x2 x1) fun _ =>
    pp (.inl (x2 + 1))))
noncomputable def fJ7_fill_53178_B5 (x0 : Nat) (x1 : Int32) (x3 : Int32) : (Int32) → PM ((Int32) ⊕ (Unit)) := fun (x : Int32) => frI x fun y2 => fJ7_fill_53178_b5 x0 x1 x3 y2
noncomputable def fJ7_fill_53178 (x0 : Nat) (x1 : Int32) : PM Unit :=
  pb (aln x0) fun v1 =>
  pb (plo (fJ7_fill_53178_B5 x0 x1 v1) fu (0 : Int32)) fun z4 =>
  pp ()
noncomputable def fX9_gcd_b7  (x2 : Int32) (x3 : Int32) (x4 : Int32) : PM ((Int32 × Int32 × Int32) ⊕ (Int32)) :=
  (@ite _ ((64 : Int32) ≤ x4) (dLe (64 : Int32) x4) (
    pp (.inr x2)
  ) (
    (@ite _ (x3 = 0) (dEq x3 0) (
      pp (.inr x2)
    ) (
      (@ite _ (x3 = 0) (dEq x3 0) pf (
      pp (.inl (x3, (x2 - x2 / x3 * x3), (x4 + 1)))))))))
noncomputable def fX9_gcd_B7  : (Int32 × Int32 × Int32) → PM ((Int32 × Int32 × Int32) ⊕ (Int32)) := fun (x : Int32 × Int32 × Int32) => frI x.1 fun y2 => frI x.2.1 fun y3 => frI x.2.2 fun y4 => fX9_gcd_b7  y2 y3 y4
noncomputable def fX9_gcd (x0 : Int32) (x1 : Int32) : PM Int32 :=
  pb (plo (fX9_gcd_B7 ) fu (x0, x1, (0 : Int32))) fun z4 =>
  pp z4
noncomputable def fX3_markClass_b3 (x0 : Nat) (x1 : Int32) (x2 : Int32) (x3 : Int32) (x4 : Int32) : PM ((Int32) ⊕ (Unit)) :=
  pb (gI 3 0 x0) fun v1 =>
  (@ite _ (v1 < x4) (dLt v1 x4) (
    pp (.inr ())
  ) (
    pb (gI 3 0 x0) fun v3 =>
    pb (fX9_gcd x4 v3) fun v4 =>
    (@ite _ (v4 = (1 : Int32)) (dEq v4 (1 : Int32)) (
      pb (gA 3 1 x0) fun v6 =>
      pb (gI 3 0 x0) fun v7 =>
      (@ite _ (v7 = 0) (dEq v7 0) pf (
      pb (gI 3 0 x0) fun v9 =>
      pb (gI 3 0 x0) fun v10 =>
      (@ite _ (v10 = 0) (dEq v10 0) pf (
      pb (tI 17 v6 ((((x4 * x1) - (x4 * x1) / v7 * v7) * v9) + ((x4 * x2) - (x4 * x2) / v10 * v10)) x3) fun _ =>
      pp (.inl (x4 + 1))))))
    ) (
      pp (.inl (x4 + 1))))))
noncomputable def fX3_markClass_B3 (x0 : Nat) (x1 : Int32) (x2 : Int32) (x3 : Int32) : (Int32) → PM ((Int32) ⊕ (Unit)) := fun (x : Int32) => frI x fun y4 => fX3_markClass_b3 x0 x1 x2 x3 y4
noncomputable def fX3_markClass (x0 : Nat) (x1 : Int32) (x2 : Int32) (x3 : Int32) : PM Unit :=
  pb (chk 3 x0) fun _ =>
  pb (plo (fX3_markClass_B3 x0 x1 x2 x3) fu (1 : Int32)) fun z13 =>
  pp ()
noncomputable def fX3_numberPairs_b22 (x0 : Nat) (x2 : Int32) (x1 : Int32) (x3 : Int32) : PM ((Int32 × Int32) ⊕ (Int32)) :=
  pb (gI 3 0 x0) fun v5 =>
  (@ite _ (v5 ≤ x3) (dLe v5 x3) (
    pp (.inr x1)
  ) (
    pb (gA 3 1 x0) fun v7 =>
    pb (gI 3 0 x0) fun v8 =>
    pb (lI 17 v7 ((x2 * v8) + x3)) fun v9 =>
    (@ite _ (v9 = (-1 : Int32)) (dEq v9 (-1 : Int32)) (
      pb (fX9_gcd x2 x3) fun v11 =>
      pb (gI 3 0 x0) fun v12 =>
      pb (fX9_gcd v11 v12) fun v13 =>
      (@ite _ (v13 = (1 : Int32)) (dEq v13 (1 : Int32)) (
        pb (fX3_markClass x0 x2 x3 x1) fun _ =>
        pp (.inl ((x1 + 1), (x3 + 1)))
      ) (
        pp (.inl (x1, (x3 + 1)))))
    ) (
      pp (.inl (x1, (x3 + 1)))))))
noncomputable def fX3_numberPairs_B22 (x0 : Nat) (x2 : Int32) : (Int32 × Int32) → PM ((Int32 × Int32) ⊕ (Int32)) := fun (x : Int32 × Int32) => frI x.1 fun y1 => frI x.2 fun y3 => fX3_numberPairs_b22 x0 x2 y1 y3
noncomputable def fX3_numberPairs_b12 (x0 : Nat) (x1 : Int32) (x2 : Int32) : PM ((Int32 × Int32) ⊕ (Int32)) :=
  pb (gI 3 0 x0) fun v3 =>
  (@ite _ (v3 ≤ x2) (dLe v3 x2) (
    pp (.inr x1)
  ) (
    pb (plo (fX3_numberPairs_B22 x0 x2) fu (x1, (0 : Int32))) fun z17 =>
    pp (.inl (z17, (x2 + 1)))))
noncomputable def fX3_numberPairs_B12 (x0 : Nat) : (Int32 × Int32) → PM ((Int32 × Int32) ⊕ (Int32)) := fun (x : Int32 × Int32) => frI x.1 fun y1 => frI x.2 fun y2 => fX3_numberPairs_b12 x0 y1 y2
noncomputable def fX3_numberPairs (x0 : Nat) : PM Int32 :=
  pb (chk 3 x0) fun _ =>
  pb (gA 3 1 x0) fun v1 =>
  pb (fJ7_fill_53178 v1 (-1 : Int32)) fun _ =>
  pb (plo (fX3_numberPairs_B12 x0) fu ((0 : Int32), (0 : Int32))) fun z18 =>
  pp z18
noncomputable def fX3_listPairs_b14 (x0 : Nat) (x2 : Int32) (x1 : Int32) (x3 : Int32) : PM ((Int32 × Int32) ⊕ (Int32)) :=
  pb (gI 3 0 x0) fun v3 =>
  (@ite _ (v3 ≤ x3) (dLe v3 x3) (
    pp (.inr x1)
  ) (
    pb (gI 3 2 x0) fun v5 =>
    (@ite _ (v5 ≤ x1) (dLe v5 x1) (
      pp (.inr x1)
    ) (
      pb (gA 3 1 x0) fun v7 =>
      pb (gI 3 0 x0) fun v8 =>
      pb (lI 17 v7 ((x2 * v8) + x3)) fun v9 =>
      (@ite _ (v9 = x1) (dEq v9 x1) (
        pb (gA 3 3 x0) fun v11 =>
        pb (tI 17 v11 x1 x2) fun _ =>
        pb (gA 3 4 x0) fun v13 =>
        pb (tI 17 v13 x1 x3) fun _ =>
        pp (.inl ((x1 + 1), (x3 + 1)))
      ) (
        pp (.inl (x1, (x3 + 1)))))))))
noncomputable def fX3_listPairs_B14 (x0 : Nat) (x2 : Int32) : (Int32 × Int32) → PM ((Int32 × Int32) ⊕ (Int32)) := fun (x : Int32 × Int32) => frI x.1 fun y1 => frI x.2 fun y3 => fX3_listPairs_b14 x0 x2 y1 y3
noncomputable def fX3_listPairs_b4 (x0 : Nat) (x1 : Int32) (x2 : Int32) : PM ((Int32 × Int32) ⊕ (Unit)) :=
  pb (gI 3 0 x0) fun v1 =>
  (@ite _ (v1 ≤ x2) (dLe v1 x2) (
    pp (.inr ())
  ) (
    pb (plo (fX3_listPairs_B14 x0 x2) fu (x1, (0 : Int32))) fun z15 =>
    pp (.inl (z15, (x2 + 1)))))
noncomputable def fX3_listPairs_B4 (x0 : Nat) : (Int32 × Int32) → PM ((Int32 × Int32) ⊕ (Unit)) := fun (x : Int32 × Int32) => frI x.1 fun y1 => frI x.2 fun y2 => fX3_listPairs_b4 x0 y1 y2
noncomputable def fX3_listPairs (x0 : Nat) : PM Unit :=
  pb (chk 3 x0) fun _ =>
  pb (plo (fX3_listPairs_B4 x0) fu ((0 : Int32), (0 : Int32))) fun z16 =>
  pp ()
noncomputable def fX3_find (x0 : Nat) (x1 : Int32) (x2 : Int32) : PM Int32 :=
  pb (chk 3 x0) fun _ =>
  pb (gI 3 0 x0) fun v1 =>
  (@ite _ (v1 = 0) (dEq v1 0) pf (
  pb (gI 3 0 x0) fun v3 =>
  pb (gI 3 0 x0) fun v4 =>
  (@ite _ (v4 = 0) (dEq v4 0) pf (
  pb (gI 3 0 x0) fun v6 =>
  (@ite _ (v6 = 0) (dEq v6 0) pf (
  pb (gI 3 0 x0) fun v8 =>
  pb (gI 3 0 x0) fun v9 =>
  (@ite _ (v9 = 0) (dEq v9 0) pf (
  pb (gA 3 1 x0) fun v11 =>
  pb (gI 3 0 x0) fun v12 =>
  pb (lI 17 v11 (((((x1 - x1 / v1 * v1) + v3) - ((x1 - x1 / v1 * v1) + v3) / v4 * v4) * v12) + (((x2 - x2 / v6 * v6) + v8) - ((x2 - x2 / v6 * v6) + v8) / v9 * v9))) fun v13 =>
  pp v13))))))))
noncomputable def fX3_listMaps_b2 (x0 : Nat) (x1 : Int32) : PM ((Int32) ⊕ (Unit)) :=
  pb (gI 3 2 x0) fun v1 =>
  (@ite _ (v1 ≤ x1) (dLe v1 x1) (
    pp (.inr ())
  ) (
    pb (gA 3 3 x0) fun v3 =>
    pb (lI 17 v3 x1) fun v4 =>
    pb (gA 3 4 x0) fun v5 =>
    pb (lI 17 v5 x1) fun v6 =>
    pb (gA 3 5 x0) fun v7 =>
    pb (fX3_find x0 (-v6) v4) fun v8 =>
    pb (tI 17 v7 x1 v8) fun _ =>
    pb (gA 3 6 x0) fun v11 =>
    pb (fX3_find x0 (v4 + v6) (-v4)) fun v12 =>
    pb (tI 17 v11 x1 v12) fun _ =>
    pb (gA 3 7 x0) fun v15 =>
    pb (fX3_find x0 v4 (v4 + v6)) fun v16 =>
    pb (tI 17 v15 x1 v16) fun _ =>
    pp (.inl (x1 + 1))))
noncomputable def fX3_listMaps_B2 (x0 : Nat) : (Int32) → PM ((Int32) ⊕ (Unit)) := fun (x : Int32) => frI x fun y1 => fX3_listMaps_b2 x0 y1
noncomputable def fX3_listMaps (x0 : Nat) : PM Unit :=
  pb (chk 3 x0) fun _ =>
  pb (plo (fX3_listMaps_B2 x0) fu (0 : Int32)) fun z19 =>
  pp ()
noncomputable def fX3_numberCusps_b35 (x0 : Nat) (x1 : Int32) (x2 : Int32) (x3 : Int32) (x4 : Int32) : PM ((Int32 × Int32) ⊕ (Unit)) :=
  pb (gI 3 2 x0) fun v8 =>
  (@ite _ (v8 ≤ x4) (dLe v8 x4) (
    pp (.inr ())
  ) (
    pb (gA 3 8 x0) fun v10 =>
    pb (lI 17 v10 x3) fun v11 =>
    (@ite _ (v11 = (-1 : Int32)) (dEq v11 (-1 : Int32)) (
      pb (gA 3 8 x0) fun v13 =>
      pb (tI 17 v13 x3 x1) fun _ =>
      pb (gA 3 7 x0) fun v15 =>
      pb (lI 17 v15 x3) fun v16 =>
      pp (.inl (v16, (x4 + 1)))
    ) (
      pp (.inr ())))))
noncomputable def fX3_numberCusps_B35 (x0 : Nat) (x1 : Int32) (x2 : Int32) : (Int32 × Int32) → PM ((Int32 × Int32) ⊕ (Unit)) := fun (x : Int32 × Int32) => frI x.1 fun y3 => frI x.2 fun y4 => fX3_numberCusps_b35 x0 x1 x2 y3 y4
noncomputable def fX3_numberCusps_b12 (x0 : Nat) (x1 : Int32) (x2 : Int32) : PM ((Int32 × Int32) ⊕ (Int32)) :=
  pb (gI 3 2 x0) fun v3 =>
  (@ite _ (v3 ≤ x2) (dLe v3 x2) (
    pp (.inr x1)
  ) (
    pb (gA 3 8 x0) fun v5 =>
    pb (lI 17 v5 x2) fun v6 =>
    (@ite _ (v6 = (-1 : Int32)) (dEq v6 (-1 : Int32)) (
      pb (plo (fX3_numberCusps_B35 x0 x1 x2) fu (x2, (0 : Int32))) fun z17 =>
      pp (.inl ((x1 + 1), (x2 + 1)))
    ) (
      pp (.inl (x1, (x2 + 1)))))))
noncomputable def fX3_numberCusps_B12 (x0 : Nat) : (Int32 × Int32) → PM ((Int32 × Int32) ⊕ (Int32)) := fun (x : Int32 × Int32) => frI x.1 fun y1 => frI x.2 fun y2 => fX3_numberCusps_b12 x0 y1 y2
noncomputable def fX3_numberCusps (x0 : Nat) : PM Int32 :=
  pb (chk 3 x0) fun _ =>
  pb (gA 3 8 x0) fun v1 =>
  pb (fJ7_fill_53178 v1 (-1 : Int32)) fun _ =>
  pb (plo (fX3_numberCusps_B12 x0) fu ((0 : Int32), (0 : Int32))) fun z18 =>
  pp z18
noncomputable def fX6_init (x0 : Nat) (x1 : Int32) : PM Unit :=
  pb (chk 5 x0) fun _ =>
  pb (sI 5 0 x0 x1) fun _ =>
  pb (nA 19 x1) fun v2 =>
  pb (sR 5 1 x0 (some v2)) fun _ =>
  pb (mna 23 17 x1 x1) fun v4 =>
  pb (sR 5 2 x0 (some v4)) fun _ =>
  pp ()
noncomputable def fX6_bind_b7 (x0 : Nat) (x1 : Int32) (x2 : Nat) (x3 : Int32) (x4 : Int32) : PM ((Int32) ⊕ (Unit)) :=
  (@ite _ (x1 < x4) (dLt x1 x4) (
    pp (.inr ())
  ) (
    pb (gA 5 2 x0) fun v3 =>
    pb (lA 23 v3 x1) fun v4 =>
    pb (lI 17 x2 x4) fun v5 =>
    pb (tI 17 v4 x4 (x3 * v5)) fun _ =>
    pp (.inl (x4 + 1))))
noncomputable def fX6_bind_B7 (x0 : Nat) (x1 : Int32) (x2 : Nat) (x3 : Int32) : (Int32) → PM ((Int32) ⊕ (Unit)) := fun (x : Int32) => frI x fun y4 => fX6_bind_b7 x0 x1 x2 x3 y4
noncomputable def fX6_bind (x0 : Nat) (x1 : Int32) (x2 : Nat) : PM Unit :=
  pb (chk 5 x0) fun _ =>
  pb (lI 17 x2 x1) fun v1 =>
  pb (plo (fX6_bind_B7 x0 x1 x2 v1) fu (0 : Int32)) fun z7 =>
  pb (gA 5 1 x0) fun v8 =>
  pb (tI 19 v8 x1 (1 : Int32)) fun _ =>
  pb (gI 5 3 x0) fun v10 =>
  pb (sI 5 3 x0 (v10 + (1 : Int32))) fun _ =>
  pp ()
noncomputable def fX6_subtract_b2 (x0 : Int32) (x1 : Nat) (x2 : Nat) (x3 : Int32) : PM ((Int32) ⊕ (Unit)) :=
  pb (aln x2) fun v1 =>
  (@ite _ (v1 ≤ x3) (dLe v1 x3) (
    pp (.inr ())
  ) (
    pb (lI 17 x2 x3) fun v3 =>
    pb (lI 17 x1 x3) fun v4 =>
    pb (tI 17 x2 x3 (v3 - (x0 * v4))) fun _ =>
    pp (.inl (x3 + 1))))
noncomputable def fX6_subtract_B2 (x0 : Int32) (x1 : Nat) (x2 : Nat) : (Int32) → PM ((Int32) ⊕ (Unit)) := fun (x : Int32) => frI x fun y3 => fX6_subtract_b2 x0 x1 x2 y3
noncomputable def fX6_subtract (x0 : Int32) (x1 : Nat) (x2 : Nat) : PM Unit :=
  pb (plo (fX6_subtract_B2 x0 x1 x2) fu (0 : Int32)) fun z6 =>
  pp ()
noncomputable def fX6_impose_b7 (x0 : Nat) (x1 : Nat) (x2 : Int32) : PM ((Int32) ⊕ (Unit)) :=
  (@ite _ (x2 < 0) (dLt x2 0) (
    pp (.inr ())
  ) (
    pb (lI 17 x1 x2) fun v3 =>
    (@ite _ (v3 = 0) (dEq v3 0) (
      pb (lI 17 x1 x2) fun v5 =>
      (@ite _ (v5 = 0) (dEq v5 0) (
        pp (.inl (x2 + (-1)))
      ) (
        pb (lI 17 x1 x2) fun v7 =>
        pb (gA 5 2 x0) fun v8 =>
        pb (lA 23 v8 x2) fun v9 =>
        pb (fX6_subtract v7 v9 x1) fun _ =>
        pp (.inl (x2 + (-1)))))
    ) (
      pb (gA 5 1 x0) fun v11 =>
      pb (lI 19 v11 x2) fun v12 =>
      (@ite _ (v12 = 0) (dEq v12 0) (
        pb (fX6_bind x0 x2 x1) fun _ =>
        pp (.inr ())
      ) (
        pb (lI 17 x1 x2) fun v14 =>
        (@ite _ (v14 = 0) (dEq v14 0) (
          pp (.inl (x2 + (-1)))
        ) (
          pb (lI 17 x1 x2) fun v16 =>
          pb (gA 5 2 x0) fun v17 =>
          pb (lA 23 v17 x2) fun v18 =>
          pb (fX6_subtract v16 v18 x1) fun _ =>
          pp (.inl (x2 + (-1)))))))))))
noncomputable def fX6_impose_B7 (x0 : Nat) (x1 : Nat) : (Int32) → PM ((Int32) ⊕ (Unit)) := fun (x : Int32) => frI x fun y2 => fX6_impose_b7 x0 x1 y2
noncomputable def fX6_impose (x0 : Nat) (x1 : Nat) : PM Unit :=
  pb (chk 5 x0) fun _ =>
  pb (gI 5 0 x0) fun v1 =>
  pb (plo (fX6_impose_B7 x0 x1) fu (v1 - (1 : Int32))) fun z22 =>
  pb (fJ7_fill_53178 x1 (0 : Int32)) fun _ =>
  pp ()
noncomputable def fX3_relateSymbols_b9 (x0 : Nat) (x1 : Nat) (x2 : Nat) (x3 : Int32) : PM ((Int32) ⊕ (Unit)) :=
  pb (gI 3 2 x0) fun v3 =>
  (@ite _ (v3 ≤ x3) (dLe v3 x3) (
    pp (.inr ())
  ) (
    pb (gA 3 5 x0) fun v5 =>
    pb (lI 17 v5 x3) fun v6 =>
    (@ite _ (v6 < x3) (dLt v6 x3) (
      pp (.inl (x3 + 1))
    ) (
      pb (tI 17 x2 x3 (1 : Int32)) fun _ =>
      pb (gA 3 5 x0) fun v9 =>
      pb (lI 17 v9 x3) fun v10 =>
      pb (tI 17 x2 v10 (1 : Int32)) fun _ =>
      pb (fX6_impose x1 x2) fun _ =>
      pp (.inl (x3 + 1))))))
noncomputable def fX3_relateSymbols_B9 (x0 : Nat) (x1 : Nat) (x2 : Nat) : (Int32) → PM ((Int32) ⊕ (Unit)) := fun (x : Int32) => frI x fun y3 => fX3_relateSymbols_b9 x0 x1 x2 y3
noncomputable def fX3_relateSymbols_b53 (x0 : Nat) (x1 : Nat) (x2 : Nat) (x3 : Int32) : PM ((Int32) ⊕ (Unit)) :=
  pb (gI 3 2 x0) fun v15 =>
  (@ite _ (v15 ≤ x3) (dLe v15 x3) (
    pp (.inr ())
  ) (
    pb (gA 3 6 x0) fun v17 =>
    pb (lI 17 v17 x3) fun v18 =>
    pb (gA 3 6 x0) fun v19 =>
    pb (lI 17 v19 v18) fun v20 =>
    (@ite _ (v18 < x3) (dLt v18 x3) (
      pp (.inl (x3 + 1))
    ) (
      (@ite _ (v20 < x3) (dLt v20 x3) (
        pp (.inl (x3 + 1))
      ) (
        pb (tI 17 x2 x3 (1 : Int32)) fun _ =>
        pb (tI 17 x2 v18 (1 : Int32)) fun _ =>
        pb (tI 17 x2 v20 (1 : Int32)) fun _ =>
        pb (fX6_impose x1 x2) fun _ =>
        pp (.inl (x3 + 1))))))))
noncomputable def fX3_relateSymbols_B53 (x0 : Nat) (x1 : Nat) (x2 : Nat) : (Int32) → PM ((Int32) ⊕ (Unit)) := fun (x : Int32) => frI x fun y3 => fX3_relateSymbols_b53 x0 x1 x2 y3
noncomputable def fX3_relateSymbols (x0 : Nat) (x1 : Nat) : PM Unit :=
  pb (chk 3 x0) fun _ =>
  pb (gI 3 2 x0) fun v1 =>
  pb (nA 17 v1) fun v2 =>
  pb (plo (fX3_relateSymbols_B9 x0 x1 v2) fu (0 : Int32)) fun z14 =>
  pb (plo (fX3_relateSymbols_B53 x0 x1 v2) fu (0 : Int32)) fun z28 =>
  pp ()
noncomputable def fX6_freeColumns_b16 (x0 : Nat) (x1 : Nat) (x2 : Int32) (x3 : Int32) : PM ((Int32 × Int32) ⊕ (Unit)) :=
  pb (gI 5 0 x0) fun v4 =>
  (@ite _ (v4 ≤ x3) (dLe v4 x3) (
    pp (.inr ())
  ) (
    pb (aln x1) fun v6 =>
    (@ite _ (v6 ≤ x2) (dLe v6 x2) (
      pp (.inr ())
    ) (
      pb (gA 5 1 x0) fun v8 =>
      pb (lI 19 v8 x3) fun v9 =>
      (@ite _ (v9 = 0) (dEq v9 0) (
        pb (tI 17 x1 x2 x3) fun _ =>
        pp (.inl ((x2 + 1), (x3 + 1)))
      ) (
        pp (.inl (x2, (x3 + 1)))))))))
noncomputable def fX6_freeColumns_B16 (x0 : Nat) (x1 : Nat) : (Int32 × Int32) → PM ((Int32 × Int32) ⊕ (Unit)) := fun (x : Int32 × Int32) => frI x.1 fun y2 => frI x.2 fun y3 => fX6_freeColumns_b16 x0 x1 y2 y3
noncomputable def fX6_freeColumns (x0 : Nat) : PM Nat :=
  pb (chk 5 x0) fun _ =>
  pb (gI 5 0 x0) fun v1 =>
  pb (gI 5 3 x0) fun v2 =>
  pb (nA 17 (v1 - v2)) fun v3 =>
  pb (plo (fX6_freeColumns_B16 x0 v3) fu ((0 : Int32), (0 : Int32))) fun z12 =>
  pp v3
noncomputable def fX6_coordinatesIn_b13 (x0 : Nat) (x1 : Nat) (x2 : Nat) (x3 : Int32) : PM ((Int32) ⊕ (Unit)) :=
  pb (aln x1) fun v4 =>
  (@ite _ (v4 ≤ x3) (dLe v4 x3) (
    pp (.inr ())
  ) (
    pb (lI 17 x1 x3) fun v6 =>
    pb (lA 23 x2 v6) fun v7 =>
    pb (tI 17 v7 x3 (1 : Int32)) fun _ =>
    pp (.inl (x3 + 1))))
noncomputable def fX6_coordinatesIn_B13 (x0 : Nat) (x1 : Nat) (x2 : Nat) : (Int32) → PM ((Int32) ⊕ (Unit)) := fun (x : Int32) => frI x fun y3 => fX6_coordinatesIn_b13 x0 x1 x2 y3
noncomputable def fX6_coordinatesIn_b46 (x0 : Nat) (x2 : Nat) (x3 : Int32) (x4 : Int32) : PM ((Int32) ⊕ (Unit)) :=
  pb (gA 5 1 x0) fun v12 =>
  pb (lI 19 v12 x3) fun v13 =>
  (@ite _ (v13 = 0) (dEq v13 0) (
    pp (.inr ())
  ) (
    (@ite _ (x3 ≤ x4) (dLe x3 x4) (
      pp (.inr ())
    ) (
      pb (gA 5 2 x0) fun v16 =>
      pb (lA 23 v16 x3) fun v17 =>
      pb (lI 17 v17 x4) fun v18 =>
      (@ite _ (v18 = 0) (dEq v18 0) (
        pp (.inl (x4 + 1))
      ) (
        pb (gA 5 2 x0) fun v20 =>
        pb (lA 23 v20 x3) fun v21 =>
        pb (lI 17 v21 x4) fun v22 =>
        pb (lA 23 x2 x4) fun v23 =>
        pb (lA 23 x2 x3) fun v24 =>
        pb (fX6_subtract v22 v23 v24) fun _ =>
        pp (.inl (x4 + 1))))))))
noncomputable def fX6_coordinatesIn_B46 (x0 : Nat) (x2 : Nat) (x3 : Int32) : (Int32) → PM ((Int32) ⊕ (Unit)) := fun (x : Int32) => frI x fun y4 => fX6_coordinatesIn_b46 x0 x2 x3 y4
noncomputable def fX6_coordinatesIn_b35 (x0 : Nat) (x2 : Nat) (x3 : Int32) : PM ((Int32) ⊕ (Unit)) :=
  pb (gI 5 0 x0) fun v10 =>
  (@ite _ (v10 ≤ x3) (dLe v10 x3) (
    pp (.inr ())
  ) (
    pb (plo (fX6_coordinatesIn_B46 x0 x2 x3) fu (0 : Int32)) fun z26 =>
    pp (.inl (x3 + 1))))
noncomputable def fX6_coordinatesIn_B35 (x0 : Nat) (x2 : Nat) : (Int32) → PM ((Int32) ⊕ (Unit)) := fun (x : Int32) => frI x fun y3 => fX6_coordinatesIn_b35 x0 x2 y3
noncomputable def fX6_coordinatesIn (x0 : Nat) (x1 : Nat) : PM Nat :=
  pb (chk 5 x0) fun _ =>
  pb (gI 5 0 x0) fun v1 =>
  pb (aln x1) fun v2 =>
  pb (mna 23 17 v1 v2) fun v3 =>
  pb (plo (fX6_coordinatesIn_B13 x0 x1 v3) fu (0 : Int32)) fun z9 =>
  pb (plo (fX6_coordinatesIn_B35 x0 v3) fu (0 : Int32)) fun z27 =>
  pp v3
noncomputable def fX3_edge (x0 : Nat) (x1 : Int32) (x2 : Int32) : PM Int32 :=
  pb (chk 3 x0) fun _ =>
  pb (gA 3 10 x0) fun v1 =>
  pb (lI 17 v1 x1) fun v2 =>
  pb (gA 3 8 x0) fun v3 =>
  pb (lI 17 v3 v2) fun v4 =>
  (@ite _ (v4 = x2) (dEq v4 x2) (
    pb (gA 3 8 x0) fun v11 =>
    pb (gA 3 5 x0) fun v12 =>
    pb (lI 17 v12 v2) fun v13 =>
    pb (lI 17 v11 v13) fun v14 =>
    (@ite _ (v14 = x2) (dEq v14 x2) (
      pp ((1 : Int32) - (1 : Int32))
    ) (
      pp ((1 : Int32) - (0 : Int32))))
  ) (
    pb (gA 3 8 x0) fun v6 =>
    pb (gA 3 5 x0) fun v7 =>
    pb (lI 17 v7 v2) fun v8 =>
    pb (lI 17 v6 v8) fun v9 =>
    (@ite _ (v9 = x2) (dEq v9 x2) (
      pp ((0 : Int32) - (1 : Int32))
    ) (
      pp ((0 : Int32) - (0 : Int32))))))
noncomputable def fX3_relateCoordinates_b20 (x0 : Nat) (x1 : Nat) (x2 : Nat) (x3 : Int32) (x4 : Int32) : PM ((Int32) ⊕ (Unit)) :=
  pb (gI 3 12 x0) fun v5 =>
  (@ite _ (v5 ≤ x4) (dLe v5 x4) (
    pp (.inr ())
  ) (
    pb (fX3_edge x0 x4 x3) fun v7 =>
    pb (tI 17 x2 x4 v7) fun _ =>
    pp (.inl (x4 + 1))))
noncomputable def fX3_relateCoordinates_B20 (x0 : Nat) (x1 : Nat) (x2 : Nat) (x3 : Int32) : (Int32) → PM ((Int32) ⊕ (Unit)) := fun (x : Int32) => frI x fun y4 => fX3_relateCoordinates_b20 x0 x1 x2 x3 y4
noncomputable def fX3_relateCoordinates_b9 (x0 : Nat) (x1 : Nat) (x2 : Nat) (x3 : Int32) : PM ((Int32) ⊕ (Unit)) :=
  pb (gI 3 9 x0) fun v3 =>
  (@ite _ (v3 ≤ x3) (dLe v3 x3) (
    pp (.inr ())
  ) (
    pb (plo (fX3_relateCoordinates_B20 x0 x1 x2 x3) fu (0 : Int32)) fun z10 =>
    pb (fX6_impose x1 x2) fun _ =>
    pp (.inl (x3 + 1))))
noncomputable def fX3_relateCoordinates_B9 (x0 : Nat) (x1 : Nat) (x2 : Nat) : (Int32) → PM ((Int32) ⊕ (Unit)) := fun (x : Int32) => frI x fun y3 => fX3_relateCoordinates_b9 x0 x1 x2 y3
noncomputable def fX3_relateCoordinates (x0 : Nat) (x1 : Nat) : PM Unit :=
  pb (chk 3 x0) fun _ =>
  pb (gI 3 12 x0) fun v1 =>
  pb (nA 17 v1) fun v2 =>
  pb (plo (fX3_relateCoordinates_B9 x0 x1 v2) fu (0 : Int32)) fun z13 =>
  pp ()
noncomputable def fX0_init (x0 : Nat) (x1 : Nat) : PM Unit :=
  pb (chk 0 x0) fun _ =>
  pb (fX6_freeColumns x1) fun v1 =>
  pb (sR 0 0 x0 (some v1)) fun _ =>
  pb (gA 0 0 x0) fun v4 =>
  pb (fX6_coordinatesIn x1 v4) fun v5 =>
  pb (sR 0 1 x0 (some v5)) fun _ =>
  pp ()
noncomputable def fX3_init_b168 (x0 : Nat) (x3 : Int32) : PM ((Int32) ⊕ (Unit)) :=
  pb (gI 3 12 x0) fun v52 =>
  (@ite _ (v52 ≤ x3) (dLe v52 x3) (
    pp (.inr ())
  ) (
    pb (gA 3 11 x0) fun v54 =>
    pb (gA 3 10 x0) fun v55 =>
    pb (lI 17 v55 x3) fun v56 =>
    pb (tI 17 v54 v56 x3) fun _ =>
    pp (.inl (x3 + 1))))
noncomputable def fX3_init_B168 (x0 : Nat) : (Int32) → PM ((Int32) ⊕ (Unit)) := fun (x : Int32) => frI x fun y3 => fX3_init_b168 x0 y3
noncomputable def fX3_init (x0 : Nat) (x1 : Int32) : PM Unit :=
  pb (chk 3 x0) fun _ =>
  pb (sI 3 0 x0 x1) fun _ =>
  pb (nA 17 (x1 * x1)) fun v2 =>
  pb (sR 3 1 x0 (some v2)) fun _ =>
  pb (fX3_numberPairs x0) fun v4 =>
  pb (sI 3 2 x0 v4) fun _ =>
  pb (gI 3 2 x0) fun v7 =>
  pb (nA 17 v7) fun v8 =>
  pb (sR 3 3 x0 (some v8)) fun _ =>
  pb (gI 3 2 x0) fun v10 =>
  pb (nA 17 v10) fun v11 =>
  pb (sR 3 4 x0 (some v11)) fun _ =>
  pb (gI 3 2 x0) fun v13 =>
  pb (nA 17 v13) fun v14 =>
  pb (sR 3 5 x0 (some v14)) fun _ =>
  pb (gI 3 2 x0) fun v16 =>
  pb (nA 17 v16) fun v17 =>
  pb (sR 3 6 x0 (some v17)) fun _ =>
  pb (gI 3 2 x0) fun v19 =>
  pb (nA 17 v19) fun v20 =>
  pb (sR 3 7 x0 (some v20)) fun _ =>
  pb (fX3_listPairs x0) fun _ =>
  pb (fX3_listMaps x0) fun _ =>
  pb (gI 3 2 x0) fun v26 =>
  pb (nA 17 v26) fun v27 =>
  pb (sR 3 8 x0 (some v27)) fun _ =>
  pb (fX3_numberCusps x0) fun v29 =>
  pb (sI 3 9 x0 v29) fun _ =>
  pb (al 5 4) fun v32 =>
  pb (gI 3 2 x0) fun v33 =>
  pb (fX6_init v32 v33) fun _ =>
  pb (fX3_relateSymbols x0 v32) fun _ =>
  pb (fX6_freeColumns v32) fun v37 =>
  pb (sR 3 10 x0 (some v37)) fun _ =>
  pb (gA 3 10 x0) fun v40 =>
  pb (aln v40) fun v41 =>
  pb (sI 3 12 x0 v41) fun _ =>
  pb (gA 3 10 x0) fun v43 =>
  pb (fX6_coordinatesIn v32 v43) fun v44 =>
  pb (sR 3 13 x0 (some v44)) fun _ =>
  pb (gI 3 2 x0) fun v47 =>
  pb (nA 17 v47) fun v48 =>
  pb (sR 3 11 x0 (some v48)) fun _ =>
  pb (gA 3 11 x0) fun v50 =>
  pb (fJ7_fill_53178 v50 (-1 : Int32)) fun _ =>
  pb (plo (fX3_init_B168 x0) fu (0 : Int32)) fun z58 =>
  pb (al 5 4) fun v59 =>
  pb (gI 3 12 x0) fun v60 =>
  pb (fX6_init v59 v60) fun _ =>
  pb (fX3_relateCoordinates x0 v59) fun _ =>
  pb (al 0 2) fun v64 =>
  pb (fX0_init v64 v59) fun _ =>
  pb (sR 3 14 x0 (some v64)) fun _ =>
  pb (nA 21 (8 : Int32)) fun v67 =>
  pb (sR 3 15 x0 (some v67)) fun _ =>
  pp ()
noncomputable def fX8_init (x0 : Nat) (x1 : Nat) : PM Unit :=
  pb (chk 7 x0) fun _ =>
  pb (sR 7 0 x0 (some x1)) fun _ =>
  pb (nA 18 (9 : Int32)) fun v2 =>
  pb (sR 7 1 x0 (some v2)) fun _ =>
  pp ()
noncomputable def fX2_init_b15 (x0 : Nat) (x1 : Nat) (x2 : Int32) : PM ((Int32) ⊕ (Unit)) :=
  (@ite _ ((6 : Int32) ≤ x2) (dLe (6 : Int32) x2) (
    pp (.inr ())
  ) (
    pb (gA 2 0 x0) fun v4 =>
    pb (al 7 2) fun v5 =>
    pb (fX8_init v5 x1) fun _ =>
    pb (tA 7 22 v4 x2 v5) fun _ =>
    pp (.inl (x2 + 1))))
noncomputable def fX2_init_B15 (x0 : Nat) (x1 : Nat) : (Int32) → PM ((Int32) ⊕ (Unit)) := fun (x : Int32) => frI x fun y2 => fX2_init_b15 x0 x1 y2
noncomputable def fX2_init (x0 : Nat) (x1 : Nat) : PM Unit :=
  pb (chk 2 x0) fun _ =>
  pb (nA 22 (6 : Int32)) fun v1 =>
  pb (sR 2 0 x0 (some v1)) fun _ =>
  pb (plo (fX2_init_B15 x0 x1) fu (0 : Int32)) fun z8 =>
  pp ()
noncomputable def fX7_init (x0 : Nat) : PM Unit :=
  pb (chk 6 x0) fun _ =>
  pb (nA 16 (120 : Int32)) fun v1 =>
  pb (sR 6 0 x0 (some v1)) fun _ =>
  pb (nA 17 (60 : Int32)) fun v3 =>
  pb (sR 6 2 x0 (some v3)) fun _ =>
  pb (nA 17 (60 : Int32)) fun v5 =>
  pb (sR 6 3 x0 (some v5)) fun _ =>
  pb (nA 17 (60 : Int32)) fun v7 =>
  pb (sR 6 4 x0 (some v7)) fun _ =>
  pp ()
noncomputable def fX1_init (x0 : Nat) : PM Unit :=
  pb (chk 1 x0) fun _ =>
  pb (nA 17 (61 : Int32)) fun v1 =>
  pb (sR 1 0 x0 (some v1)) fun _ =>
  pb (gA 1 0 x0) fun v3 =>
  pb (fJ7_fill_53178 v3 (-1 : Int32)) fun _ =>
  pp ()
noncomputable def fX9_init (x0 : Nat) : PM Unit :=
  pb (chk 8 x0) fun _ =>
  pb (al 3 16) fun v1 =>
  pb (fX3_init v1 (11 : Int32)) fun _ =>
  pb (nA 20 (26 : Int32)) fun v3 =>
  pb (sR 8 0 x0 (some v3)) fun _ =>
  pb (gA 8 0 x0) fun v5 =>
  pb (tA 3 20 v5 (11 : Int32) v1) fun _ =>
  pb (al 7 2) fun v7 =>
  pb (fX8_init v7 v1) fun _ =>
  pb (sR 8 1 x0 (some v7)) fun _ =>
  pb (al 7 2) fun v10 =>
  pb (fX8_init v10 v1) fun _ =>
  pb (sR 8 2 x0 (some v10)) fun _ =>
  pb (al 2 2) fun v13 =>
  pb (fX2_init v13 v1) fun _ =>
  pb (sR 8 3 x0 (some v13)) fun _ =>
  pb (al 6 8) fun v16 =>
  pb (fX7_init v16) fun _ =>
  pb (sR 8 4 x0 (some v16)) fun _ =>
  pb (al 1 1) fun v19 =>
  pb (fX1_init v19) fun _ =>
  pb (sR 8 5 x0 (some v19)) fun _ =>
  pp ()
noncomputable def fX8_copyFrom (x0 : Nat) (x1 : Nat) : PM Unit :=
  pb (chk 7 x0) fun _ =>
  pb (gA 7 0 x1) fun v1 =>
  pb (sR 7 0 x0 (some v1)) fun _ =>
  pb (gA 7 1 x1) fun v3 =>
  pb (gA 7 1 x0) fun v4 =>
  pb (acp v3 (0 : Int32) v4 (0 : Int32) (9 : Int32)) fun _ =>
  pp ()
noncomputable def fX9_within (x0 : Int32) (x1 : Int32) (x2 : Int32) : PM Int32 :=
  (@ite _ (x0 < x1) (dLt x0 x1) (
    pp (0 : Int32)
  ) (
    (@ite _ (x2 < x0) (dLt x2 x0) (
      pp (0 : Int32)
    ) (
      pp (1 : Int32)))))
noncomputable def fJ7_fill_d0a16_b6 (x0 : Nat) (x1 : Int64) (x4 : Int32) (x3 : Int32) : PM ((Int32) ⊕ (Unit)) :=
  (@ite _ (x4 ≤ x3) (dLe x4 x3) (
    pp (.inr ())
  ) (
    pb (tJ 18 x0 x3 x1) fun _ =>
    pp (.inl (x3 + 1))))
noncomputable def fJ7_fill_d0a16_B6 (x0 : Nat) (x1 : Int64) (x4 : Int32) : (Int32) → PM ((Int32) ⊕ (Unit)) := fun (x : Int32) => frI x fun y3 => fJ7_fill_d0a16_b6 x0 x1 x4 y3
noncomputable def fJ7_fill_d0a16 (x0 : Nat) (x1 : Int64) : PM Unit :=
  pb (aln x0) fun v1 =>
  pb (plo (fJ7_fill_d0a16_B6 x0 x1 v1) fu (0 : Int32)) fun z4 =>
  pp ()
noncomputable def fX8_becomeZero (x0 : Nat) : PM Int32 :=
  pb (chk 7 x0) fun _ =>
  pb (gA 7 1 x0) fun v1 =>
  pb (fJ7_fill_d0a16 v1 (0 : Int64)) fun _ =>
  pp (0 : Int32)
noncomputable def fX9_enter (x0 : Nat) (x1 : Int32) : PM Int32 :=
  pb (chk 8 x0) fun _ =>
  pb (fX9_within x1 (1 : Int32) (25 : Int32)) fun v1 =>
  (@ite _ (v1 = 0) (dEq v1 0) (
    pp (-2 : Int32)
  ) (
    pb (gA 8 0 x0) fun v3 =>
    pb (lN' 20 v3 x1) fun v4 =>
    (match v4 with
    | none => pb (al 3 16) fun v6 =>
      pb (fX3_init v6 x1) fun _ =>
      pb (gA 8 0 x0) fun v8 =>
      pb (tA 3 20 v8 x1 v6) fun _ =>
      pb (gA 8 2 x0) fun v10 =>
      pb (gA 7 0 v10) fun v11 =>
      pb (gI 3 0 v11) fun v12 =>
      pb (gA 8 2 x0) fun v13 =>
      pb (sR 7 0 v13 (some v6)) fun _ =>
      pb (gA 8 2 x0) fun v15 =>
      pb (fX8_becomeZero v15) fun v16 =>
      pp v12
    | some a5 => pb (gA 8 2 x0) fun v18 =>
      pb (gA 7 0 v18) fun v19 =>
      pb (gI 3 0 v19) fun v20 =>
      pb (gA 8 2 x0) fun v21 =>
      pb (sR 7 0 v21 (some a5)) fun _ =>
      pb (gA 8 2 x0) fun v23 =>
      pb (fX8_becomeZero v23) fun v24 =>
      pp v20)))
noncomputable def fX9_refuse (x0 : Nat) (x1 : Int32) : PM Int32 :=
  pb (chk 8 x0) fun _ =>
  (@ite _ (x1 = (-2 : Int32)) (dEq x1 (-2 : Int32)) (
    pb (gI 8 6 x0) fun v8 =>
    pb (sI 8 6 x0 (v8 + (1 : Int32))) fun _ =>
    pp x1
  ) (
    (@ite _ (x1 = (-3 : Int32)) (dEq x1 (-3 : Int32)) (
      pb (gI 8 7 x0) fun v6 =>
      pb (sI 8 7 x0 (v6 + (1 : Int32))) fun _ =>
      pp x1
    ) (
      (@ite _ (x1 = (-4 : Int32)) (dEq x1 (-4 : Int32)) (
        pb (gI 8 8 x0) fun v4 =>
        pb (sI 8 8 x0 (v4 + (1 : Int32))) fun _ =>
        pp x1
      ) (
        pp x1))))))
noncomputable def fX2_forgetOldest_b9 (x0 : Nat) (x1 : Nat) (x2 : Int32) : PM ((Int32) ⊕ (Unit)) :=
  (@ite _ ((6 : Int32) ≤ x2) (dLe (6 : Int32) x2) (
    pp (.inr ())
  ) (
    pb (gA 2 0 x0) fun v4 =>
    pb (gA 2 0 x0) fun v5 =>
    pb (lA 22 v5 x2) fun v6 =>
    pb (tA 7 22 v4 (x2 - (1 : Int32)) v6) fun _ =>
    pp (.inl (x2 + 1))))
noncomputable def fX2_forgetOldest_B9 (x0 : Nat) (x1 : Nat) : (Int32) → PM ((Int32) ⊕ (Unit)) := fun (x : Int32) => frI x fun y2 => fX2_forgetOldest_b9 x0 x1 y2
noncomputable def fX2_forgetOldest (x0 : Nat) : PM Unit :=
  pb (chk 2 x0) fun _ =>
  pb (gA 2 0 x0) fun v1 =>
  pb (lA 22 v1 (0 : Int32)) fun v2 =>
  pb (plo (fX2_forgetOldest_B9 x0 v2) fu (1 : Int32)) fun z8 =>
  pb (gA 2 0 x0) fun v9 =>
  pb (tA 7 22 v9 (5 : Int32) v2) fun _ =>
  pb (gI 2 1 x0) fun v11 =>
  pb (sI 2 1 x0 (v11 - (1 : Int32))) fun _ =>
  pp ()
noncomputable def fX2_keep (x0 : Nat) (x1 : Nat) : PM Unit :=
  pb (chk 2 x0) fun _ =>
  pb (gI 2 1 x0) fun v1 =>
  (@ite _ (v1 = (6 : Int32)) (dEq v1 (6 : Int32)) (
    pb (fX2_forgetOldest x0) fun _ =>
    pb (gA 2 0 x0) fun v12 =>
    pb (gI 2 1 x0) fun v13 =>
    pb (lA 22 v12 v13) fun v14 =>
    pb (fX8_copyFrom v14 x1) fun _ =>
    pb (gI 2 1 x0) fun v17 =>
    pb (sI 2 1 x0 (v17 + (1 : Int32))) fun _ =>
    pp ()
  ) (
    pb (gA 2 0 x0) fun v3 =>
    pb (gI 2 1 x0) fun v4 =>
    pb (lA 22 v3 v4) fun v5 =>
    pb (fX8_copyFrom v5 x1) fun _ =>
    pb (gI 2 1 x0) fun v8 =>
    pb (sI 2 1 x0 (v8 + (1 : Int32))) fun _ =>
    pp ()))
noncomputable def fX9_settle (x0 : Nat) (x1 : Int32) : PM Int32 :=
  pb (chk 8 x0) fun _ =>
  (@ite _ (0 ≤ x1) (dLe 0 x1) (
    pb (gA 8 3 x0) fun v2 =>
    pb (gA 8 1 x0) fun v3 =>
    pb (fX2_keep v2 v3) fun _ =>
    pb (gA 8 1 x0) fun v6 =>
    pb (gA 8 2 x0) fun v7 =>
    pb (fX8_copyFrom v6 v7) fun _ =>
    pp x1
  ) (
    pb (fX9_refuse x0 x1) fun v10 =>
    pp v10))
noncomputable def fX9_level (x0 : Nat) (x1 : Int32) : PM Int32 :=
  pb (chk 8 x0) fun _ =>
  pb (gA 8 2 x0) fun v1 =>
  pb (gA 8 1 x0) fun v2 =>
  pb (fX8_copyFrom v1 v2) fun _ =>
  pb (fX9_enter x0 x1) fun v5 =>
  pb (fX9_settle x0 v5) fun v7 =>
  pp v7
noncomputable def fX9_symbols (x0 : Nat) : PM Int32 :=
  pb (chk 8 x0) fun _ =>
  pb (gA 8 1 x0) fun v1 =>
  pb (gA 7 0 v1) fun v2 =>
  pb (gI 3 2 v2) fun v3 =>
  pp v3
noncomputable def fX3_hasSymbol (x0 : Nat) (x1 : Int32) : PM Int32 :=
  pb (chk 3 x0) fun _ =>
  (@ite _ (x1 < 0) (dLt x1 0) (
    pp (0 : Int32)
  ) (
    pb (gI 3 2 x0) fun v2 =>
    (@ite _ (v2 ≤ x1) (dLe v2 x1) (
      pp (0 : Int32)
    ) (
      pp (1 : Int32)))))
noncomputable def fX9_symbol (x0 : Nat) (x1 : Int32) (x2 : Int32) : PM Int32 :=
  pb (chk 8 x0) fun _ =>
  pb (gA 8 1 x0) fun v1 =>
  pb (gA 7 0 v1) fun v2 =>
  pb (fX3_hasSymbol v2 x1) fun v3 =>
  (@ite _ (v3 = 0) (dEq v3 0) (
    pb (fX9_refuse x0 (-2 : Int32)) fun v29 =>
    pp v29
  ) (
    (@ite _ (x2 = 0) (dEq x2 0) (
      pb (gA 3 3 v2) fun v7 =>
      pb (lI 17 v7 x1) fun v8 =>
      pp v8
    ) (@ite _ (x2 = 1) (dEq x2 1) (
      pb (gA 3 4 v2) fun v10 =>
      pb (lI 17 v10 x1) fun v11 =>
      pp v11
    ) (@ite _ (x2 = 2) (dEq x2 2) (
      pb (gA 3 5 v2) fun v13 =>
      pb (lI 17 v13 x1) fun v14 =>
      pp v14
    ) (@ite _ (x2 = 3) (dEq x2 3) (
      pb (gA 3 6 v2) fun v16 =>
      pb (lI 17 v16 x1) fun v17 =>
      pp v17
    ) (@ite _ (x2 = 4) (dEq x2 4) (
      pb (gA 3 7 v2) fun v19 =>
      pb (lI 17 v19 x1) fun v20 =>
      pp v20
    ) (@ite _ (x2 = 5) (dEq x2 5) (
      pb (gA 3 8 v2) fun v22 =>
      pb (lI 17 v22 x1) fun v23 =>
      pp v23
    ) (@ite _ (x2 = 6) (dEq x2 6) (
      pb (gA 3 11 v2) fun v25 =>
      pb (lI 17 v25 x1) fun v26 =>
      pp v26
    ) (pb (fX9_refuse x0 (-2 : Int32)) fun v27 =>
    pp v27))))))))))
noncomputable def fX9_pair (x0 : Nat) (x1 : Int32) (x2 : Int32) : PM Int32 :=
  pb (chk 8 x0) fun _ =>
  pb (fX9_within x1 (-9999 : Int32) (9999 : Int32)) fun v1 =>
  (@ite _ (v1 = 0) (dEq v1 0) (
    pb (fX9_refuse x0 (-2 : Int32)) fun v3 =>
    pp v3
  ) (
    pb (fX9_within x2 (-9999 : Int32) (9999 : Int32)) fun v5 =>
    (@ite _ (v5 = 0) (dEq v5 0) (
      pb (fX9_refuse x0 (-2 : Int32)) fun v11 =>
      pp v11
    ) (
      pb (gA 8 1 x0) fun v7 =>
      pb (gA 7 0 v7) fun v8 =>
      pb (fX3_find v8 x1 x2) fun v9 =>
      pp v9))))
noncomputable def fX3_closedSymbols_b4 (x0 : Nat) (x1 : Int32) (x2 : Int32) : PM ((Int32 × Int32) ⊕ (Int32)) :=
  pb (gI 3 12 x0) fun v1 =>
  (@ite _ (v1 ≤ x2) (dLe v1 x2) (
    pp (.inr x1)
  ) (
    pb (gA 3 8 x0) fun v3 =>
    pb (gA 3 10 x0) fun v4 =>
    pb (lI 17 v4 x2) fun v5 =>
    pb (lI 17 v3 v5) fun v6 =>
    pb (gA 3 8 x0) fun v7 =>
    pb (gA 3 5 x0) fun v8 =>
    pb (gA 3 10 x0) fun v9 =>
    pb (lI 17 v9 x2) fun v10 =>
    pb (lI 17 v8 v10) fun v11 =>
    pb (lI 17 v7 v11) fun v12 =>
    (@ite _ (v6 = v12) (dEq v6 v12) (
      pp (.inl ((x1 + 1), (x2 + 1)))
    ) (
      pp (.inl (x1, (x2 + 1)))))))
noncomputable def fX3_closedSymbols_B4 (x0 : Nat) : (Int32 × Int32) → PM ((Int32 × Int32) ⊕ (Int32)) := fun (x : Int32 × Int32) => frI x.1 fun y1 => frI x.2 fun y2 => fX3_closedSymbols_b4 x0 y1 y2
noncomputable def fX3_closedSymbols (x0 : Nat) : PM Int32 :=
  pb (chk 3 x0) fun _ =>
  pb (plo (fX3_closedSymbols_B4 x0) fu ((0 : Int32), (0 : Int32))) fun z14 =>
  pp z14
noncomputable def fX9_space (x0 : Nat) (x1 : Int32) : PM Int32 :=
  pb (chk 8 x0) fun _ =>
  pb (gA 8 1 x0) fun v1 =>
  pb (gA 7 0 v1) fun v2 =>
  (@ite _ (x1 = 0) (dEq x1 0) (
    pb (gI 3 12 v2) fun v4 =>
    pp v4
  ) (@ite _ (x1 = 1) (dEq x1 1) (
    pb (gI 3 9 v2) fun v6 =>
    pp v6
  ) (@ite _ (x1 = 2) (dEq x1 2) (
    pb (gA 3 14 v2) fun v8 =>
    pb (gA 0 0 v8) fun v9 =>
    pb (aln v9) fun v10 =>
    pp (v10 / (2 : Int32))
  ) (@ite _ (x1 = 3) (dEq x1 3) (
    pb (fX3_closedSymbols v2) fun v12 =>
    pp v12
  ) (pb (fX9_refuse x0 (-2 : Int32)) fun v14 =>
  pp v14)))))
noncomputable def fX3_hasCoordinate (x0 : Nat) (x1 : Int32) : PM Int32 :=
  pb (chk 3 x0) fun _ =>
  (@ite _ (x1 < 0) (dLt x1 0) (
    pp (0 : Int32)
  ) (
    pb (gI 3 12 x0) fun v2 =>
    (@ite _ (v2 ≤ x1) (dLe v2 x1) (
      pp (0 : Int32)
    ) (
      pp (1 : Int32)))))
noncomputable def fX9_fraction (x0 : Nat) (x1 : Int32) (x2 : Int32) (x3 : Int32) : PM Int64 :=
  pb (chk 8 x0) fun _ =>
  pb (gA 8 1 x0) fun v1 =>
  pb (gA 7 0 v1) fun v2 =>
  pb (fX3_hasSymbol v2 x1) fun v3 =>
  (@ite _ (v3 = 0) (dEq v3 0) (
    pb (fX9_refuse x0 (-2 : Int32)) fun v6 =>
    pp v6.toInt64
  ) (
    pb (fX3_hasCoordinate v2 x2) fun v8 =>
    (@ite _ (v8 = 0) (dEq v8 0) (
      pb (fX9_refuse x0 (-2 : Int32)) fun v11 =>
      pp v11.toInt64
    ) (
      pb (fX9_within x3 (0 : Int32) (1 : Int32)) fun v13 =>
      (@ite _ (v13 = 0) (dEq v13 0) (
        pb (fX9_refuse x0 (-2 : Int32)) fun v19 =>
        pp v19.toInt64
      ) (
        (@ite _ (x3 = 0) (dEq x3 0) (
          pb (gA 3 13 v2) fun v16 =>
          pb (lA 23 v16 x1) fun v17 =>
          pb (lI 17 v17 x2) fun v18 =>
          pp v18.toInt64
        ) (
          pp (1 : Int64)))))))))
noncomputable def fX5_addTerm_b69 (x0 : Nat) (x1 : Nat) (x2 : Int32) (x3 : Int32) (x4 : Int32) (x5 : Int32) (x6 : Int32) (x9 : Int32) (x10 : Int32) : PM ((Int32) ⊕ (Unit)) :=
  (@ite _ (x9 = (-1 : Int32)) (dEq x9 (-1 : Int32)) (
    pp (.inr ())
  ) (
    pb (gI 3 12 x1) fun v14 =>
    (@ite _ (v14 ≤ x10) (dLe v14 x10) (
      pp (.inr ())
    ) (
      pb (gA 4 0 x0) fun v16 =>
      pb (lA 24 v16 x10) fun v17 =>
      pb (lJ 18 v17 x6) fun v18 =>
      pb (gA 3 13 x1) fun v19 =>
      pb (lA 23 v19 x9) fun v20 =>
      pb (lI 17 v20 x10) fun v21 =>
      pb (tJ 18 v17 x6 (v18 + v21.toInt64)) fun _ =>
      pp (.inl (x10 + 1))))))
noncomputable def fX5_addTerm_B69 (x0 : Nat) (x1 : Nat) (x2 : Int32) (x3 : Int32) (x4 : Int32) (x5 : Int32) (x6 : Int32) (x9 : Int32) : (Int32) → PM ((Int32) ⊕ (Unit)) := fun (x : Int32) => frI x fun y10 => fX5_addTerm_b69 x0 x1 x2 x3 x4 x5 x6 x9 y10
noncomputable def fX5_addTerm_b3 (x0 : Nat) (x1 : Nat) (x2 : Int32) (x3 : Int32) (x4 : Int32) (x5 : Int32) (x6 : Int32) : PM ((Int32) ⊕ (Unit)) :=
  pb (gI 3 12 x1) fun v1 =>
  (@ite _ (v1 ≤ x6) (dLe v1 x6) (
    pp (.inr ())
  ) (
    pb (gA 3 3 x1) fun v3 =>
    pb (gA 3 10 x1) fun v4 =>
    pb (lI 17 v4 x6) fun v5 =>
    pb (lI 17 v3 v5) fun v6 =>
    pb (gA 3 4 x1) fun v7 =>
    pb (gA 3 10 x1) fun v8 =>
    pb (lI 17 v8 x6) fun v9 =>
    pb (lI 17 v7 v9) fun v10 =>
    pb (fX3_find x1 ((v6 * x2) + (v10 * x4)) ((v6 * x3) + (v10 * x5))) fun v11 =>
    pb (plo (fX5_addTerm_B69 x0 x1 x2 x3 x4 x5 x6 v11) fu (0 : Int32)) fun z23 =>
    pp (.inl (x6 + 1))))
noncomputable def fX5_addTerm_B3 (x0 : Nat) (x1 : Nat) (x2 : Int32) (x3 : Int32) (x4 : Int32) (x5 : Int32) : (Int32) → PM ((Int32) ⊕ (Unit)) := fun (x : Int32) => frI x fun y6 => fX5_addTerm_b3 x0 x1 x2 x3 x4 x5 y6
noncomputable def fX5_addTerm (x0 : Nat) (x1 : Nat) (x2 : Int32) (x3 : Int32) (x4 : Int32) (x5 : Int32) : PM Unit :=
  pb (chk 4 x0) fun _ =>
  pb (plo (fX5_addTerm_B3 x0 x1 x2 x3 x4 x5) fu (0 : Int32)) fun z24 =>
  pp ()
noncomputable def fX5_addTerms_b32 (x0 : Nat) (x1 : Nat) (x2 : Int32) (x3 : Int32) (x4 : Int32) (x5 : Int32) (x6 : Int32) : PM ((Int32) ⊕ (Unit)) :=
  (@ite _ (x4 ≤ x6) (dLe x4 x6) (
    pp (.inr ())
  ) (
    (@ite _ (((x3 * x4) - (x5 * x6)) = x2) (dEq ((x3 * x4) - (x5 * x6)) x2) (
      pb (fX5_addTerm x0 x1 x3 x5 x6 x4) fun _ =>
      pp (.inl (x6 + 1))
    ) (
      pp (.inl (x6 + 1))))))
noncomputable def fX5_addTerms_B32 (x0 : Nat) (x1 : Nat) (x2 : Int32) (x3 : Int32) (x4 : Int32) (x5 : Int32) : (Int32) → PM ((Int32) ⊕ (Unit)) := fun (x : Int32) => frI x fun y6 => fX5_addTerms_b32 x0 x1 x2 x3 x4 x5 y6
noncomputable def fX5_addTerms_b23 (x0 : Nat) (x1 : Nat) (x2 : Int32) (x3 : Int32) (x4 : Int32) (x5 : Int32) : PM ((Int32) ⊕ (Unit)) :=
  (@ite _ (x3 ≤ x5) (dLe x3 x5) (
    pp (.inr ())
  ) (
    pb (plo (fX5_addTerms_B32 x0 x1 x2 x3 x4 x5) fu (0 : Int32)) fun z8 =>
    pp (.inl (x5 + 1))))
noncomputable def fX5_addTerms_B23 (x0 : Nat) (x1 : Nat) (x2 : Int32) (x3 : Int32) (x4 : Int32) : (Int32) → PM ((Int32) ⊕ (Unit)) := fun (x : Int32) => frI x fun y5 => fX5_addTerms_b23 x0 x1 x2 x3 x4 y5
noncomputable def fX5_addTerms_b10 (x0 : Nat) (x1 : Nat) (x2 : Int32) (x3 : Int32) (x4 : Int32) : PM ((Int32) ⊕ (Unit)) :=
  (@ite _ (((x2 + (1 : Int32)) - x3) < x4) (dLt ((x2 + (1 : Int32)) - x3) x4) (
    pp (.inr ())
  ) (
    pb (plo (fX5_addTerms_B23 x0 x1 x2 x3 x4) fu (0 : Int32)) fun z9 =>
    pp (.inl (x4 + 1))))
noncomputable def fX5_addTerms_B10 (x0 : Nat) (x1 : Nat) (x2 : Int32) (x3 : Int32) : (Int32) → PM ((Int32) ⊕ (Unit)) := fun (x : Int32) => frI x fun y4 => fX5_addTerms_b10 x0 x1 x2 x3 y4
noncomputable def fX5_addTerms_b2 (x0 : Nat) (x1 : Nat) (x2 : Int32) (x3 : Int32) : PM ((Int32) ⊕ (Unit)) :=
  (@ite _ (x2 < x3) (dLt x2 x3) (
    pp (.inr ())
  ) (
    pb (plo (fX5_addTerms_B10 x0 x1 x2 x3) fu (1 : Int32)) fun z10 =>
    pp (.inl (x3 + 1))))
noncomputable def fX5_addTerms_B2 (x0 : Nat) (x1 : Nat) (x2 : Int32) : (Int32) → PM ((Int32) ⊕ (Unit)) := fun (x : Int32) => frI x fun y3 => fX5_addTerms_b2 x0 x1 x2 y3
noncomputable def fX5_addTerms (x0 : Nat) (x1 : Nat) (x2 : Int32) : PM Unit :=
  pb (chk 4 x0) fun _ =>
  pb (plo (fX5_addTerms_B2 x0 x1 x2) fu (1 : Int32)) fun z11 =>
  pp ()
noncomputable def fX5_restrictTo_b39 (x0 : Nat) (x1 : Nat) (x2 : Int32) (x3 : Nat) (x4 : Int32) (x5 : Int32) : PM ((Int32) ⊕ (Unit)) :=
  pb (aln x3) fun v11 =>
  (@ite _ (v11 ≤ x5) (dLe v11 x5) (
    pp (.inr ())
  ) (
    pb (gA 4 1 x0) fun v13 =>
    pb (lA 24 v13 x2) fun v14 =>
    pb (lJ 18 v14 x4) fun v15 =>
    pb (lJ 18 x3 x5) fun v16 =>
    pb (gA 0 1 x1) fun v17 =>
    pb (lA 23 v17 x5) fun v18 =>
    pb (lI 17 v18 x4) fun v19 =>
    pb (tJ 18 v14 x4 (v15 + (v16 * v19.toInt64))) fun _ =>
    pp (.inl (x5 + 1))))
noncomputable def fX5_restrictTo_B39 (x0 : Nat) (x1 : Nat) (x2 : Int32) (x3 : Nat) (x4 : Int32) : (Int32) → PM ((Int32) ⊕ (Unit)) := fun (x : Int32) => frI x fun y5 => fX5_restrictTo_b39 x0 x1 x2 x3 x4 y5
noncomputable def fX5_restrictTo_b26 (x0 : Nat) (x1 : Nat) (x2 : Int32) (x3 : Nat) (x4 : Int32) : PM ((Int32) ⊕ (Unit)) :=
  pb (gA 4 1 x0) fun v8 =>
  pb (aln v8) fun v9 =>
  (@ite _ (v9 ≤ x4) (dLe v9 x4) (
    pp (.inr ())
  ) (
    pb (plo (fX5_restrictTo_B39 x0 x1 x2 x3 x4) fu (0 : Int32)) fun z21 =>
    pp (.inl (x4 + 1))))
noncomputable def fX5_restrictTo_B26 (x0 : Nat) (x1 : Nat) (x2 : Int32) (x3 : Nat) : (Int32) → PM ((Int32) ⊕ (Unit)) := fun (x : Int32) => frI x fun y4 => fX5_restrictTo_b26 x0 x1 x2 x3 y4
noncomputable def fX5_restrictTo_b2 (x0 : Nat) (x1 : Nat) (x2 : Int32) : PM ((Int32) ⊕ (Unit)) :=
  pb (gA 4 1 x0) fun v1 =>
  pb (aln v1) fun v2 =>
  (@ite _ (v2 ≤ x2) (dLe v2 x2) (
    pp (.inr ())
  ) (
    pb (gA 4 0 x0) fun v4 =>
    pb (gA 0 0 x1) fun v5 =>
    pb (lI 17 v5 x2) fun v6 =>
    pb (lA 24 v4 v6) fun v7 =>
    pb (plo (fX5_restrictTo_B26 x0 x1 x2 v7) fu (0 : Int32)) fun z22 =>
    pp (.inl (x2 + 1))))
noncomputable def fX5_restrictTo_B2 (x0 : Nat) (x1 : Nat) : (Int32) → PM ((Int32) ⊕ (Unit)) := fun (x : Int32) => frI x fun y2 => fX5_restrictTo_b2 x0 x1 y2
noncomputable def fX5_restrictTo (x0 : Nat) (x1 : Nat) : PM Unit :=
  pb (chk 4 x0) fun _ =>
  pb (plo (fX5_restrictTo_B2 x0 x1) fu (0 : Int32)) fun z23 =>
  pp ()
noncomputable def fX5_init (x0 : Nat) (x1 : Nat) (x2 : Int32) : PM Unit :=
  pb (chk 4 x0) fun _ =>
  pb (gI 3 12 x1) fun v1 =>
  pb (gI 3 12 x1) fun v2 =>
  pb (mna 24 18 v1 v2) fun v3 =>
  pb (sR 4 0 x0 (some v3)) fun _ =>
  pb (gI 3 12 x1) fun v5 =>
  pb (nA 18 v5) fun v6 =>
  pb (sR 4 2 x0 (some v6)) fun _ =>
  pb (fX5_addTerms x0 x1 x2) fun _ =>
  pb (gA 3 14 x1) fun v10 =>
  pb (gA 0 0 v10) fun v11 =>
  pb (aln v11) fun v12 =>
  pb (mna 24 18 v12 v12) fun v13 =>
  pb (sR 4 1 x0 (some v13)) fun _ =>
  pb (gA 3 14 x1) fun v15 =>
  pb (fX5_restrictTo x0 v15) fun _ =>
  pp ()
noncomputable def fX3_operatorFor (x0 : Nat) (x1 : Int32) : PM (Option Nat) :=
  pb (chk 3 x0) fun _ =>
  pb (fX9_within x1 (1 : Int32) (7 : Int32)) fun v1 =>
  (@ite _ (v1 = 0) (dEq v1 0) (
    pp none
  ) (
    pb (gI 3 0 x0) fun v3 =>
    pb (fX9_gcd x1 v3) fun v4 =>
    (@ite _ (v4 = (1 : Int32)) (dEq v4 (1 : Int32)) (
      pb (gA 3 15 x0) fun v6 =>
      pb (lN' 21 v6 x1) fun v7 =>
      (match v7 with
      | none => pb (al 4 5) fun v9 =>
        pb (fX5_init v9 x0 x1) fun _ =>
        pb (gA 3 15 x0) fun v11 =>
        pb (tA 4 21 v11 x1 v9) fun _ =>
        pp (some v9)
      | some a8 => pp (some a8))
    ) (
      pp none))))
noncomputable def fX9_table (x0 : Nat) (x1 : Int32) (x2 : Int32) (x3 : Int32) (x4 : Int32) : PM Int64 :=
  pb (chk 8 x0) fun _ =>
  pb (gA 8 1 x0) fun v1 =>
  pb (gA 7 0 v1) fun v2 =>
  pb (fX9_within x1 (1 : Int32) (7 : Int32)) fun v3 =>
  (@ite _ (v3 = 0) (dEq v3 0) (
    pb (fX9_refuse x0 (-2 : Int32)) fun v5 =>
    pp v5.toInt64
  ) (
    pb (fX3_hasCoordinate v2 x2) fun v7 =>
    (@ite _ (v7 = 0) (dEq v7 0) (
      pb (fX9_refuse x0 (-2 : Int32)) fun v10 =>
      pp v10.toInt64
    ) (
      pb (fX3_hasCoordinate v2 x3) fun v12 =>
      (@ite _ (v12 = 0) (dEq v12 0) (
        pb (fX9_refuse x0 (-2 : Int32)) fun v15 =>
        pp v15.toInt64
      ) (
        pb (fX9_within x4 (0 : Int32) (1 : Int32)) fun v17 =>
        (@ite _ (v17 = 0) (dEq v17 0) (
          pb (fX9_refuse x0 (-2 : Int32)) fun v28 =>
          pp v28.toInt64
        ) (
          pb (fX3_operatorFor v2 x1) fun v19 =>
          (match v19 with
          | none => pb (fX9_refuse x0 (-3 : Int32)) fun v22 =>
            pp v22.toInt64
          | some a21 => (@ite _ (x4 = 0) (dEq x4 0) (
              pb (gA 4 0 a21) fun v25 =>
              pb (lA 24 v25 x2) fun v26 =>
              pb (lJ 18 v26 x3) fun v27 =>
              pp v27
            ) (
              pp (1 : Int64))))))))))))
noncomputable def fX4_diagonalSum_b4 (x0 : Nat) (x1 : Int64) (x3 : Int32) : PM ((Int64 × Int32) ⊕ (Int64)) :=
  pb (aln x0) fun v1 =>
  (@ite _ (v1 ≤ x3) (dLe v1 x3) (
    pp (.inr x1)
  ) (
    pb (lA 24 x0 x3) fun v3 =>
    pb (lJ 18 v3 x3) fun v4 =>
    pp (.inl ((x1 + v4), (x3 + 1)))))
noncomputable def fX4_diagonalSum_B4 (x0 : Nat) : (Int64 × Int32) → PM ((Int64 × Int32) ⊕ (Int64)) := fun (x : Int64 × Int32) => frJ x.1 fun y1 => frI x.2 fun y3 => fX4_diagonalSum_b4 x0 y1 y3
noncomputable def fX4_diagonalSum (x0 : Nat) : PM Int64 :=
  pb (plo (fX4_diagonalSum_B4 x0) fu ((0 : Int64), (0 : Int32))) fun z5 =>
  pp z5
noncomputable def fX9_trace (x0 : Nat) (x1 : Int32) (x2 : Int32) : PM Int64 :=
  pb (chk 8 x0) fun _ =>
  pb (fX9_within x1 (1 : Int32) (7 : Int32)) fun v1 =>
  (@ite _ (v1 = 0) (dEq v1 0) (
    pb (fX9_refuse x0 (-2 : Int32)) fun v3 =>
    pp (-9999 : Int64)
  ) (
    pb (fX9_within x2 (0 : Int32) (1 : Int32)) fun v5 =>
    (@ite _ (v5 = 0) (dEq v5 0) (
      pb (fX9_refuse x0 (-2 : Int32)) fun v19 =>
      pp (-9999 : Int64)
    ) (
      pb (gA 8 1 x0) fun v7 =>
      pb (gA 7 0 v7) fun v8 =>
      pb (fX3_operatorFor v8 x1) fun v9 =>
      (match v9 with
      | none => pb (fX9_refuse x0 (-3 : Int32)) fun v12 =>
        pp (-9998 : Int64)
      | some a11 => (@ite _ (x2 = 0) (dEq x2 0) (
          pb (gA 4 0 a11) fun v17 =>
          pb (fX4_diagonalSum v17) fun v18 =>
          pp v18
        ) (
          pb (gA 4 1 a11) fun v15 =>
          pb (fX4_diagonalSum v15) fun v16 =>
          pp v16)))))))
noncomputable def fX4_addToDiagonal_b2 (x0 : Int64) (x2 : Nat) (x3 : Int32) : PM ((Int32) ⊕ (Unit)) :=
  pb (aln x2) fun v1 =>
  (@ite _ (v1 ≤ x3) (dLe v1 x3) (
    pp (.inr ())
  ) (
    pb (lA 24 x2 x3) fun v3 =>
    pb (lJ 18 v3 x3) fun v4 =>
    pb (tJ 18 v3 x3 (v4 + x0)) fun _ =>
    pp (.inl (x3 + 1))))
noncomputable def fX4_addToDiagonal_B2 (x0 : Int64) (x2 : Nat) : (Int32) → PM ((Int32) ⊕ (Unit)) := fun (x : Int32) => frI x fun y3 => fX4_addToDiagonal_b2 x0 x2 y3
noncomputable def fX4_addToDiagonal (x0 : Int64) (x2 : Nat) : PM Unit :=
  pb (plo (fX4_addToDiagonal_B2 x0 x2) fu (0 : Int32)) fun z6 =>
  pp ()
noncomputable def fX4_multiply_b27 (x0 : Nat) (x1 : Nat) (x2 : Nat) (x3 : Int32) (x4 : Int32) (x5 : Int32) (x6 : Int64) (x8 : Int32) : PM ((Int64 × Int32) ⊕ (Int64)) :=
  (@ite _ (x3 ≤ x8) (dLe x3 x8) (
    pp (.inr x6)
  ) (
    pb (lA 24 x0 x4) fun v5 =>
    pb (lJ 18 v5 x8) fun v6 =>
    pb (lA 24 x1 x8) fun v7 =>
    pb (lJ 18 v7 x5) fun v8 =>
    pp (.inl ((x6 + (v6 * v8)), (x8 + 1)))))
noncomputable def fX4_multiply_B27 (x0 : Nat) (x1 : Nat) (x2 : Nat) (x3 : Int32) (x4 : Int32) (x5 : Int32) : (Int64 × Int32) → PM ((Int64 × Int32) ⊕ (Int64)) := fun (x : Int64 × Int32) => frJ x.1 fun y6 => frI x.2 fun y8 => fX4_multiply_b27 x0 x1 x2 x3 x4 x5 y6 y8
noncomputable def fX4_multiply_b15 (x0 : Nat) (x1 : Nat) (x2 : Nat) (x3 : Int32) (x4 : Int32) (x5 : Int32) : PM ((Int32) ⊕ (Unit)) :=
  (@ite _ (x3 ≤ x5) (dLe x3 x5) (
    pp (.inr ())
  ) (
    pb (plo (fX4_multiply_B27 x0 x1 x2 x3 x4 x5) fu ((0 : Int64), (0 : Int32))) fun z9 =>
    pb (lA 24 x2 x4) fun v10 =>
    pb (tJ 18 v10 x5 z9) fun _ =>
    pp (.inl (x5 + 1))))
noncomputable def fX4_multiply_B15 (x0 : Nat) (x1 : Nat) (x2 : Nat) (x3 : Int32) (x4 : Int32) : (Int32) → PM ((Int32) ⊕ (Unit)) := fun (x : Int32) => frI x fun y5 => fX4_multiply_b15 x0 x1 x2 x3 x4 y5
noncomputable def fX4_multiply_b6 (x0 : Nat) (x1 : Nat) (x2 : Nat) (x3 : Int32) (x4 : Int32) : PM ((Int32) ⊕ (Unit)) :=
  (@ite _ (x3 ≤ x4) (dLe x3 x4) (
    pp (.inr ())
  ) (
    pb (plo (fX4_multiply_B15 x0 x1 x2 x3 x4) fu (0 : Int32)) fun z12 =>
    pp (.inl (x4 + 1))))
noncomputable def fX4_multiply_B6 (x0 : Nat) (x1 : Nat) (x2 : Nat) (x3 : Int32) : (Int32) → PM ((Int32) ⊕ (Unit)) := fun (x : Int32) => frI x fun y4 => fX4_multiply_b6 x0 x1 x2 x3 y4
noncomputable def fX4_multiply (x0 : Nat) (x1 : Nat) (x2 : Nat) : PM Unit :=
  pb (aln x0) fun v1 =>
  pb (plo (fX4_multiply_B6 x0 x1 x2 v1) fu (0 : Int32)) fun z13 =>
  pp ()
noncomputable def fX4_characteristic_b36 (x0 : Nat) (x1 : Int32) (x2 : Nat) (x3 : Nat) (x4 : Nat) (x5 : Int32) : PM ((Nat × Nat × Int32) ⊕ (Unit)) :=
  (@ite _ (x1 < x5) (dLt x1 x5) (
    pp (.inr ())
  ) (
    pb (fX4_multiply x0 x3 x4) fun _ =>
    pb (fX4_diagonalSum x4) fun v9 =>
    (@ite _ (x5.toInt64 = 0) (dEqJ x5.toInt64) pf (
    pb (tJ 18 x2 (x1 - x5) ((-v9) / x5.toInt64)) fun _ =>
    pb (fX4_addToDiagonal ((-v9) / x5.toInt64) x4) fun _ =>
    pp (.inl (x4, x3, (x5 + 1)))))))
noncomputable def fX4_characteristic_B36 (x0 : Nat) (x1 : Int32) (x2 : Nat) : (Nat × Nat × Int32) → PM ((Nat × Nat × Int32) ⊕ (Unit)) := fun (x : Nat × Nat × Int32) => frI x.2.2 fun y5 => fX4_characteristic_b36 x0 x1 x2 x.1 x.2.1 y5
noncomputable def fX4_characteristic (x0 : Nat) : PM Nat :=
  pb (aln x0) fun v1 =>
  pb (nA 18 (v1 + (1 : Int32))) fun v2 =>
  pb (tJ 18 v2 v1 (1 : Int64)) fun _ =>
  pb (mna 24 18 v1 v1) fun v4 =>
  pb (mna 24 18 v1 v1) fun v5 =>
  pb (fX4_addToDiagonal (1 : Int64) v4) fun _ =>
  pb (plo (fX4_characteristic_B36 x0 v1 v2) fu (v4, v5, (1 : Int32))) fun z13 =>
  pp v2
noncomputable def fX5_wholeCoefficients (x0 : Nat) : PM Nat :=
  pb (chk 4 x0) fun _ =>
  pb (gN 4 3 x0) fun v1 =>
  (match v1 with
  | none => pb (gA 4 0 x0) fun v3 =>
    pb (fX4_characteristic v3) fun v4 =>
    pb (sR 4 3 x0 (some v4)) fun _ =>
    pb (gA 4 3 x0) fun v6 =>
    pp v6
  | some a2 => pb (gA 4 3 x0) fun v7 =>
    pp v7)
noncomputable def fX5_cuspidalCoefficients (x0 : Nat) : PM Nat :=
  pb (chk 4 x0) fun _ =>
  pb (gN 4 4 x0) fun v1 =>
  (match v1 with
  | none => pb (gA 4 1 x0) fun v3 =>
    pb (fX4_characteristic v3) fun v4 =>
    pb (sR 4 4 x0 (some v4)) fun _ =>
    pb (gA 4 4 x0) fun v6 =>
    pp v6
  | some a2 => pb (gA 4 4 x0) fun v7 =>
    pp v7)
noncomputable def fX9_polynomial (x0 : Nat) (x1 : Int32) (x2 : Int32) (x3 : Int32) : PM Int64 :=
  pb (chk 8 x0) fun _ =>
  pb (fX9_within x1 (1 : Int32) (7 : Int32)) fun v1 =>
  (@ite _ (v1 = 0) (dEq v1 0) (
    pb (fX9_refuse x0 (-2 : Int32)) fun v3 =>
    pp (-9223372036854775808 : Int64)
  ) (
    pb (fX9_within x2 (0 : Int32) (1 : Int32)) fun v5 =>
    (@ite _ (v5 = 0) (dEq v5 0) (
      pb (fX9_refuse x0 (-2 : Int32)) fun v7 =>
      pp (-9223372036854775808 : Int64)
    ) (
      (@ite _ (0 ≤ x3) (dLe 0 x3) (
        pb (gA 8 1 x0) fun v10 =>
        pb (gA 7 0 v10) fun v11 =>
        pb (fX3_operatorFor v11 x1) fun v12 =>
        (match v12 with
        | none => pb (fX9_refuse x0 (-3 : Int32)) fun v15 =>
          pp (-9223372036854775807 : Int64)
        | some a14 => (@ite _ (x2 = 0) (dEq x2 0) (
            pb (fX5_wholeCoefficients a14) fun v23 =>
            pb (aln v23) fun v25 =>
            (@ite _ (v25 ≤ x3) (dLe v25 x3) (
              pp (0 : Int64)
            ) (
              pb (lJ 18 v23 x3) fun v27 =>
              pp v27))
          ) (
            pb (fX5_cuspidalCoefficients a14) fun v18 =>
            pb (aln v18) fun v20 =>
            (@ite _ (v20 ≤ x3) (dLe v20 x3) (
              pp (0 : Int64)
            ) (
              pb (lJ 18 v18 x3) fun v22 =>
              pp v22)))))
      ) (
        pb (fX9_refuse x0 (-2 : Int32)) fun v28 =>
        pp (-9223372036854775808 : Int64)))))))
noncomputable def fJ7_copyOf_c38d5 (x0 : Nat) (x1 : Int32) : PM Nat :=
  pb (aln x0) fun v1 =>
  (@ite _ (x1 = v1) (dEq x1 v1) (pb (cln x0) fun v2 => pp v2) pf)
noncomputable def fX4_multiplicity_b29 (x1 : Int32) (x2 : Int32) (x3 : Nat) (x4 : Int32) (x5 : Int32) (x6 : Int32) : PM ((Int32) ⊕ (Unit)) :=
  (@ite _ (x6 < x5) (dLt x6 x5) (
    pp (.inr ())
  ) (
    pb (lJ 18 x3 x6) fun v6 =>
    pb (lJ 18 x3 (x6 + (1 : Int32))) fun v7 =>
    pb (tJ 18 x3 x6 (v6 + (x1.toInt64 * v7))) fun _ =>
    pp (.inl (x6 + (-1)))))
noncomputable def fX4_multiplicity_B29 (x1 : Int32) (x2 : Int32) (x3 : Nat) (x4 : Int32) (x5 : Int32) : (Int32) → PM ((Int32) ⊕ (Unit)) := fun (x : Int32) => frI x fun y6 => fX4_multiplicity_b29 x1 x2 x3 x4 x5 y6
noncomputable def fX4_multiplicity_b18 (x1 : Int32) (x2 : Int32) (x3 : Nat) (x4 : Int32) (x5 : Int32) : PM ((Int32 × Int32) ⊕ (Int32)) :=
  (@ite _ (x2 ≤ x5) (dLe x2 x5) (
    pp (.inr x4)
  ) (
    pb (plo (fX4_multiplicity_B29 x1 x2 x3 x4 x5) fu (x2 - (1 : Int32))) fun z9 =>
    pb (lJ 18 x3 x5) fun v10 =>
    (@ite _ ((lg_cmp v10 (0 : Int64)) = 0) (dcE v10 (0 : Int64)) (
      pp (.inl ((x4 + 1), (x5 + 1)))
    ) (
      pp (.inr x4)))))
noncomputable def fX4_multiplicity_B18 (x1 : Int32) (x2 : Int32) (x3 : Nat) : (Int32 × Int32) → PM ((Int32 × Int32) ⊕ (Int32)) := fun (x : Int32 × Int32) => frI x.1 fun y4 => frI x.2 fun y5 => fX4_multiplicity_b18 x1 x2 x3 y4 y5
noncomputable def fX4_multiplicity (x0 : Nat) (x1 : Int32) : PM Int32 :=
  pb (aln x0) fun v1 =>
  pb (aln x0) fun v2 =>
  pb (fJ7_copyOf_c38d5 x0 v2) fun v3 =>
  pb (plo (fX4_multiplicity_B18 x1 (v1 - (1 : Int32)) v3) fu ((0 : Int32), (0 : Int32))) fun z12 =>
  pp z12
noncomputable def fX9_root (x0 : Nat) (x1 : Int32) (x2 : Int32) : PM Int32 :=
  pb (chk 8 x0) fun _ =>
  pb (fX9_within x1 (1 : Int32) (7 : Int32)) fun v1 =>
  (@ite _ (v1 = 0) (dEq v1 0) (
    pb (fX9_refuse x0 (-2 : Int32)) fun v3 =>
    pp v3
  ) (
    pb (fX9_within x2 (-8 : Int32) (8 : Int32)) fun v5 =>
    (@ite _ (v5 = 0) (dEq v5 0) (
      pb (fX9_refuse x0 (-2 : Int32)) fun v17 =>
      pp v17
    ) (
      pb (gA 8 1 x0) fun v7 =>
      pb (gA 7 0 v7) fun v8 =>
      pb (fX3_operatorFor v8 x1) fun v9 =>
      (match v9 with
      | none => pb (fX9_refuse x0 (-3 : Int32)) fun v12 =>
        pp v12
      | some a11 => pb (fX5_cuspidalCoefficients a11) fun v14 =>
        pb (fX4_multiplicity v14 x2) fun v16 =>
        pp v16)))))
noncomputable def fX1_divisors_b4 (x0 : Int32) (x1 : Int32) (x2 : Int32) : PM ((Int32 × Int32) ⊕ (Int32)) :=
  (@ite _ (x0 < x2) (dLt x0 x2) (
    pp (.inr x1)
  ) (
    (@ite _ (x2 = 0) (dEq x2 0) pf (
    (@ite _ ((x0 - x0 / x2 * x2) = 0) (dEq (x0 - x0 / x2 * x2) 0) (
      pp (.inl ((x1 + 1), (x2 + 1)))
    ) (
      pp (.inl (x1, (x2 + 1)))))))))
noncomputable def fX1_divisors_B4 (x0 : Int32) : (Int32 × Int32) → PM ((Int32 × Int32) ⊕ (Int32)) := fun (x : Int32 × Int32) => frI x.1 fun y1 => frI x.2 fun y2 => fX1_divisors_b4 x0 y1 y2
noncomputable def fX1_divisors (x0 : Int32) : PM Int32 :=
  pb (plo (fX1_divisors_B4 x0) fu ((0 : Int32), (1 : Int32))) fun z4 =>
  pp z4
noncomputable def fX1_primeDivides (x0 : Int32) (x1 : Int32) : PM Int32 :=
  (@ite _ (x0 = 0) (dEq x0 0) pf (
  (@ite _ ((x1 - x1 / x0 * x0) = 0) (dEq (x1 - x1 / x0 * x0) 0) (
    pb (fX1_divisors x0) fun v3 =>
    (@ite _ (v3 = (2 : Int32)) (dEq v3 (2 : Int32)) (
      pp (1 : Int32)
    ) (
      pp (0 : Int32)))
  ) (
    pp (0 : Int32)))))
noncomputable def fX1_index_b4 (x0 : Int32) (x1 : Int32) (x2 : Int32) : PM ((Int32 × Int32) ⊕ (Int32)) :=
  (@ite _ (x0 < x2) (dLt x0 x2) (
    pp (.inr x1)
  ) (
    pb (fX1_primeDivides x2 x0) fun v2 =>
    (@ite _ (v2 = 0) (dEq v2 0) (
      pp (.inl (x1, (x2 + 1)))
    ) (
      (@ite _ (x2 = 0) (dEq x2 0) pf (
      pp (.inl (((x1 / x2) * (x2 + (1 : Int32))), (x2 + 1)))))))))
noncomputable def fX1_index_B4 (x0 : Int32) : (Int32 × Int32) → PM ((Int32 × Int32) ⊕ (Int32)) := fun (x : Int32 × Int32) => frI x.1 fun y1 => frI x.2 fun y2 => fX1_index_b4 x0 y1 y2
noncomputable def fX1_index (x0 : Int32) : PM Int32 :=
  pb (plo (fX1_index_B4 x0) fu (x0, (2 : Int32))) fun z5 =>
  pp z5
noncomputable def fX1_orderTwo_b14 (x0 : Int32) (x1 : Int32) (x2 : Int32) : PM ((Int32 × Int32) ⊕ (Int32)) :=
  (@ite _ (x0 < x2) (dLt x0 x2) (
    pp (.inr x1)
  ) (
    pb (fX1_primeDivides x2 x0) fun v3 =>
    (@ite _ (v3 = 0) (dEq v3 0) (
      pp (.inl (x1, (x2 + 1)))
    ) (
      (@ite _ ((x2 - x2 / (4 : Int32) * (4 : Int32)) = (1 : Int32)) (dEq (x2 - x2 / (4 : Int32) * (4 : Int32)) (1 : Int32)) (
        pp (.inl ((x1 * (2 : Int32)), (x2 + 1)))
      ) (
        pp (.inl ((x1 * (0 : Int32)), (x2 + 1)))))))))
noncomputable def fX1_orderTwo_B14 (x0 : Int32) : (Int32 × Int32) → PM ((Int32 × Int32) ⊕ (Int32)) := fun (x : Int32 × Int32) => frI x.1 fun y1 => frI x.2 fun y2 => fX1_orderTwo_b14 x0 y1 y2
noncomputable def fX1_orderTwo (x0 : Int32) : PM Int32 :=
  (@ite _ ((x0 - x0 / (4 : Int32) * (4 : Int32)) = 0) (dEq (x0 - x0 / (4 : Int32) * (4 : Int32)) 0) (
    pb (plo (fX1_orderTwo_B14 x0) fu ((0 : Int32), (3 : Int32))) fun z7 =>
    pp z7
  ) (
    pb (plo (fX1_orderTwo_B14 x0) fu ((1 : Int32), (3 : Int32))) fun z6 =>
    pp z6))
noncomputable def fX1_orderThree_b15 (x0 : Int32) (x1 : Int32) (x2 : Int32) : PM ((Int32 × Int32) ⊕ (Int32)) :=
  (@ite _ (x0 < x2) (dLt x0 x2) (
    pp (.inr x1)
  ) (
    (@ite _ (x2 = (3 : Int32)) (dEq x2 (3 : Int32)) (
      pp (.inl (x1, (x2 + 1)))
    ) (
      pb (fX1_primeDivides x2 x0) fun v4 =>
      (@ite _ (v4 = 0) (dEq v4 0) (
        pp (.inl (x1, (x2 + 1)))
      ) (
        (@ite _ ((x2 - x2 / (3 : Int32) * (3 : Int32)) = (1 : Int32)) (dEq (x2 - x2 / (3 : Int32) * (3 : Int32)) (1 : Int32)) (
          pp (.inl ((x1 * (2 : Int32)), (x2 + 1)))
        ) (
          pp (.inl ((x1 * (0 : Int32)), (x2 + 1)))))))))))
noncomputable def fX1_orderThree_B15 (x0 : Int32) : (Int32 × Int32) → PM ((Int32 × Int32) ⊕ (Int32)) := fun (x : Int32 × Int32) => frI x.1 fun y1 => frI x.2 fun y2 => fX1_orderThree_b15 x0 y1 y2
noncomputable def fX1_orderThree (x0 : Int32) : PM Int32 :=
  (@ite _ ((x0 - x0 / (9 : Int32) * (9 : Int32)) = 0) (dEq (x0 - x0 / (9 : Int32) * (9 : Int32)) 0) (
    pb (plo (fX1_orderThree_B15 x0) fu ((0 : Int32), (2 : Int32))) fun z8 =>
    pp z8
  ) (
    pb (plo (fX1_orderThree_B15 x0) fu ((1 : Int32), (2 : Int32))) fun z7 =>
    pp z7))
noncomputable def fX1_coprimes_b4 (x0 : Int32) (x1 : Int32) (x2 : Int32) : PM ((Int32 × Int32) ⊕ (Int32)) :=
  (@ite _ (x0 < x2) (dLt x0 x2) (
    pp (.inr x1)
  ) (
    pb (fX9_gcd x2 x0) fun v2 =>
    (@ite _ (v2 = (1 : Int32)) (dEq v2 (1 : Int32)) (
      pp (.inl ((x1 + 1), (x2 + 1)))
    ) (
      pp (.inl (x1, (x2 + 1)))))))
noncomputable def fX1_coprimes_B4 (x0 : Int32) : (Int32 × Int32) → PM ((Int32 × Int32) ⊕ (Int32)) := fun (x : Int32 × Int32) => frI x.1 fun y1 => frI x.2 fun y2 => fX1_coprimes_b4 x0 y1 y2
noncomputable def fX1_coprimes (x0 : Int32) : PM Int32 :=
  pb (plo (fX1_coprimes_B4 x0) fu ((0 : Int32), (1 : Int32))) fun z4 =>
  pp z4
noncomputable def fX1_ends_b4 (x0 : Int32) (x1 : Int32) (x2 : Int32) : PM ((Int32 × Int32) ⊕ (Int32)) :=
  (@ite _ (x0 < x2) (dLt x0 x2) (
    pp (.inr x1)
  ) (
    (@ite _ (x2 = 0) (dEq x2 0) pf (
    (@ite _ ((x0 - x0 / x2 * x2) = 0) (dEq (x0 - x0 / x2 * x2) 0) (
      (@ite _ (x2 = 0) (dEq x2 0) pf (
      pb (fX9_gcd x2 (x0 / x2)) fun v5 =>
      pb (fX1_coprimes v5) fun v6 =>
      pp (.inl ((x1 + v6), (x2 + 1)))))
    ) (
      pp (.inl (x1, (x2 + 1)))))))))
noncomputable def fX1_ends_B4 (x0 : Int32) : (Int32 × Int32) → PM ((Int32 × Int32) ⊕ (Int32)) := fun (x : Int32 × Int32) => frI x.1 fun y1 => frI x.2 fun y2 => fX1_ends_b4 x0 y1 y2
noncomputable def fX1_ends (x0 : Int32) : PM Int32 :=
  pb (plo (fX1_ends_B4 x0) fu ((0 : Int32), (1 : Int32))) fun z7 =>
  pp z7
noncomputable def fX1_forms (x0 : Int32) : PM Int32 :=
  pb (fX1_index x0) fun v1 =>
  pb (fX1_orderTwo x0) fun v2 =>
  pb (fX1_orderThree x0) fun v3 =>
  pb (fX1_ends x0) fun v4 =>
  pp ((1 : Int32) + ((((v1 - ((3 : Int32) * v2)) - ((4 : Int32) * v3)) - ((6 : Int32) * v4)) / (12 : Int32)))
noncomputable def fX1_oldForms_b4 (x0 : Nat) (x1 : Int32) (x2 : Int32) (x3 : Int32) : PM ((Int32 × Int32) ⊕ (Int32)) :=
  (@ite _ (x1 ≤ x3) (dLe x1 x3) (
    pp (.inr x2)
  ) (
    (@ite _ (x3 = 0) (dEq x3 0) pf (
    (@ite _ ((x1 - x1 / x3 * x3) = 0) (dEq (x1 - x1 / x3 * x3) 0) (
      pb (gA 1 0 x0) fun v4 =>
      pb (lI 17 v4 x3) fun v5 =>
      (@ite _ (x3 = 0) (dEq x3 0) pf (
      pb (fX1_divisors (x1 / x3)) fun v7 =>
      pp (.inl ((x2 + (v5 * v7)), (x3 + 1)))))
    ) (
      pp (.inl (x2, (x3 + 1)))))))))
noncomputable def fX1_oldForms_B4 (x0 : Nat) (x1 : Int32) : (Int32 × Int32) → PM ((Int32 × Int32) ⊕ (Int32)) := fun (x : Int32 × Int32) => frI x.1 fun y2 => frI x.2 fun y3 => fX1_oldForms_b4 x0 x1 y2 y3
noncomputable def fX1_oldForms (x0 : Nat) (x1 : Int32) : PM Int32 :=
  pb (chk 1 x0) fun _ =>
  pb (plo (fX1_oldForms_B4 x0 x1) fu ((0 : Int32), (1 : Int32))) fun z8 =>
  pp z8
noncomputable def fX1_newForms_b2 (x0 : Nat) (x1 : Int32) (x2 : Int32) : PM ((Int32) ⊕ (Unit)) :=
  (@ite _ (x1 < x2) (dLt x1 x2) (
    pp (.inr ())
  ) (
    (@ite _ (x2 = 0) (dEq x2 0) pf (
    (@ite _ ((x1 - x1 / x2 * x2) = 0) (dEq (x1 - x1 / x2 * x2) 0) (
      pb (gA 1 0 x0) fun v4 =>
      pb (lI 17 v4 x2) fun v5 =>
      (@ite _ (v5 = (-1 : Int32)) (dEq v5 (-1 : Int32)) (
        pb (gA 1 0 x0) fun v7 =>
        pb (fX1_forms x2) fun v8 =>
        pb (fX1_oldForms x0 x2) fun v9 =>
        pb (tI 17 v7 x2 (v8 - v9)) fun _ =>
        pp (.inl (x2 + 1))
      ) (
        pp (.inl (x2 + 1))))
    ) (
      pp (.inl (x2 + 1))))))))
noncomputable def fX1_newForms_B2 (x0 : Nat) (x1 : Int32) : (Int32) → PM ((Int32) ⊕ (Unit)) := fun (x : Int32) => frI x fun y2 => fX1_newForms_b2 x0 x1 y2
noncomputable def fX1_newForms (x0 : Nat) (x1 : Int32) : PM Int32 :=
  pb (chk 1 x0) fun _ =>
  pb (plo (fX1_newForms_B2 x0 x1) fu (1 : Int32)) fun z12 =>
  pb (gA 1 0 x0) fun v13 =>
  pb (lI 17 v13 x1) fun v14 =>
  pp v14
noncomputable def fX9_formula (x0 : Nat) (x1 : Int32) (x2 : Int32) : PM Int32 :=
  pb (chk 8 x0) fun _ =>
  pb (fX9_within x1 (1 : Int32) (60 : Int32)) fun v1 =>
  (@ite _ (v1 = 0) (dEq v1 0) (
    pb (fX9_refuse x0 (-2 : Int32)) fun v19 =>
    pp v19
  ) (
    (@ite _ (x2 = 0) (dEq x2 0) (
      pb (fX1_index x1) fun v4 =>
      pp v4
    ) (@ite _ (x2 = 1) (dEq x2 1) (
      pb (fX1_orderTwo x1) fun v6 =>
      pp v6
    ) (@ite _ (x2 = 2) (dEq x2 2) (
      pb (fX1_orderThree x1) fun v8 =>
      pp v8
    ) (@ite _ (x2 = 3) (dEq x2 3) (
      pb (fX1_ends x1) fun v10 =>
      pp v10
    ) (@ite _ (x2 = 4) (dEq x2 4) (
      pb (fX1_forms x1) fun v12 =>
      pp v12
    ) (@ite _ (x2 = 5) (dEq x2 5) (
      pb (gA 8 5 x0) fun v14 =>
      pb (fX1_newForms v14 x1) fun v15 =>
      pp v15
    ) (pb (fX9_refuse x0 (-2 : Int32)) fun v17 =>
    pp v17)))))))))
noncomputable def fX8_addSymbol_b14 (x0 : Nat) (x1 : Int32) (x2 : Int32) (x3 : Int32) : PM ((Int32) ⊕ (Unit)) :=
  pb (gA 7 0 x0) fun v5 =>
  pb (gI 3 12 v5) fun v6 =>
  (@ite _ (v6 ≤ x3) (dLe v6 x3) (
    pp (.inr ())
  ) (
    pb (gA 7 1 x0) fun v8 =>
    pb (lJ 18 v8 x3) fun v9 =>
    pb (gA 7 0 x0) fun v10 =>
    pb (gA 3 13 v10) fun v11 =>
    pb (lA 23 v11 x1) fun v12 =>
    pb (lI 17 v12 x3) fun v13 =>
    pb (tJ 18 v8 x3 (v9 + (x2.toInt64 * v13.toInt64))) fun _ =>
    pp (.inl (x3 + 1))))
noncomputable def fX8_addSymbol_B14 (x0 : Nat) (x1 : Int32) (x2 : Int32) : (Int32) → PM ((Int32) ⊕ (Unit)) := fun (x : Int32) => frI x fun y3 => fX8_addSymbol_b14 x0 x1 x2 y3
noncomputable def fX8_addSymbol (x0 : Nat) (x1 : Int32) (x2 : Int32) : PM Unit :=
  pb (chk 7 x0) fun _ =>
  pb (gA 7 0 x0) fun v1 =>
  pb (fX3_hasSymbol v1 x1) fun v2 =>
  (@ite _ (v2 = 0) (dEq v2 0) (
    pp ()
  ) (
    pb (plo (fX8_addSymbol_B14 x0 x1 x2) fu (0 : Int32)) fun z15 =>
    pp ()))
noncomputable def fX8_verdict_b4 (x0 : Nat) (x1 : Int32) (x2 : Int32) : PM ((Int32 × Int32) ⊕ (Int32 ⊕ (Int32))) :=
  pb (gA 7 0 x0) fun v1 =>
  pb (gI 3 12 v1) fun v2 =>
  (@ite _ (v2 ≤ x2) (dLe v2 x2) (
    pp (.inr (.inr x1))
  ) (
    pb (gA 7 1 x0) fun v4 =>
    pb (lJ 18 v4 x2) fun v5 =>
    (@ite _ (0 < (lg_cmp v5 (1000000000000 : Int64))) (dcG v5 (1000000000000 : Int64)) (
      pp (.inr (.inl (-3 : Int32)))
    ) (
      pb (gA 7 1 x0) fun v7 =>
      pb (lJ 18 v7 x2) fun v8 =>
      (@ite _ (0 ≤ (lg_cmp v8 (-1000000000000 : Int64))) (dcGE v8 (-1000000000000 : Int64)) (
        pb (gA 7 1 x0) fun v10 =>
        pb (lJ 18 v10 x2) fun v11 =>
        (@ite _ ((lg_cmp v11 (0 : Int64)) = 0) (dcE v11 (0 : Int64)) (
          pp (.inl (x1, (x2 + 1)))
        ) (
          pp (.inl ((x1 + 1), (x2 + 1)))))
      ) (
        pp (.inr (.inl (-3 : Int32)))))))))
noncomputable def fX8_verdict_B4 (x0 : Nat) : (Int32 × Int32) → PM ((Int32 × Int32) ⊕ (Int32 ⊕ (Int32))) := fun (x : Int32 × Int32) => frI x.1 fun y1 => frI x.2 fun y2 => fX8_verdict_b4 x0 y1 y2
noncomputable def fX8_verdict (x0 : Nat) : PM Int32 :=
  pb (chk 7 x0) fun _ =>
  pb (plo (fX8_verdict_B4 x0) fu ((0 : Int32), (0 : Int32))) fun z13 =>
  (match z13 with
  | .inl v13 => pp v13
  | .inr z14 =>
    pp z14)
noncomputable def fX8_addMultiple (x0 : Nat) (x1 : Int32) (x2 : Int32) : PM Int32 :=
  pb (chk 7 x0) fun _ =>
  pb (gA 7 0 x0) fun v1 =>
  pb (fX3_hasSymbol v1 x1) fun v2 =>
  (@ite _ (v2 = 0) (dEq v2 0) (
    pp (-2 : Int32)
  ) (
    pb (fX9_within x2 (-999 : Int32) (999 : Int32)) fun v5 =>
    (@ite _ (v5 = 0) (dEq v5 0) (
      pp (-2 : Int32)
    ) (
      pb (fX8_addSymbol x0 x1 x2) fun _ =>
      pb (fX8_verdict x0) fun v9 =>
      pp v9))))
noncomputable def fX9_adds (x0 : Nat) (x1 : Int32) (x2 : Int32) : PM Int32 :=
  pb (chk 8 x0) fun _ =>
  pb (gA 8 2 x0) fun v1 =>
  pb (gA 8 1 x0) fun v2 =>
  pb (fX8_copyFrom v1 v2) fun _ =>
  pb (gA 8 2 x0) fun v5 =>
  pb (fX8_addMultiple v5 x1 x2) fun v6 =>
  pb (fX9_settle x0 v6) fun v8 =>
  pp v8
noncomputable def fX5_applyTo_b16 (x0 : Nat) (x1 : Nat) (x2 : Int32) (x3 : Int64) (x5 : Int32) : PM ((Int64 × Int32) ⊕ (Int64)) :=
  pb (gA 4 2 x0) fun v4 =>
  pb (aln v4) fun v5 =>
  (@ite _ (v5 ≤ x5) (dLe v5 x5) (
    pp (.inr x3)
  ) (
    pb (gA 4 0 x0) fun v7 =>
    pb (lA 24 v7 x2) fun v8 =>
    pb (lJ 18 v8 x5) fun v9 =>
    pb (lJ 18 x1 x5) fun v10 =>
    pp (.inl ((x3 + (v9 * v10)), (x5 + 1)))))
noncomputable def fX5_applyTo_B16 (x0 : Nat) (x1 : Nat) (x2 : Int32) : (Int64 × Int32) → PM ((Int64 × Int32) ⊕ (Int64)) := fun (x : Int64 × Int32) => frJ x.1 fun y3 => frI x.2 fun y5 => fX5_applyTo_b16 x0 x1 x2 y3 y5
noncomputable def fX5_applyTo_b2 (x0 : Nat) (x1 : Nat) (x2 : Int32) : PM ((Int32) ⊕ (Unit)) :=
  pb (gA 4 2 x0) fun v1 =>
  pb (aln v1) fun v2 =>
  (@ite _ (v2 ≤ x2) (dLe v2 x2) (
    pp (.inr ())
  ) (
    pb (plo (fX5_applyTo_B16 x0 x1 x2) fu ((0 : Int64), (0 : Int32))) fun z11 =>
    pb (gA 4 2 x0) fun v12 =>
    pb (tJ 18 v12 x2 z11) fun _ =>
    pp (.inl (x2 + 1))))
noncomputable def fX5_applyTo_B2 (x0 : Nat) (x1 : Nat) : (Int32) → PM ((Int32) ⊕ (Unit)) := fun (x : Int32) => frI x fun y2 => fX5_applyTo_b2 x0 x1 y2
noncomputable def fX5_applyTo (x0 : Nat) (x1 : Nat) : PM Unit :=
  pb (chk 4 x0) fun _ =>
  pb (plo (fX5_applyTo_B2 x0 x1) fu (0 : Int32)) fun z14 =>
  pb (gA 4 2 x0) fun v15 =>
  pb (gA 4 2 x0) fun v16 =>
  pb (aln v16) fun v17 =>
  pb (acp v15 (0 : Int32) x1 (0 : Int32) v17) fun _ =>
  pp ()
noncomputable def fX8_applyOperator (x0 : Nat) (x1 : Int32) : PM Int32 :=
  pb (chk 7 x0) fun _ =>
  pb (fX9_within x1 (1 : Int32) (7 : Int32)) fun v1 =>
  (@ite _ (v1 = 0) (dEq v1 0) (
    pp (-2 : Int32)
  ) (
    pb (gA 7 0 x0) fun v3 =>
    pb (fX3_operatorFor v3 x1) fun v4 =>
    (match v4 with
    | none => pp (-3 : Int32)
    | some a6 => pb (gA 7 1 x0) fun v7 =>
      pb (fX5_applyTo a6 v7) fun _ =>
      pb (fX8_verdict x0) fun v10 =>
      pp v10)))
noncomputable def fX9_applies (x0 : Nat) (x1 : Int32) : PM Int32 :=
  pb (chk 8 x0) fun _ =>
  pb (gA 8 2 x0) fun v1 =>
  pb (gA 8 1 x0) fun v2 =>
  pb (fX8_copyFrom v1 v2) fun _ =>
  pb (gA 8 2 x0) fun v5 =>
  pb (fX8_applyOperator v5 x1) fun v6 =>
  pb (fX9_settle x0 v6) fun v8 =>
  pp v8
noncomputable def fX8_addPath_b52 (x0 : Nat) (x3 : Int32) (x4 : Int32) (x5 : Int32) (x6 : Int32) (x7 : Int32) : PM ((Int32 × Int32 × Int32 × Int32 × Int32) ⊕ (Unit)) :=
  (@ite _ ((64 : Int32) ≤ x7) (dLe (64 : Int32) x7) (
    pp (.inr ())
  ) (
    (@ite _ (x6 = 0) (dEq x6 0) (
      pp (.inr ())
    ) (
      (@ite _ (x6 = 0) (dEq x6 0) pf (
      (@ite _ (x6 = 0) (dEq x6 0) pf (
      pb (gA 7 0 x0) fun v14 =>
      (@ite _ ((x7 - x7 / (2 : Int32) * (2 : Int32)) = 0) (dEq (x7 - x7 / (2 : Int32) * (2 : Int32)) 0) (
        pb (fX3_find v14 (-(((x5 / x6) * x3) + x4)) x3) fun v20 =>
        pb (fX8_addSymbol x0 v20 (1 : Int32)) fun _ =>
        pp (.inl ((((x5 / x6) * x3) + x4), x3, x6, (x5 - x5 / x6 * x6), (x7 + 1)))
      ) (
        pb (fX3_find v14 (((x5 / x6) * x3) + x4) x3) fun v16 =>
        pb (fX8_addSymbol x0 v16 (1 : Int32)) fun _ =>
        pp (.inl ((((x5 / x6) * x3) + x4), x3, x6, (x5 - x5 / x6 * x6), (x7 + 1)))))))))))))
noncomputable def fX8_addPath_B52 (x0 : Nat) : (Int32 × Int32 × Int32 × Int32 × Int32) → PM ((Int32 × Int32 × Int32 × Int32 × Int32) ⊕ (Unit)) := fun (x : Int32 × Int32 × Int32 × Int32 × Int32) => frI x.1 fun y3 => frI x.2.1 fun y4 => frI x.2.2.1 fun y5 => frI x.2.2.2.1 fun y6 => frI x.2.2.2.2 fun y7 => fX8_addPath_b52 x0 y3 y4 y5 y6 y7
noncomputable def fX8_addPath (x0 : Nat) (x1 : Int32) (x2 : Int32) : PM Int32 :=
  pb (chk 7 x0) fun _ =>
  pb (fX9_within x1 (0 : Int32) (99 : Int32)) fun v1 =>
  (@ite _ (v1 = 0) (dEq v1 0) (
    pp (-2 : Int32)
  ) (
    pb (fX9_within x2 (1 : Int32) (99 : Int32)) fun v3 =>
    (@ite _ (v3 = 0) (dEq v3 0) (
      pp (-2 : Int32)
    ) (
      pb (gA 7 0 x0) fun v5 =>
      pb (fX3_find v5 (0 : Int32) (1 : Int32)) fun v6 =>
      pb (fX8_addSymbol x0 v6 (1 : Int32)) fun _ =>
      pb (plo (fX8_addPath_B52 x0) fu ((0 : Int32), (1 : Int32), x1, x2, (0 : Int32))) fun z24 =>
      pb (fX8_verdict x0) fun v25 =>
      pp v25))))
noncomputable def fX9_walks (x0 : Nat) (x1 : Int32) (x2 : Int32) : PM Int32 :=
  pb (chk 8 x0) fun _ =>
  pb (gA 8 2 x0) fun v1 =>
  pb (gA 8 1 x0) fun v2 =>
  pb (fX8_copyFrom v1 v2) fun _ =>
  pb (gA 8 2 x0) fun v5 =>
  pb (fX8_addPath v5 x1 x2) fun v6 =>
  pb (fX9_settle x0 v6) fun v8 =>
  pp v8
noncomputable def fX9_sum (x0 : Nat) (x1 : Int32) (x2 : Int32) : PM Int64 :=
  pb (chk 8 x0) fun _ =>
  pb (gA 8 1 x0) fun v1 =>
  pb (gA 7 0 v1) fun v2 =>
  pb (fX3_hasCoordinate v2 x1) fun v3 =>
  (@ite _ (v3 = 0) (dEq v3 0) (
    pb (fX9_refuse x0 (-2 : Int32)) fun v6 =>
    pp (-9223372036854775808 : Int64)
  ) (
    pb (fX9_within x2 (0 : Int32) (1 : Int32)) fun v8 =>
    (@ite _ (v8 = 0) (dEq v8 0) (
      pb (fX9_refuse x0 (-2 : Int32)) fun v14 =>
      pp (-9223372036854775808 : Int64)
    ) (
      (@ite _ (x2 = 0) (dEq x2 0) (
        pb (gA 8 1 x0) fun v11 =>
        pb (gA 7 1 v11) fun v12 =>
        pb (lJ 18 v12 x1) fun v13 =>
        pp v13
      ) (
        pp (1 : Int64)))))))
noncomputable def fX8_boundaryAt_b5 (x0 : Nat) (x1 : Int32) (x2 : Int64) (x4 : Int32) : PM ((Int64 × Int32) ⊕ (Int64)) :=
  pb (gA 7 0 x0) fun v1 =>
  pb (gI 3 12 v1) fun v2 =>
  (@ite _ (v2 ≤ x4) (dLe v2 x4) (
    pp (.inr x2)
  ) (
    pb (gA 7 1 x0) fun v4 =>
    pb (lJ 18 v4 x4) fun v5 =>
    pb (gA 7 0 x0) fun v6 =>
    pb (fX3_edge v6 x4 x1) fun v7 =>
    pp (.inl ((x2 + (v5 * v7.toInt64)), (x4 + 1)))))
noncomputable def fX8_boundaryAt_B5 (x0 : Nat) (x1 : Int32) : (Int64 × Int32) → PM ((Int64 × Int32) ⊕ (Int64)) := fun (x : Int64 × Int32) => frJ x.1 fun y2 => frI x.2 fun y4 => fX8_boundaryAt_b5 x0 x1 y2 y4
noncomputable def fX8_boundaryAt (x0 : Nat) (x1 : Int32) : PM Int64 :=
  pb (chk 7 x0) fun _ =>
  pb (plo (fX8_boundaryAt_B5 x0 x1) fu ((0 : Int64), (0 : Int32))) fun z9 =>
  pp z9
noncomputable def fX9_boundary (x0 : Nat) (x1 : Int32) (x2 : Int32) : PM Int64 :=
  pb (chk 8 x0) fun _ =>
  pb (gA 8 1 x0) fun v1 =>
  pb (gA 7 0 v1) fun v2 =>
  pb (gI 3 9 v2) fun v3 =>
  pb (fX9_within x1 (0 : Int32) (v3 - (1 : Int32))) fun v4 =>
  (@ite _ (v4 = 0) (dEq v4 0) (
    pb (fX9_refuse x0 (-2 : Int32)) fun v6 =>
    pp (-9223372036854775808 : Int64)
  ) (
    pb (fX9_within x2 (0 : Int32) (1 : Int32)) fun v8 =>
    (@ite _ (v8 = 0) (dEq v8 0) (
      pb (fX9_refuse x0 (-2 : Int32)) fun v14 =>
      pp (-9223372036854775808 : Int64)
    ) (
      (@ite _ (x2 = 0) (dEq x2 0) (
        pb (gA 8 1 x0) fun v11 =>
        pb (fX8_boundaryAt v11 x1) fun v12 =>
        pp v12
      ) (
        pp (1 : Int64)))))))
noncomputable def fX9_cuspidal_b2 (x0 : Nat) (x1 : Int32) : PM ((Int32) ⊕ (Int32 ⊕ (Unit))) :=
  pb (gA 8 1 x0) fun v1 =>
  pb (gA 7 0 v1) fun v2 =>
  pb (gI 3 9 v2) fun v3 =>
  (@ite _ (v3 ≤ x1) (dLe v3 x1) (
    pp (.inr (.inr ()))
  ) (
    pb (gA 8 1 x0) fun v5 =>
    pb (fX8_boundaryAt v5 x1) fun v6 =>
    (@ite _ ((lg_cmp v6 (0 : Int64)) = 0) (dcE v6 (0 : Int64)) (
      pp (.inl (x1 + 1))
    ) (
      pp (.inr (.inl (0 : Int32)))))))
noncomputable def fX9_cuspidal_B2 (x0 : Nat) : (Int32) → PM ((Int32) ⊕ (Int32 ⊕ (Unit))) := fun (x : Int32) => frI x fun y1 => fX9_cuspidal_b2 x0 y1
noncomputable def fX9_cuspidal (x0 : Nat) : PM Int32 :=
  pb (chk 8 x0) fun _ =>
  pb (plo (fX9_cuspidal_B2 x0) fu (0 : Int32)) fun z9 =>
  (match z9 with
  | .inl v9 => pp v9
  | .inr z10 =>
    pp (1 : Int32))
noncomputable def fX7_append (x0 : Nat) (x1 : Int32) : PM Int32 :=
  pb (chk 6 x0) fun _ =>
  pb (gI 6 1 x0) fun v1 =>
  (@ite _ (v1 < (120 : Int32)) (dLt v1 (120 : Int32)) (
    pb (gA 6 0 x0) fun v3 =>
    pb (gI 6 1 x0) fun v4 =>
    pb (tI 16 v3 v4 x1.toInt8.toInt32) fun _ =>
    pb (gI 6 1 x0) fun v6 =>
    pb (sI 6 1 x0 (v6 + (1 : Int32))) fun _ =>
    pp (1 : Int32)
  ) (
    pp (0 : Int32)))
noncomputable def fX9_type (x0 : Nat) (x1 : Int32) : PM Int32 :=
  pb (chk 8 x0) fun _ =>
  pb (fX9_within x1 (0 : Int32) (127 : Int32)) fun v1 =>
  (@ite _ (v1 = 0) (dEq v1 0) (
    pb (fX9_refuse x0 (-2 : Int32)) fun v11 =>
    pp v11
  ) (
    pb (gA 8 4 x0) fun v3 =>
    pb (fX7_append v3 x1) fun v4 =>
    (@ite _ (v4 = 0) (dEq v4 0) (
      pb (fX9_refuse x0 (-4 : Int32)) fun v9 =>
      pp v9
    ) (
      pb (gA 8 4 x0) fun v7 =>
      pb (gI 6 1 v7) fun v8 =>
      pp v8))))
noncomputable def fX9_clear (x0 : Nat) : PM Int32 :=
  pb (chk 8 x0) fun _ =>
  pb (gA 8 4 x0) fun v1 =>
  pb (gI 6 1 v1) fun v2 =>
  pb (gA 8 4 x0) fun v3 =>
  pb (sI 6 1 v3 (0 : Int32)) fun _ =>
  pp v2
noncomputable def fX7_byteHere (x0 : Nat) : PM Int32 :=
  pb (chk 6 x0) fun _ =>
  pb (gI 6 6 x0) fun v1 =>
  pb (gI 6 1 x0) fun v2 =>
  (@ite _ (v2 ≤ v1) (dLe v2 v1) (
    pp (-1 : Int32)
  ) (
    pb (gI 6 6 x0) fun v4 =>
    (@ite _ ((120 : Int32) ≤ v4) (dLe (120 : Int32) v4) (
      pp (-1 : Int32)
    ) (
      pb (gA 6 0 x0) fun v6 =>
      pb (gI 6 6 x0) fun v7 =>
      pb (lI 16 v6 v7) fun v8 =>
      pp v8))))
noncomputable def fX7_skipBlanks_b0 (x0 : Nat)  : PM ((Unit) ⊕ (Unit)) :=
  pb (gI 6 6 x0) fun v1 =>
  pb (gI 6 1 x0) fun v2 =>
  (@ite _ (v2 ≤ v1) (dLe v2 v1) (
    pp (.inr ())
  ) (
    pb (fX7_byteHere x0) fun v4 =>
    (@ite _ (v4 = (32 : Int32)) (dEq v4 (32 : Int32)) (
      pb (gI 6 6 x0) fun v7 =>
      pb (sI 6 6 x0 (v7 + (1 : Int32))) fun _ =>
      pp (.inl ())
    ) (
      pp (.inr ())))))
noncomputable def fX7_skipBlanks_B0 (x0 : Nat) : (Unit) → PM ((Unit) ⊕ (Unit)) := fun (_ : Unit) => fX7_skipBlanks_b0 x0 
noncomputable def fX7_skipBlanks (x0 : Nat) : PM Unit :=
  pb (chk 6 x0) fun _ =>
  pb (plo (fX7_skipBlanks_B0 x0) fu ()) fun z9 =>
  pp ()
noncomputable def fX7_numbersOf (x0 : Int32) : PM Int32 :=
  (@ite _ (x0 = 43) (dEq x0 43) (
    pp (2 : Int32)
  ) (@ite _ (x0 = 110) (dEq x0 110) (
    pp (1 : Int32)
  ) (@ite _ (x0 = 116) (dEq x0 116) (
    pp (1 : Int32)
  ) (@ite _ (x0 = 119) (dEq x0 119) (
    pp (2 : Int32)
  ) (@ite _ (x0 = 122) (dEq x0 122) (
    pp (0 : Int32)
  ) (pp (-1 : Int32)))))))
noncomputable def fX7_digitHere (x0 : Nat) : PM Int32 :=
  pb (chk 6 x0) fun _ =>
  pb (fX7_byteHere x0) fun v1 =>
  pb (fX9_within v1 (48 : Int32) (57 : Int32)) fun v3 =>
  pb (pz v3) fun _ =>
  pp v3
noncomputable def fX7_parseNumber_b42 (x0 : Nat) (x2 : Int32) (x3 : Int32) (x4 : Int32) : PM ((Int32 × Int32) ⊕ (Int32 × Int32)) :=
  (@ite _ ((3 : Int32) ≤ x4) (dLe (3 : Int32) x4) (
    pp (.inr (x3, x4))
  ) (
    pb (fX7_digitHere x0) fun v6 =>
    (@ite _ (v6 = 0) (dEq v6 0) (
      pp (.inr (x3, x4))
    ) (
      pb (fX7_byteHere x0) fun v9 =>
      pb (gI 6 6 x0) fun v11 =>
      pb (sI 6 6 x0 (v11 + (1 : Int32))) fun _ =>
      pp (.inl (((((10 : Int32) * x3) + v9) - (48 : Int32)), (x4 + 1)))))))
noncomputable def fX7_parseNumber_B42 (x0 : Nat) (x2 : Int32) : (Int32 × Int32) → PM ((Int32 × Int32) ⊕ (Int32 × Int32)) := fun (x : Int32 × Int32) => frI x.1 fun y3 => frI x.2 fun y4 => fX7_parseNumber_b42 x0 x2 y3 y4
noncomputable def fX7_parseNumber (x0 : Nat) (x1 : Int32) : PM Int32 :=
  pb (chk 6 x0) fun _ =>
  pb (fX7_skipBlanks x0) fun _ =>
  (@ite _ (x1 = 0) (dEq x1 0) (
    pb (plo (fX7_parseNumber_B42 x0 (0 : Int32)) fu ((0 : Int32), (0 : Int32))) fun z13 =>
    pb (sI 6 7 x0 z13.1) fun _ =>
    (@ite _ (z13.2 ≤ 0) (dLe z13.2 0) (
      pp (0 : Int32)
    ) (
      pb (fX7_digitHere x0) fun v17 =>
      (@ite _ (v17 = 0) (dEq v17 0) (
        pp (1 : Int32)
      ) (
        pp (0 : Int32)))))
  ) (
    pb (fX7_byteHere x0) fun v20 =>
    (@ite _ (v20 = (45 : Int32)) (dEq v20 (45 : Int32)) (
      pb (gI 6 6 x0) fun v32 =>
      pb (sI 6 6 x0 (v32 + (1 : Int32))) fun _ =>
      pb (plo (fX7_parseNumber_B42 x0 (1 : Int32)) fu ((0 : Int32), (0 : Int32))) fun z34 =>
      pb (sI 6 7 x0 (-z34.1)) fun _ =>
      (@ite _ (z34.2 ≤ 0) (dLe z34.2 0) (
        pp (0 : Int32)
      ) (
        pb (fX7_digitHere x0) fun v38 =>
        (@ite _ (v38 = 0) (dEq v38 0) (
          pp (1 : Int32)
        ) (
          pp (0 : Int32)))))
    ) (
      pb (plo (fX7_parseNumber_B42 x0 (0 : Int32)) fu ((0 : Int32), (0 : Int32))) fun z24 =>
      pb (sI 6 7 x0 z24.1) fun _ =>
      (@ite _ (z24.2 ≤ 0) (dLe z24.2 0) (
        pp (0 : Int32)
      ) (
        pb (fX7_digitHere x0) fun v28 =>
        (@ite _ (v28 = 0) (dEq v28 0) (
          pp (1 : Int32)
        ) (
          pp (0 : Int32)))))))))
noncomputable def fX7_parseCommand (x0 : Nat) : PM Int32 :=
  pb (chk 6 x0) fun _ =>
  pb (fX7_byteHere x0) fun v1 =>
  pb (fX7_numbersOf v1) fun v3 =>
  (@ite _ (v3 = (-1 : Int32)) (dEq v3 (-1 : Int32)) (
    pp (0 : Int32)
  ) (
    pb (gI 6 5 x0) fun v5 =>
    (@ite _ (v5 < (60 : Int32)) (dLt v5 (60 : Int32)) (
      pb (gI 6 6 x0) fun v7 =>
      pb (sI 6 6 x0 (v7 + (1 : Int32))) fun _ =>
      pb (gA 6 2 x0) fun v9 =>
      pb (gI 6 5 x0) fun v10 =>
      pb (tI 17 v9 v10 v1) fun _ =>
      (@ite _ (v3 ≤ 0) (dLe v3 0) (
        (@ite _ (v3 ≤ (1 : Int32)) (dLe v3 (1 : Int32)) (
          pb (fX7_skipBlanks x0) fun _ =>
          pb (fX7_byteHere x0) fun v16 =>
          (@ite _ (v16 = (59 : Int32)) (dEq v16 (59 : Int32)) (
            pb (gI 6 6 x0) fun v19 =>
            pb (sI 6 6 x0 (v19 + (1 : Int32))) fun _ =>
            pb (gI 6 5 x0) fun v21 =>
            pb (sI 6 5 x0 (v21 + (1 : Int32))) fun _ =>
            pp (1 : Int32)
          ) (
            pp (0 : Int32)))
        ) (
          pb (fX7_parseNumber x0 (0 : Int32)) fun v23 =>
          (@ite _ (v23 = 0) (dEq v23 0) (
            pp (0 : Int32)
          ) (
            pb (gA 6 4 x0) fun v26 =>
            pb (gI 6 5 x0) fun v27 =>
            pb (gI 6 7 x0) fun v28 =>
            pb (tI 17 v26 v27 v28) fun _ =>
            pb (fX7_skipBlanks x0) fun _ =>
            pb (fX7_byteHere x0) fun v32 =>
            (@ite _ (v32 = (59 : Int32)) (dEq v32 (59 : Int32)) (
              pb (gI 6 6 x0) fun v35 =>
              pb (sI 6 6 x0 (v35 + (1 : Int32))) fun _ =>
              pb (gI 6 5 x0) fun v37 =>
              pb (sI 6 5 x0 (v37 + (1 : Int32))) fun _ =>
              pp (1 : Int32)
            ) (
              pp (0 : Int32)))))))
      ) (
        (@ite _ (v1 = (43 : Int32)) (dEq v1 (43 : Int32)) (
          pb (fX7_parseNumber x0 (1 : Int32)) fun v73 =>
          (@ite _ (v73 = 0) (dEq v73 0) (
            pp (0 : Int32)
          ) (
            pb (gA 6 3 x0) fun v76 =>
            pb (gI 6 5 x0) fun v77 =>
            pb (gI 6 7 x0) fun v78 =>
            pb (tI 17 v76 v77 v78) fun _ =>
            (@ite _ (v3 ≤ (1 : Int32)) (dLe v3 (1 : Int32)) (
              pb (fX7_skipBlanks x0) fun _ =>
              pb (fX7_byteHere x0) fun v83 =>
              (@ite _ (v83 = (59 : Int32)) (dEq v83 (59 : Int32)) (
                pb (gI 6 6 x0) fun v86 =>
                pb (sI 6 6 x0 (v86 + (1 : Int32))) fun _ =>
                pb (gI 6 5 x0) fun v88 =>
                pb (sI 6 5 x0 (v88 + (1 : Int32))) fun _ =>
                pp (1 : Int32)
              ) (
                pp (0 : Int32)))
            ) (
              pb (fX7_parseNumber x0 (0 : Int32)) fun v90 =>
              (@ite _ (v90 = 0) (dEq v90 0) (
                pp (0 : Int32)
              ) (
                pb (gA 6 4 x0) fun v93 =>
                pb (gI 6 5 x0) fun v94 =>
                pb (gI 6 7 x0) fun v95 =>
                pb (tI 17 v93 v94 v95) fun _ =>
                pb (fX7_skipBlanks x0) fun _ =>
                pb (fX7_byteHere x0) fun v99 =>
                (@ite _ (v99 = (59 : Int32)) (dEq v99 (59 : Int32)) (
                  pb (gI 6 6 x0) fun v102 =>
                  pb (sI 6 6 x0 (v102 + (1 : Int32))) fun _ =>
                  pb (gI 6 5 x0) fun v104 =>
                  pb (sI 6 5 x0 (v104 + (1 : Int32))) fun _ =>
                  pp (1 : Int32)
                ) (
                  pp (0 : Int32)))))))))
        ) (
          pb (fX7_parseNumber x0 (0 : Int32)) fun v40 =>
          (@ite _ (v40 = 0) (dEq v40 0) (
            pp (0 : Int32)
          ) (
            pb (gA 6 3 x0) fun v43 =>
            pb (gI 6 5 x0) fun v44 =>
            pb (gI 6 7 x0) fun v45 =>
            pb (tI 17 v43 v44 v45) fun _ =>
            (@ite _ (v3 ≤ (1 : Int32)) (dLe v3 (1 : Int32)) (
              pb (fX7_skipBlanks x0) fun _ =>
              pb (fX7_byteHere x0) fun v50 =>
              (@ite _ (v50 = (59 : Int32)) (dEq v50 (59 : Int32)) (
                pb (gI 6 6 x0) fun v53 =>
                pb (sI 6 6 x0 (v53 + (1 : Int32))) fun _ =>
                pb (gI 6 5 x0) fun v55 =>
                pb (sI 6 5 x0 (v55 + (1 : Int32))) fun _ =>
                pp (1 : Int32)
              ) (
                pp (0 : Int32)))
            ) (
              pb (fX7_parseNumber x0 (0 : Int32)) fun v57 =>
              (@ite _ (v57 = 0) (dEq v57 0) (
                pp (0 : Int32)
              ) (
                pb (gA 6 4 x0) fun v60 =>
                pb (gI 6 5 x0) fun v61 =>
                pb (gI 6 7 x0) fun v62 =>
                pb (tI 17 v60 v61 v62) fun _ =>
                pb (fX7_skipBlanks x0) fun _ =>
                pb (fX7_byteHere x0) fun v66 =>
                (@ite _ (v66 = (59 : Int32)) (dEq v66 (59 : Int32)) (
                  pb (gI 6 6 x0) fun v69 =>
                  pb (sI 6 6 x0 (v69 + (1 : Int32))) fun _ =>
                  pb (gI 6 5 x0) fun v71 =>
                  pb (sI 6 5 x0 (v71 + (1 : Int32))) fun _ =>
                  pp (1 : Int32)
                ) (
                  pp (0 : Int32)))))))))))))
    ) (
      pp (0 : Int32)))))
noncomputable def fX7_parse_b32 (x0 : Nat) (x1 : Int32) : PM ((Int32) ⊕ (Int32 ⊕ (Unit))) :=
  (@ite _ ((60 : Int32) ≤ x1) (dLe (60 : Int32) x1) (
    pp (.inr (.inr ()))
  ) (
    pb (gI 6 6 x0) fun v9 =>
    pb (gI 6 1 x0) fun v10 =>
    (@ite _ (v10 ≤ v9) (dLe v10 v9) (
      pp (.inr (.inr ()))
    ) (
      pb (fX7_parseCommand x0) fun v12 =>
      (@ite _ (v12 = 0) (dEq v12 0) (
        pb (gI 6 6 x0) fun v17 =>
        pp (.inr (.inl v17))
      ) (
        pb (fX7_skipBlanks x0) fun _ =>
        pp (.inl (x1 + 1))))))))
noncomputable def fX7_parse_B32 (x0 : Nat) : (Int32) → PM ((Int32) ⊕ (Int32 ⊕ (Unit))) := fun (x : Int32) => frI x fun y1 => fX7_parse_b32 x0 y1
noncomputable def fX7_parse (x0 : Nat) : PM Int32 :=
  pb (chk 6 x0) fun _ =>
  pb (sI 6 5 x0 (0 : Int32)) fun _ =>
  pb (sI 6 6 x0 (0 : Int32)) fun _ =>
  pb (fX7_skipBlanks x0) fun _ =>
  pb (gI 6 6 x0) fun v5 =>
  pb (gI 6 1 x0) fun v6 =>
  (@ite _ (v5 = v6) (dEq v5 v6) (
    pb (gI 6 6 x0) fun v20 =>
    pp v20
  ) (
    pb (plo (fX7_parse_B32 x0) fu (0 : Int32)) fun z18 =>
    (match z18 with
    | .inl v18 => pp v18
    | .inr z19 =>
      pp (-1 : Int32))))
noncomputable def fX9_perform (x0 : Nat) (x1 : Int32) : PM Int32 :=
  pb (chk 8 x0) fun _ =>
  pb (gA 8 4 x0) fun v1 =>
  pb (gA 6 3 v1) fun v2 =>
  pb (lI 17 v2 x1) fun v3 =>
  pb (gA 8 4 x0) fun v4 =>
  pb (gA 6 4 v4) fun v5 =>
  pb (lI 17 v5 x1) fun v6 =>
  pb (gA 8 4 x0) fun v7 =>
  pb (gA 6 2 v7) fun v8 =>
  pb (lI 17 v8 x1) fun v9 =>
  (@ite _ (v9 = 43) (dEq v9 43) (
    pb (gA 8 2 x0) fun v11 =>
    pb (fX8_addMultiple v11 v6 v3) fun v12 =>
    pp v12
  ) (@ite _ (v9 = 110) (dEq v9 110) (
    pb (fX9_enter x0 v3) fun v15 =>
    pp v15
  ) (@ite _ (v9 = 116) (dEq v9 116) (
    pb (gA 8 2 x0) fun v18 =>
    pb (fX8_applyOperator v18 v3) fun v19 =>
    pp v19
  ) (@ite _ (v9 = 119) (dEq v9 119) (
    pb (gA 8 2 x0) fun v22 =>
    pb (fX8_addPath v22 v3 v6) fun v23 =>
    pp v23
  ) (pb (gA 8 2 x0) fun v25 =>
  pb (fX8_becomeZero v25) fun v26 =>
  pp v26)))))
noncomputable def fX9_reads_b31 (x0 : Nat) (x2 : Int32) : PM ((Int32) ⊕ (Int32 ⊕ (Unit))) :=
  pb (gA 8 4 x0) fun v9 =>
  pb (gI 6 5 v9) fun v10 =>
  (@ite _ (v10 ≤ x2) (dLe v10 x2) (
    pp (.inr (.inr ()))
  ) (
    pb (fX9_perform x0 x2) fun v12 =>
    (@ite _ (0 ≤ v12) (dLe 0 v12) (
      pp (.inl (x2 + 1))
    ) (
      pp (.inr (.inl ((-1000 : Int32) - x2)))))))
noncomputable def fX9_reads_B31 (x0 : Nat) : (Int32) → PM ((Int32) ⊕ (Int32 ⊕ (Unit))) := fun (x : Int32) => frI x fun y2 => fX9_reads_b31 x0 y2
noncomputable def fX9_reads (x0 : Nat) : PM Int32 :=
  pb (chk 8 x0) fun _ =>
  pb (gA 8 4 x0) fun v1 =>
  pb (fX7_parse v1) fun v2 =>
  (@ite _ (v2 = (-1 : Int32)) (dEq v2 (-1 : Int32)) (
    pb (gA 8 2 x0) fun v5 =>
    pb (gA 8 1 x0) fun v6 =>
    pb (fX8_copyFrom v5 v6) fun _ =>
    pb (plo (fX9_reads_B31 x0) fu (0 : Int32)) fun z15 =>
    (match z15 with
    | .inl v15 => pp v15
    | .inr z16 =>
      pb (gA 8 4 x0) fun v17 =>
      pb (gI 6 5 v17) fun v18 =>
      pb (fX9_settle x0 v18) fun v19 =>
      pp v19)
  ) (
    pp ((-10 : Int32) - v2)))
noncomputable def fX2_restore (x0 : Nat) (x1 : Nat) : PM Unit :=
  pb (chk 2 x0) fun _ =>
  pb (gI 2 1 x0) fun v1 =>
  (@ite _ (v1 ≤ 0) (dLe v1 0) (
    pp ()
  ) (
    pb (gI 2 1 x0) fun v3 =>
    pb (sI 2 1 x0 (v3 - (1 : Int32))) fun _ =>
    pb (gA 2 0 x0) fun v5 =>
    pb (gI 2 1 x0) fun v6 =>
    pb (lA 22 v5 v6) fun v7 =>
    pb (fX8_copyFrom x1 v7) fun _ =>
    pp ()))
noncomputable def fX9_back (x0 : Nat) : PM Int32 :=
  pb (chk 8 x0) fun _ =>
  pb (gA 8 3 x0) fun v1 =>
  pb (gI 2 1 v1) fun v2 =>
  (@ite _ (v2 = 0) (dEq v2 0) (
    pb (fX9_refuse x0 (-3 : Int32)) fun v10 =>
    pp v10
  ) (
    pb (gA 8 3 x0) fun v4 =>
    pb (gA 8 1 x0) fun v5 =>
    pb (fX2_restore v4 v5) fun _ =>
    pb (gA 8 3 x0) fun v8 =>
    pb (gI 2 1 v8) fun v9 =>
    pp v9))
noncomputable def fX9_told (x0 : Nat) (x1 : Int32) : PM Int32 :=
  pb (chk 8 x0) fun _ =>
  (@ite _ (x1 = 0) (dEq x1 0) (
    pb (gI 8 6 x0) fun v2 =>
    pp v2
  ) (@ite _ (x1 = 1) (dEq x1 1) (
    pb (gI 8 7 x0) fun v4 =>
    pp v4
  ) (@ite _ (x1 = 2) (dEq x1 2) (
    pb (gI 8 8 x0) fun v6 =>
    pp v6
  ) (@ite _ (x1 = 3) (dEq x1 3) (
    pb (gA 8 4 x0) fun v8 =>
    pb (gI 6 1 v8) fun v9 =>
    pp v9
  ) (@ite _ (x1 = 4) (dEq x1 4) (
    pb (gA 8 1 x0) fun v11 =>
    pb (gA 7 0 v11) fun v12 =>
    pb (gI 3 0 v12) fun v13 =>
    pp v13
  ) (@ite _ (x1 = 5) (dEq x1 5) (
    pb (gA 8 3 x0) fun v15 =>
    pb (gI 2 1 v15) fun v16 =>
    pp v16
  ) (pb (fX9_refuse x0 (-2 : Int32)) fun v17 =>
  pp v17)))))))
noncomputable def fX9_digest_b6 (x0 : Nat) (x1 : Int64) (x3 : Int32) : PM ((Int64 × Int32) ⊕ (Int64)) :=
  (@ite _ ((5 : Int32) < x3) (dLt (5 : Int32) x3) (
    pp (.inr x1)
  ) (
    pb (fX9_told x0 x3) fun v2 =>
    pp (.inl ((((31 : Int64) * x1) + v2.toInt64), (x3 + 1)))))
noncomputable def fX9_digest_B6 (x0 : Nat) : (Int64 × Int32) → PM ((Int64 × Int32) ⊕ (Int64)) := fun (x : Int64 × Int32) => frJ x.1 fun y1 => frI x.2 fun y3 => fX9_digest_b6 x0 y1 y3
noncomputable def fX9_digest_b44 (x0 : Nat) (x1 : Int64) (x3 : Int32) : PM ((Int64 × Int32) ⊕ (Int64)) :=
  (@ite _ ((2 : Int32) < x3) (dLt (2 : Int32) x3) (
    pp (.inr x1)
  ) (
    pb (fX9_space x0 x3) fun v8 =>
    pp (.inl ((((31 : Int64) * x1) + v8.toInt64), (x3 + 1)))))
noncomputable def fX9_digest_B44 (x0 : Nat) : (Int64 × Int32) → PM ((Int64 × Int32) ⊕ (Int64)) := fun (x : Int64 × Int32) => frJ x.1 fun y1 => frI x.2 fun y3 => fX9_digest_b44 x0 y1 y3
noncomputable def fX9_digest_b70 (x0 : Nat) (x1 : Int64) (x3 : Int32) : PM ((Int64 × Int32) ⊕ (Int64)) :=
  pb (gA 8 1 x0) fun v11 =>
  pb (gA 7 0 v11) fun v12 =>
  pb (gI 3 12 v12) fun v13 =>
  (@ite _ (v13 ≤ x3) (dLe v13 x3) (
    pp (.inr x1)
  ) (
    pb (fX9_sum x0 x3 (0 : Int32)) fun v15 =>
    pb (fX9_sum x0 x3 (1 : Int32)) fun v17 =>
    pp (.inl ((((31 : Int64) * (((31 : Int64) * x1) + v15)) + v17), (x3 + 1)))))
noncomputable def fX9_digest_B70 (x0 : Nat) : (Int64 × Int32) → PM ((Int64 × Int32) ⊕ (Int64)) := fun (x : Int64 × Int32) => frJ x.1 fun y1 => frI x.2 fun y3 => fX9_digest_b70 x0 y1 y3
noncomputable def fX9_digest (x0 : Nat) : PM Int64 :=
  pb (chk 8 x0) fun _ =>
  pb (plo (fX9_digest_B6 x0) fu ((2297 : Int64), (0 : Int32))) fun z4 =>
  pb (fX9_symbols x0) fun v5 =>
  pb (plo (fX9_digest_B44 x0) fu ((((31 : Int64) * z4) + v5.toInt64), (0 : Int32))) fun z10 =>
  pb (plo (fX9_digest_B70 x0) fu (z10, (0 : Int32))) fun z19 =>
  pb (fX9_cuspidal x0) fun v20 =>
  pp (((31 : Int64) * z19) + v20.toInt64)
