noncomputable def fX10_zeroes_b2 (x0 : Nat) (x1 : Int32) : PM ((Int32) ⊕ (Unit)) :=
  (@ite _ ((16 : Int32) ≤ x1) (dLe (16 : Int32) x1) (
    pp (.inr ())
  ) (
    pb (gA 9 0 x0) fun v2 =>
    pb (tJ 18 v2 ((1 : Int32) + ((2 : Int32) * x1)) (0 : Int64)) fun _ =>
    pb (gA 9 0 x0) fun v4 =>
    pb (tJ 18 v4 ((2 : Int32) + ((2 : Int32) * x1)) (1 : Int64)) fun _ =>
    pp (.inl (x1 + 1))))
noncomputable def fX10_zeroes_B2 (x0 : Nat) : (Int32) → PM ((Int32) ⊕ (Unit)) := fun (x : Int32) => frI x fun y1 => fX10_zeroes_b2 x0 y1
noncomputable def fX10_zeroes (x0 : Nat) : PM Unit :=
  pb (chk 9 x0) fun _ =>
  pb (plo (fX10_zeroes_B2 x0) fu (0 : Int32)) fun z6 =>
  pp ()
noncomputable def fX10_init (x0 : Nat) : PM Unit :=
  pb (chk 9 x0) fun _ =>
  pb (nA 18 (33 : Int32)) fun v1 =>
  pb (sR 9 0 x0 (some v1)) fun _ =>
  pb (nA 18 (198 : Int32)) fun v3 =>
  pb (sR 9 1 x0 (some v3)) fun _ =>
  pb (nA 18 (33 : Int32)) fun v5 =>
  pb (sR 9 2 x0 (some v5)) fun _ =>
  pb (nA 17 (3 : Int32)) fun v7 =>
  pb (sR 9 4 x0 (some v7)) fun _ =>
  pb (nA 17 (625 : Int32)) fun v9 =>
  pb (sR 9 9 x0 (some v9)) fun _ =>
  pb (nA 17 (48 : Int32)) fun v11 =>
  pb (sR 9 10 x0 (some v11)) fun _ =>
  pb (nA 17 (48 : Int32)) fun v13 =>
  pb (sR 9 11 x0 (some v13)) fun _ =>
  pb (nA 17 (48 : Int32)) fun v15 =>
  pb (sR 9 12 x0 (some v15)) fun _ =>
  pb (nA 17 (48 : Int32)) fun v17 =>
  pb (sR 9 15 x0 (some v17)) fun _ =>
  pb (nA 17 (16 : Int32)) fun v19 =>
  pb (sR 9 16 x0 (some v19)) fun _ =>
  pb (nA 19 (48 : Int32)) fun v21 =>
  pb (sR 9 17 x0 (some v21)) fun _ =>
  pb (nA 18 (2304 : Int32)) fun v23 =>
  pb (sR 9 18 x0 (some v23)) fun _ =>
  pb (nA 18 (2304 : Int32)) fun v25 =>
  pb (sR 9 19 x0 (some v25)) fun _ =>
  pb (nA 18 (768 : Int32)) fun v27 =>
  pb (sR 9 20 x0 (some v27)) fun _ =>
  pb (nA 18 (768 : Int32)) fun v29 =>
  pb (sR 9 21 x0 (some v29)) fun _ =>
  pb (nA 18 (48 : Int32)) fun v31 =>
  pb (sR 9 22 x0 (some v31)) fun _ =>
  pb (nA 18 (48 : Int32)) fun v33 =>
  pb (sR 9 23 x0 (some v33)) fun _ =>
  pb (nA 18 (256 : Int32)) fun v35 =>
  pb (sR 9 24 x0 (some v35)) fun _ =>
  pb (nA 18 (256 : Int32)) fun v37 =>
  pb (sR 9 25 x0 (some v37)) fun _ =>
  pb (nA 17 (16 : Int32)) fun v39 =>
  pb (sR 9 27 x0 (some v39)) fun _ =>
  pb (nA 18 (256 : Int32)) fun v41 =>
  pb (sR 9 28 x0 (some v41)) fun _ =>
  pb (nA 18 (256 : Int32)) fun v43 =>
  pb (sR 9 29 x0 (some v43)) fun _ =>
  pb (nA 17 (16 : Int32)) fun v45 =>
  pb (sR 9 30 x0 (some v45)) fun _ =>
  pb (nA 18 (16 : Int32)) fun v47 =>
  pb (sR 9 31 x0 (some v47)) fun _ =>
  pb (nA 18 (16 : Int32)) fun v49 =>
  pb (sR 9 32 x0 (some v49)) fun _ =>
  pb (nA 18 (256 : Int32)) fun v51 =>
  pb (sR 9 33 x0 (some v51)) fun _ =>
  pb (nA 18 (256 : Int32)) fun v53 =>
  pb (sR 9 34 x0 (some v53)) fun _ =>
  pb (nA 18 (256 : Int32)) fun v55 =>
  pb (sR 9 36 x0 (some v55)) fun _ =>
  pb (nA 18 (256 : Int32)) fun v57 =>
  pb (sR 9 37 x0 (some v57)) fun _ =>
  pb (nA 18 (256 : Int32)) fun v59 =>
  pb (sR 9 38 x0 (some v59)) fun _ =>
  pb (nA 18 (256 : Int32)) fun v61 =>
  pb (sR 9 39 x0 (some v61)) fun _ =>
  pb (nA 18 (17 : Int32)) fun v63 =>
  pb (sR 9 40 x0 (some v63)) fun _ =>
  pb (nA 17 (61 : Int32)) fun v65 =>
  pb (sR 9 41 x0 (some v65)) fun _ =>
  pb (nA 18 (16 : Int32)) fun v67 =>
  pb (sR 9 42 x0 (some v67)) fun _ =>
  pb (nA 18 (16 : Int32)) fun v69 =>
  pb (sR 9 43 x0 (some v69)) fun _ =>
  pb (nA 17 (120 : Int32)) fun v71 =>
  pb (sR 9 44 x0 (some v71)) fun _ =>
  pb (gA 9 0 x0) fun v73 =>
  pb (tJ 18 v73 (0 : Int32) (11 : Int64)) fun _ =>
  pb (fX10_zeroes x0) fun _ =>
  pp ()
noncomputable def fX10_in (x0 : Int64) (x2 : Int64) (x4 : Int64) : PM Int32 :=
  (@ite _ ((lg_cmp x0 x2) < 0) (dcL x0 x2) (
    pp (0 : Int32)
  ) (
    (@ite _ (0 < (lg_cmp x0 x4)) (dcG x0 x4) (
      pp (0 : Int32)
    ) (
      pp (1 : Int32)))))
noncomputable def fX10_refuses (x0 : Nat) (x1 : Int32) : PM Int32 :=
  pb (chk 9 x0) fun _ =>
  pb (gA 9 4 x0) fun v1 =>
  pb (lI 17 v1 ((-2 : Int32) - x1)) fun v2 =>
  pb (tI 17 v1 ((-2 : Int32) - x1) (v2 + (1 : Int32))) fun _ =>
  pp x1
noncomputable def fX10_refusesBy (x0 : Nat) (x1 : Int32) (x2 : Int64) : PM Int64 :=
  pb (chk 9 x0) fun _ =>
  pb (gA 9 4 x0) fun v1 =>
  pb (lI 17 v1 ((-2 : Int32) - x1)) fun v2 =>
  pb (tI 17 v1 ((-2 : Int32) - x1) (v2 + (1 : Int32))) fun _ =>
  pp x2
noncomputable def fX10_keep_b51 (x0 : Nat) (x1 : Int32) : PM ((Int32) ⊕ (Unit)) :=
  (@ite _ ((33 : Int32) ≤ x1) (dLe (33 : Int32) x1) (
    pp (.inr ())
  ) (
    pb (gA 9 1 x0) fun v4 =>
    pb (gI 9 3 x0) fun v5 =>
    pb (gA 9 0 x0) fun v6 =>
    pb (lJ 18 v6 x1) fun v7 =>
    pb (tJ 18 v4 (((33 : Int32) * v5) + x1) v7) fun _ =>
    pp (.inl (x1 + 1))))
noncomputable def fX10_keep_B51 (x0 : Nat) : (Int32) → PM ((Int32) ⊕ (Unit)) := fun (x : Int32) => frI x fun y1 => fX10_keep_b51 x0 y1
noncomputable def fX10_keep_b11 (x0 : Nat) (x1 : Int32) : PM ((Int32) ⊕ (Unit)) :=
  (@ite _ ((165 : Int32) ≤ x1) (dLe (165 : Int32) x1) (
    pp (.inr ())
  ) (
    pb (gA 9 1 x0) fun v13 =>
    pb (gA 9 1 x0) fun v14 =>
    pb (lJ 18 v14 (x1 + (33 : Int32))) fun v15 =>
    pb (tJ 18 v13 x1 v15) fun _ =>
    pp (.inl (x1 + 1))))
noncomputable def fX10_keep_B11 (x0 : Nat) : (Int32) → PM ((Int32) ⊕ (Unit)) := fun (x : Int32) => frI x fun y1 => fX10_keep_b11 x0 y1
noncomputable def fX10_keep (x0 : Nat) : PM Unit :=
  pb (chk 9 x0) fun _ =>
  pb (gI 9 3 x0) fun v1 =>
  (@ite _ (v1 = (6 : Int32)) (dEq v1 (6 : Int32)) (
    pb (plo (fX10_keep_B11 x0) fu (0 : Int32)) fun z17 =>
    pb (gI 9 3 x0) fun v18 =>
    pb (sI 9 3 x0 (v18 - (1 : Int32))) fun _ =>
    pb (plo (fX10_keep_B51 x0) fu (0 : Int32)) fun z20 =>
    pb (gI 9 3 x0) fun v21 =>
    pb (sI 9 3 x0 (v21 + (1 : Int32))) fun _ =>
    pp ()
  ) (
    pb (plo (fX10_keep_B51 x0) fu (0 : Int32)) fun z9 =>
    pb (gI 9 3 x0) fun v10 =>
    pb (sI 9 3 x0 (v10 + (1 : Int32))) fun _ =>
    pp ()))
noncomputable def fX10_levelHere (x0 : Nat) : PM Int32 :=
  pb (chk 9 x0) fun _ =>
  pb (gA 9 0 x0) fun v1 =>
  pb (lJ 18 v1 (0 : Int32)) fun v2 =>
  pp v2.toInt32
noncomputable def fX10_divisor_b28  (x4 : Int64) (x6 : Int64) : PM ((Int64 × Int64) ⊕ (Int64)) :=
  (@ite _ ((lg_cmp x6 (0 : Int64)) = 0) (dcE x6 (0 : Int64)) (
    pp (.inr x4)
  ) (
    (@ite _ (x6 = 0) (dEqJ x6) pf (
    pp (.inl (x6, (x4 - x4 / x6 * x6)))))))
noncomputable def fX10_divisor_B28  : (Int64 × Int64) → PM ((Int64 × Int64) ⊕ (Int64)) := fun (x : Int64 × Int64) => frJ x.1 fun y4 => frJ x.2 fun y6 => fX10_divisor_b28  y4 y6
noncomputable def fX10_divisor (x0 : Int64) (x2 : Int64) : PM Int64 :=
  (@ite _ (0 ≤ (lg_cmp x0 (0 : Int64))) (dcGE x0 (0 : Int64)) (
    (@ite _ (0 ≤ (lg_cmp x2 (0 : Int64))) (dcGE x2 (0 : Int64)) (
      pb (plo (fX10_divisor_B28 ) fu (x0, x2)) fun z5 =>
      pp z5
    ) (
      pb (plo (fX10_divisor_B28 ) fu (x0, (-x2))) fun z6 =>
      pp z6))
  ) (
    (@ite _ (0 ≤ (lg_cmp x2 (0 : Int64))) (dcGE x2 (0 : Int64)) (
      pb (plo (fX10_divisor_B28 ) fu ((-x0), x2)) fun z8 =>
      pp z8
    ) (
      pb (plo (fX10_divisor_B28 ) fu ((-x0), (-x2))) fun z9 =>
      pp z9))))
noncomputable def fX10_lowest (x0 : Nat) (x1 : Int64) (x3 : Int64) : PM Unit :=
  pb (chk 9 x0) fun _ =>
  pb (fX10_divisor x1 x3) fun v1 =>
  (@ite _ (0 ≤ (lg_cmp x3 (0 : Int64))) (dcGE x3 (0 : Int64)) (
    (@ite _ (v1 = 0) (dEqJ v1) pf (
    pb (sJ 9 5 x0 (x1 / v1)) fun _ =>
    (@ite _ (v1 = 0) (dEqJ v1) pf (
    pb (sJ 9 6 x0 (x3 / v1)) fun _ =>
    pp ()))))
  ) (
    (@ite _ ((-v1) = 0) (dEqJ (-v1)) pf (
    pb (sJ 9 5 x0 (x1 / (-v1))) fun _ =>
    (@ite _ ((-v1) = 0) (dEqJ (-v1)) pf (
    pb (sJ 9 6 x0 (x3 / (-v1))) fun _ =>
    pp ()))))))
noncomputable def fX10_sumOf (x0 : Nat) (x1 : Int64) (x3 : Int64) (x5 : Int64) (x7 : Int64) : PM Unit :=
  pb (chk 9 x0) fun _ =>
  pb (fX10_lowest x0 ((x1 * x7) + (x5 * x3)) (x3 * x7)) fun _ =>
  pp ()
noncomputable def fX10_more (x0 : Nat) (x1 : Int64) (x3 : Int64) (x5 : Int64) (x7 : Int64) (x9 : Int64) (x11 : Int64) : PM Unit :=
  pb (chk 9 x0) fun _ =>
  pb (fX10_lowest x0 (x5 * x9) (x7 * x11)) fun _ =>
  pb (gJ 9 5 x0) fun v3 =>
  pb (gJ 9 6 x0) fun v4 =>
  pb (fX10_sumOf x0 x1 x3 v3 v4) fun _ =>
  pp ()
noncomputable def fX10_over (x0 : Int32) (x1 : Int32) : PM Int32 :=
  (@ite _ (x1 = 0) (dEq x1 0) pf (
  (@ite _ (0 ≤ (x0 - x0 / x1 * x1)) (dLe 0 (x0 - x0 / x1 * x1)) (
    pp (x0 - x0 / x1 * x1)
  ) (
    pp ((x0 - x0 / x1 * x1) + x1)))))
noncomputable def fX10_of (x0 : Nat) (x1 : Int32) (x2 : Int32) : PM Int32 :=
  pb (chk 9 x0) fun _ =>
  pb (fX10_levelHere x0) fun v1 =>
  pb (gA 9 9 x0) fun v3 =>
  pb (fX10_over x1 v1) fun v4 =>
  pb (fX10_over x2 v1) fun v5 =>
  pb (lI 17 v3 (((25 : Int32) * v4) + v5)) fun v6 =>
  pp v6
noncomputable def fX10_isPair (x0 : Nat) (x1 : Int32) (x2 : Int32) : PM Int32 :=
  pb (chk 9 x0) fun _ =>
  pb (fX10_divisor x1.toInt64 x2.toInt64) fun v1 =>
  pb (fX10_levelHere x0) fun v2 =>
  pb (fX10_divisor v1 v2.toInt64) fun v4 =>
  (@ite _ ((lg_cmp v4 (1 : Int64)) = 0) (dcE v4 (1 : Int64)) (
    pp (1 : Int32)
  ) (
    pp (0 : Int32)))
noncomputable def fX10_countsIn_b8 (x0 : Nat) (x1 : Int32) (x2 : Int32) (x3 : Int32) (x4 : Int32) : PM ((Int32) ⊕ (Unit)) :=
  (@ite _ (x3 < x4) (dLt x3 x4) (
    pp (.inr ())
  ) (
    pb (fX10_divisor x4.toInt64 x3.toInt64) fun v4 =>
    (@ite _ ((lg_cmp v4 (1 : Int64)) = 0) (dcE v4 (1 : Int64)) (
      pb (gA 9 9 x0) fun v6 =>
      (@ite _ (x3 = 0) (dEq x3 0) pf (
      (@ite _ (x3 = 0) (dEq x3 0) pf (
      pb (gI 9 8 x0) fun v9 =>
      pb (tI 17 v6 (((25 : Int32) * ((x4 * x1) - (x4 * x1) / x3 * x3)) + ((x4 * x2) - (x4 * x2) / x3 * x3)) v9) fun _ =>
      pp (.inl (x4 + 1))))))
    ) (
      pp (.inl (x4 + 1))))))
noncomputable def fX10_countsIn_B8 (x0 : Nat) (x1 : Int32) (x2 : Int32) (x3 : Int32) : (Int32) → PM ((Int32) ⊕ (Unit)) := fun (x : Int32) => frI x fun y4 => fX10_countsIn_b8 x0 x1 x2 x3 y4
noncomputable def fX10_countsIn (x0 : Nat) (x1 : Int32) (x2 : Int32) : PM Unit :=
  pb (chk 9 x0) fun _ =>
  pb (fX10_levelHere x0) fun v1 =>
  pb (plo (fX10_countsIn_B8 x0 x1 x2 v1) fu (1 : Int32)) fun z11 =>
  pb (gA 9 10 x0) fun v12 =>
  pb (gI 9 8 x0) fun v13 =>
  pb (tI 17 v12 v13 x1) fun _ =>
  pb (gA 9 11 x0) fun v15 =>
  pb (gI 9 8 x0) fun v16 =>
  pb (tI 17 v15 v16 x2) fun _ =>
  pb (gI 9 8 x0) fun v18 =>
  pb (sI 9 8 x0 (v18 + (1 : Int32))) fun _ =>
  pp ()
noncomputable def fX10_s (x0 : Nat) (x1 : Int32) : PM Int32 :=
  pb (chk 9 x0) fun _ =>
  pb (gA 9 11 x0) fun v1 =>
  pb (lI 17 v1 x1) fun v2 =>
  pb (gA 9 10 x0) fun v3 =>
  pb (lI 17 v3 x1) fun v4 =>
  pb (fX10_of x0 (-v2) v4) fun v5 =>
  pp v5
noncomputable def fX10_r (x0 : Nat) (x1 : Int32) : PM Int32 :=
  pb (chk 9 x0) fun _ =>
  pb (gA 9 10 x0) fun v1 =>
  pb (lI 17 v1 x1) fun v2 =>
  pb (gA 9 11 x0) fun v3 =>
  pb (lI 17 v3 x1) fun v4 =>
  pb (gA 9 10 x0) fun v5 =>
  pb (lI 17 v5 x1) fun v6 =>
  pb (fX10_of x0 (v2 + v4) (-v6)) fun v7 =>
  pp v7
noncomputable def fX10_u (x0 : Nat) (x1 : Int32) : PM Int32 :=
  pb (chk 9 x0) fun _ =>
  pb (gA 9 10 x0) fun v1 =>
  pb (lI 17 v1 x1) fun v2 =>
  pb (gA 9 10 x0) fun v3 =>
  pb (lI 17 v3 x1) fun v4 =>
  pb (gA 9 11 x0) fun v5 =>
  pb (lI 17 v5 x1) fun v6 =>
  pb (fX10_of x0 v2 (v4 + v6)) fun v7 =>
  pp v7
noncomputable def fX10_laysCusps_b7 (x0 : Nat) (x1 : Int32) : PM ((Int32) ⊕ (Unit)) :=
  pb (gI 9 8 x0) fun v2 =>
  (@ite _ (v2 ≤ x1) (dLe v2 x1) (
    pp (.inr ())
  ) (
    pb (gA 9 12 x0) fun v4 =>
    pb (tI 17 v4 x1 (-1 : Int32)) fun _ =>
    pp (.inl (x1 + 1))))
noncomputable def fX10_laysCusps_B7 (x0 : Nat) : (Int32) → PM ((Int32) ⊕ (Unit)) := fun (x : Int32) => frI x fun y1 => fX10_laysCusps_b7 x0 y1
noncomputable def fX10_laysCusps_b50 (x0 : Nat) (x1 : Int32) (x2 : Int32) : PM ((Int32) ⊕ (Unit)) :=
  pb (gA 9 12 x0) fun v12 =>
  pb (lI 17 v12 x2) fun v13 =>
  (@ite _ (v13 = (-1 : Int32)) (dEq v13 (-1 : Int32)) (
    pb (gA 9 12 x0) fun v15 =>
    pb (gI 9 13 x0) fun v16 =>
    pb (tI 17 v15 x2 v16) fun _ =>
    pb (fX10_u x0 x2) fun v18 =>
    pp (.inl v18)
  ) (
    pp (.inr ())))
noncomputable def fX10_laysCusps_B50 (x0 : Nat) (x1 : Int32) : (Int32) → PM ((Int32) ⊕ (Unit)) := fun (x : Int32) => frI x fun y2 => fX10_laysCusps_b50 x0 x1 y2
noncomputable def fX10_laysCusps_b30 (x0 : Nat) (x1 : Int32) : PM ((Int32) ⊕ (Unit)) :=
  pb (gI 9 8 x0) fun v7 =>
  (@ite _ (v7 ≤ x1) (dLe v7 x1) (
    pp (.inr ())
  ) (
    pb (gA 9 12 x0) fun v9 =>
    pb (lI 17 v9 x1) fun v10 =>
    (@ite _ (v10 = (-1 : Int32)) (dEq v10 (-1 : Int32)) (
      pb (plo (fX10_laysCusps_B50 x0 x1) fu x1) fun z20 =>
      pb (gI 9 13 x0) fun v21 =>
      pb (sI 9 13 x0 (v21 + (1 : Int32))) fun _ =>
      pp (.inl (x1 + 1))
    ) (
      pp (.inl (x1 + 1))))))
noncomputable def fX10_laysCusps_B30 (x0 : Nat) : (Int32) → PM ((Int32) ⊕ (Unit)) := fun (x : Int32) => frI x fun y1 => fX10_laysCusps_b30 x0 y1
noncomputable def fX10_laysCusps (x0 : Nat) : PM Unit :=
  pb (chk 9 x0) fun _ =>
  pb (sI 9 13 x0 (0 : Int32)) fun _ =>
  pb (plo (fX10_laysCusps_B7 x0) fu (0 : Int32)) fun z6 =>
  pb (plo (fX10_laysCusps_B30 x0) fu (0 : Int32)) fun z23 =>
  pp ()
noncomputable def fX10_emptiesRow_b2 (x0 : Nat) (x1 : Int32) : PM ((Int32) ⊕ (Unit)) :=
  (@ite _ ((48 : Int32) ≤ x1) (dLe (48 : Int32) x1) (
    pp (.inr ())
  ) (
    pb (gA 9 22 x0) fun v2 =>
    pb (tJ 18 v2 x1 (0 : Int64)) fun _ =>
    pb (gA 9 23 x0) fun v4 =>
    pb (tJ 18 v4 x1 (1 : Int64)) fun _ =>
    pp (.inl (x1 + 1))))
noncomputable def fX10_emptiesRow_B2 (x0 : Nat) : (Int32) → PM ((Int32) ⊕ (Unit)) := fun (x : Int32) => frI x fun y1 => fX10_emptiesRow_b2 x0 y1
noncomputable def fX10_emptiesRow (x0 : Nat) : PM Unit :=
  pb (chk 9 x0) fun _ =>
  pb (plo (fX10_emptiesRow_B2 x0) fu (0 : Int32)) fun z6 =>
  pp ()
noncomputable def fX10_addsOne (x0 : Nat) (x1 : Int32) : PM Unit :=
  pb (chk 9 x0) fun _ =>
  pb (gA 9 22 x0) fun v1 =>
  pb (lJ 18 v1 x1) fun v2 =>
  pb (gA 9 23 x0) fun v3 =>
  pb (lJ 18 v3 x1) fun v4 =>
  pb (fX10_sumOf x0 v2 v4 (1 : Int64) (1 : Int64)) fun _ =>
  pb (gA 9 22 x0) fun v7 =>
  pb (gJ 9 5 x0) fun v8 =>
  pb (tJ 18 v7 x1 v8) fun _ =>
  pb (gA 9 23 x0) fun v10 =>
  pb (gJ 9 6 x0) fun v11 =>
  pb (tJ 18 v10 x1 v11) fun _ =>
  pp ()
noncomputable def fX10_lowers_b63 (x0 : Nat) (x1 : Int32) (x2 : Int64) (x4 : Int64) (x6 : Int32) : PM ((Int32) ⊕ (Unit)) :=
  (@ite _ (x1 ≤ x6) (dLe x1 x6) (
    pp (.inr ())
  ) (
    pb (gA 9 18 x0) fun v18 =>
    pb (lJ 18 v18 (((48 : Int32) * x1) + x6)) fun v19 =>
    (@ite _ ((lg_cmp v19 (0 : Int64)) = 0) (dcE v19 (0 : Int64)) (
      pp (.inl (x6 + 1))
    ) (
      pb (gA 9 22 x0) fun v21 =>
      pb (lJ 18 v21 x6) fun v22 =>
      pb (gA 9 23 x0) fun v23 =>
      pb (lJ 18 v23 x6) fun v24 =>
      pb (gA 9 18 x0) fun v25 =>
      pb (lJ 18 v25 (((48 : Int32) * x1) + x6)) fun v26 =>
      pb (gA 9 19 x0) fun v27 =>
      pb (lJ 18 v27 (((48 : Int32) * x1) + x6)) fun v28 =>
      pb (fX10_more x0 v22 v24 x2 x4 v26 v28) fun _ =>
      pb (gA 9 22 x0) fun v31 =>
      pb (gJ 9 5 x0) fun v32 =>
      pb (tJ 18 v31 x6 v32) fun _ =>
      pb (gA 9 23 x0) fun v34 =>
      pb (gJ 9 6 x0) fun v35 =>
      pb (tJ 18 v34 x6 v35) fun _ =>
      pp (.inl (x6 + 1))))))
noncomputable def fX10_lowers_B63 (x0 : Nat) (x1 : Int32) (x2 : Int64) (x4 : Int64) : (Int32) → PM ((Int32) ⊕ (Unit)) := fun (x : Int32) => frI x fun y6 => fX10_lowers_b63 x0 x1 x2 x4 y6
noncomputable def fX10_lowers_b7 (x0 : Nat) (x1 : Int32) : PM ((Int32) ⊕ (Unit)) :=
  (@ite _ (x1 < 0) (dLt x1 0) (
    pp (.inr ())
  ) (
    pb (gA 9 17 x0) fun v3 =>
    pb (lI 19 v3 x1) fun v4 =>
    (@ite _ (v4 = 0) (dEq v4 0) (
      pp (.inl (x1 + (-1)))
    ) (
      pb (gA 9 22 x0) fun v6 =>
      pb (lJ 18 v6 x1) fun v7 =>
      (@ite _ ((lg_cmp v7 (0 : Int64)) = 0) (dcE v7 (0 : Int64)) (
        pp (.inl (x1 + (-1)))
      ) (
        pb (gA 9 22 x0) fun v9 =>
        pb (lJ 18 v9 x1) fun v10 =>
        pb (gA 9 23 x0) fun v11 =>
        pb (lJ 18 v11 x1) fun v12 =>
        pb (gA 9 22 x0) fun v13 =>
        pb (tJ 18 v13 x1 (0 : Int64)) fun _ =>
        pb (gA 9 23 x0) fun v15 =>
        pb (tJ 18 v15 x1 (1 : Int64)) fun _ =>
        pb (plo (fX10_lowers_B63 x0 x1 v10 v12) fu (0 : Int32)) fun z37 =>
        pp (.inl (x1 + (-1)))))))))
noncomputable def fX10_lowers_B7 (x0 : Nat) : (Int32) → PM ((Int32) ⊕ (Unit)) := fun (x : Int32) => frI x fun y1 => fX10_lowers_b7 x0 y1
noncomputable def fX10_lowers (x0 : Nat) : PM Unit :=
  pb (chk 9 x0) fun _ =>
  pb (gI 9 8 x0) fun v1 =>
  pb (plo (fX10_lowers_B7 x0) fu (v1 - (1 : Int32))) fun z38 =>
  pp ()
noncomputable def fX10_relates_b11 (x0 : Nat) (x1 : Int32) : PM ((Int32) ⊕ (Int32)) :=
  (@ite _ (x1 < 0) (dLt x1 0) (
    pp (.inr x1)
  ) (
    pb (gA 9 22 x0) fun v5 =>
    pb (lJ 18 v5 x1) fun v6 =>
    (@ite _ ((lg_cmp v6 (0 : Int64)) = 0) (dcE v6 (0 : Int64)) (
      pp (.inl (x1 + (-1)))
    ) (
      pp (.inr x1)))))
noncomputable def fX10_relates_B11 (x0 : Nat) : (Int32) → PM ((Int32) ⊕ (Int32)) := fun (x : Int32) => frI x fun y1 => fX10_relates_b11 x0 y1
noncomputable def fX10_relates_b46 (x0 : Nat) (x1 : Int32) (x2 : Int32) : PM ((Int32) ⊕ (Unit)) :=
  (@ite _ (x1 ≤ x2) (dLe x1 x2) (
    pp (.inr ())
  ) (
    pb (gA 9 22 x0) fun v13 =>
    pb (lJ 18 v13 x2) fun v14 =>
    pb (gA 9 23 x0) fun v15 =>
    pb (lJ 18 v15 x1) fun v16 =>
    pb (gA 9 23 x0) fun v17 =>
    pb (lJ 18 v17 x2) fun v18 =>
    pb (gA 9 22 x0) fun v19 =>
    pb (lJ 18 v19 x1) fun v20 =>
    pb (fX10_lowest x0 ((-v14) * v16) (v18 * v20)) fun _ =>
    pb (gA 9 18 x0) fun v23 =>
    pb (gJ 9 5 x0) fun v24 =>
    pb (tJ 18 v23 (((48 : Int32) * x1) + x2) v24) fun _ =>
    pb (gA 9 19 x0) fun v26 =>
    pb (gJ 9 6 x0) fun v27 =>
    pb (tJ 18 v26 (((48 : Int32) * x1) + x2) v27) fun _ =>
    pp (.inl (x2 + 1))))
noncomputable def fX10_relates_B46 (x0 : Nat) (x1 : Int32) : (Int32) → PM ((Int32) ⊕ (Unit)) := fun (x : Int32) => frI x fun y2 => fX10_relates_b46 x0 x1 y2
noncomputable def fX10_relates (x0 : Nat) : PM Unit :=
  pb (chk 9 x0) fun _ =>
  pb (fX10_lowers x0) fun _ =>
  pb (gI 9 8 x0) fun v3 =>
  pb (plo (fX10_relates_B11 x0) fu (v3 - (1 : Int32))) fun z8 =>
  (@ite _ (0 ≤ z8) (dLe 0 z8) (
    pb (gA 9 17 x0) fun v10 =>
    pb (tI 19 v10 z8 (1 : Int32)) fun _ =>
    pb (plo (fX10_relates_B46 x0 z8) fu (0 : Int32)) fun z29 =>
    pp ()
  ) (
    pp ()))
noncomputable def fX10_laysRelations_b2 (x0 : Nat) (x1 : Int32) : PM ((Int32) ⊕ (Unit)) :=
  pb (gI 9 8 x0) fun v1 =>
  (@ite _ (v1 ≤ x1) (dLe v1 x1) (
    pp (.inr ())
  ) (
    pb (gA 9 17 x0) fun v3 =>
    pb (tI 19 v3 x1 (0 : Int32)) fun _ =>
    pp (.inl (x1 + 1))))
noncomputable def fX10_laysRelations_B2 (x0 : Nat) : (Int32) → PM ((Int32) ⊕ (Unit)) := fun (x : Int32) => frI x fun y1 => fX10_laysRelations_b2 x0 y1
noncomputable def fX10_laysRelations_b25 (x0 : Nat) (x1 : Int32) : PM ((Int32) ⊕ (Unit)) :=
  pb (gI 9 8 x0) fun v6 =>
  (@ite _ (v6 ≤ x1) (dLe v6 x1) (
    pp (.inr ())
  ) (
    pb (fX10_emptiesRow x0) fun _ =>
    pb (fX10_addsOne x0 x1) fun _ =>
    pb (fX10_s x0 x1) fun v12 =>
    pb (fX10_addsOne x0 v12) fun _ =>
    pb (fX10_relates x0) fun _ =>
    pb (fX10_emptiesRow x0) fun _ =>
    pb (fX10_addsOne x0 x1) fun _ =>
    pb (fX10_r x0 x1) fun v22 =>
    pb (fX10_addsOne x0 v22) fun _ =>
    pb (fX10_r x0 x1) fun v26 =>
    pb (fX10_r x0 v26) fun v28 =>
    pb (fX10_addsOne x0 v28) fun _ =>
    pb (fX10_relates x0) fun _ =>
    pp (.inl (x1 + 1))))
noncomputable def fX10_laysRelations_B25 (x0 : Nat) : (Int32) → PM ((Int32) ⊕ (Unit)) := fun (x : Int32) => frI x fun y1 => fX10_laysRelations_b25 x0 y1
noncomputable def fX10_laysRelations (x0 : Nat) : PM Unit :=
  pb (chk 9 x0) fun _ =>
  pb (plo (fX10_laysRelations_B2 x0) fu (0 : Int32)) fun z5 =>
  pb (plo (fX10_laysRelations_B25 x0) fu (0 : Int32)) fun z34 =>
  pp ()
noncomputable def fX10_laysFree_b7 (x0 : Nat) (x1 : Int32) : PM ((Int32) ⊕ (Unit)) :=
  pb (gI 9 8 x0) fun v2 =>
  (@ite _ (v2 ≤ x1) (dLe v2 x1) (
    pp (.inr ())
  ) (
    pb (gA 9 15 x0) fun v4 =>
    pb (gA 9 17 x0) fun v5 =>
    pb (lI 19 v5 x1) fun v6 =>
    (@ite _ (v6 = 0) (dEq v6 0) (
      pb (gI 9 14 x0) fun v8 =>
      pb (tI 17 v4 x1 v8) fun _ =>
      pb (gA 9 17 x0) fun v10 =>
      pb (lI 19 v10 x1) fun v11 =>
      (@ite _ (v11 = 0) (dEq v11 0) (
        pb (gA 9 16 x0) fun v13 =>
        pb (gI 9 14 x0) fun v14 =>
        pb (tI 17 v13 v14 x1) fun _ =>
        pb (gI 9 14 x0) fun v16 =>
        pb (sI 9 14 x0 (v16 + (1 : Int32))) fun _ =>
        pp (.inl (x1 + 1))
      ) (
        pp (.inl (x1 + 1))))
    ) (
      pb (tI 17 v4 x1 (-1 : Int32)) fun _ =>
      pb (gA 9 17 x0) fun v19 =>
      pb (lI 19 v19 x1) fun v20 =>
      (@ite _ (v20 = 0) (dEq v20 0) (
        pb (gA 9 16 x0) fun v22 =>
        pb (gI 9 14 x0) fun v23 =>
        pb (tI 17 v22 v23 x1) fun _ =>
        pb (gI 9 14 x0) fun v25 =>
        pb (sI 9 14 x0 (v25 + (1 : Int32))) fun _ =>
        pp (.inl (x1 + 1))
      ) (
        pp (.inl (x1 + 1))))))))
noncomputable def fX10_laysFree_B7 (x0 : Nat) : (Int32) → PM ((Int32) ⊕ (Unit)) := fun (x : Int32) => frI x fun y1 => fX10_laysFree_b7 x0 y1
noncomputable def fX10_laysFree_b98 (x0 : Nat) (x1 : Int32) (x2 : Int32) : PM ((Int32) ⊕ (Unit)) :=
  pb (gI 9 14 x0) fun v36 =>
  (@ite _ (v36 ≤ x2) (dLe v36 x2) (
    pp (.inr ())
  ) (
    pb (gA 9 20 x0) fun v38 =>
    pb (gA 9 22 x0) fun v39 =>
    pb (gA 9 16 x0) fun v40 =>
    pb (lI 17 v40 x2) fun v41 =>
    pb (lJ 18 v39 v41) fun v42 =>
    pb (tJ 18 v38 (((16 : Int32) * x1) + x2) v42) fun _ =>
    pb (gA 9 21 x0) fun v44 =>
    pb (gA 9 23 x0) fun v45 =>
    pb (gA 9 16 x0) fun v46 =>
    pb (lI 17 v46 x2) fun v47 =>
    pb (lJ 18 v45 v47) fun v48 =>
    pb (tJ 18 v44 (((16 : Int32) * x1) + x2) v48) fun _ =>
    pp (.inl (x2 + 1))))
noncomputable def fX10_laysFree_B98 (x0 : Nat) (x1 : Int32) : (Int32) → PM ((Int32) ⊕ (Unit)) := fun (x : Int32) => frI x fun y2 => fX10_laysFree_b98 x0 x1 y2
noncomputable def fX10_laysFree_b75 (x0 : Nat) (x1 : Int32) : PM ((Int32) ⊕ (Unit)) :=
  pb (gI 9 8 x0) fun v28 =>
  (@ite _ (v28 ≤ x1) (dLe v28 x1) (
    pp (.inr ())
  ) (
    pb (fX10_emptiesRow x0) fun _ =>
    pb (fX10_addsOne x0 x1) fun _ =>
    pb (fX10_lowers x0) fun _ =>
    pb (plo (fX10_laysFree_B98 x0 x1) fu (0 : Int32)) fun z50 =>
    pp (.inl (x1 + 1))))
noncomputable def fX10_laysFree_B75 (x0 : Nat) : (Int32) → PM ((Int32) ⊕ (Unit)) := fun (x : Int32) => frI x fun y1 => fX10_laysFree_b75 x0 y1
noncomputable def fX10_laysFree (x0 : Nat) : PM Unit :=
  pb (chk 9 x0) fun _ =>
  pb (sI 9 14 x0 (0 : Int32)) fun _ =>
  pb (plo (fX10_laysFree_B7 x0) fu (0 : Int32)) fun z27 =>
  pb (plo (fX10_laysFree_B75 x0) fu (0 : Int32)) fun z51 =>
  pp ()
noncomputable def fX10_lays_b27 (x0 : Nat) (x1 : Int32) : PM ((Int32) ⊕ (Unit)) :=
  (@ite _ ((625 : Int32) ≤ x1) (dLe (625 : Int32) x1) (
    pp (.inr ())
  ) (
    pb (gA 9 9 x0) fun v10 =>
    pb (tI 17 v10 x1 (-1 : Int32)) fun _ =>
    pp (.inl (x1 + 1))))
noncomputable def fX10_lays_B27 (x0 : Nat) : (Int32) → PM ((Int32) ⊕ (Unit)) := fun (x : Int32) => frI x fun y1 => fX10_lays_b27 x0 y1
noncomputable def fX10_lays_b59 (x0 : Nat) (x1 : Int32) (x2 : Int32) : PM ((Int32) ⊕ (Unit)) :=
  pb (gI 9 7 x0) fun v15 =>
  (@ite _ (v15 ≤ x2) (dLe v15 x2) (
    pp (.inr ())
  ) (
    pb (fX10_isPair x0 x1 x2) fun v17 =>
    (@ite _ (v17 = 0) (dEq v17 0) (
      pp (.inl (x2 + 1))
    ) (
      pb (fX10_of x0 x1 x2) fun v20 =>
      (@ite _ (v20 = (-1 : Int32)) (dEq v20 (-1 : Int32)) (
        pb (fX10_countsIn x0 x1 x2) fun _ =>
        pp (.inl (x2 + 1))
      ) (
        pp (.inl (x2 + 1))))))))
noncomputable def fX10_lays_B59 (x0 : Nat) (x1 : Int32) : (Int32) → PM ((Int32) ⊕ (Unit)) := fun (x : Int32) => frI x fun y2 => fX10_lays_b59 x0 x1 y2
noncomputable def fX10_lays_b49 (x0 : Nat) (x1 : Int32) : PM ((Int32) ⊕ (Unit)) :=
  pb (gI 9 7 x0) fun v13 =>
  (@ite _ (v13 ≤ x1) (dLe v13 x1) (
    pp (.inr ())
  ) (
    pb (plo (fX10_lays_B59 x0 x1) fu (0 : Int32)) fun z25 =>
    pp (.inl (x1 + 1))))
noncomputable def fX10_lays_B49 (x0 : Nat) : (Int32) → PM ((Int32) ⊕ (Unit)) := fun (x : Int32) => frI x fun y1 => fX10_lays_b49 x0 y1
noncomputable def fX10_lays (x0 : Nat) : PM Unit :=
  pb (chk 9 x0) fun _ =>
  pb (gI 9 7 x0) fun v1 =>
  pb (fX10_levelHere x0) fun v2 =>
  (@ite _ (v1 = v2) (dEq v1 v2) (
    pp ()
  ) (
    pb (fX10_levelHere x0) fun v5 =>
    pb (sI 9 7 x0 v5) fun _ =>
    pb (sI 9 8 x0 (0 : Int32)) fun _ =>
    pb (plo (fX10_lays_B27 x0) fu (0 : Int32)) fun z12 =>
    pb (plo (fX10_lays_B49 x0) fu (0 : Int32)) fun z26 =>
    pb (fX10_laysCusps x0) fun _ =>
    pb (fX10_laysRelations x0) fun _ =>
    pb (fX10_laysFree x0) fun _ =>
    pp ()))
noncomputable def fX10_boundaryOf (x0 : Nat) (x1 : Int32) (x2 : Int32) : PM Int32 :=
  pb (chk 9 x0) fun _ =>
  pb (gA 9 16 x0) fun v1 =>
  pb (lI 17 v1 x2) fun v2 =>
  pb (gA 9 12 x0) fun v3 =>
  pb (lI 17 v3 v2) fun v4 =>
  (@ite _ (v4 = x1) (dEq v4 x1) (
    pb (gA 9 12 x0) fun v11 =>
    pb (fX10_s x0 v2) fun v12 =>
    pb (lI 17 v11 v12) fun v14 =>
    (@ite _ (v14 = x1) (dEq v14 x1) (
      pp ((1 : Int32) - (1 : Int32))
    ) (
      pp ((1 : Int32) - (0 : Int32))))
  ) (
    pb (gA 9 12 x0) fun v6 =>
    pb (fX10_s x0 v2) fun v7 =>
    pb (lI 17 v6 v7) fun v9 =>
    (@ite _ (v9 = x1) (dEq v9 x1) (
      pp ((0 : Int32) - (1 : Int32))
    ) (
      pp ((0 : Int32) - (0 : Int32))))))
noncomputable def fX10_takesOff_b3 (x0 : Nat) (x1 : Int32) (x2 : Int32) (x3 : Int64) (x5 : Int64) (x7 : Int32) : PM ((Int32) ⊕ (Unit)) :=
  pb (gI 9 14 x0) fun v1 =>
  (@ite _ (v1 ≤ x7) (dLe v1 x7) (
    pp (.inr ())
  ) (
    pb (gA 9 24 x0) fun v3 =>
    pb (lJ 18 v3 (((16 : Int32) * x1) + x7)) fun v4 =>
    pb (gA 9 25 x0) fun v5 =>
    pb (lJ 18 v5 (((16 : Int32) * x1) + x7)) fun v6 =>
    pb (gA 9 24 x0) fun v7 =>
    pb (lJ 18 v7 (((16 : Int32) * x2) + x7)) fun v8 =>
    pb (gA 9 25 x0) fun v9 =>
    pb (lJ 18 v9 (((16 : Int32) * x2) + x7)) fun v10 =>
    pb (fX10_more x0 v4 v6 (-x3) x5 v8 v10) fun _ =>
    pb (gA 9 24 x0) fun v13 =>
    pb (gJ 9 5 x0) fun v14 =>
    pb (tJ 18 v13 (((16 : Int32) * x1) + x7) v14) fun _ =>
    pb (gA 9 25 x0) fun v16 =>
    pb (gJ 9 6 x0) fun v17 =>
    pb (tJ 18 v16 (((16 : Int32) * x1) + x7) v17) fun _ =>
    pp (.inl (x7 + 1))))
noncomputable def fX10_takesOff_B3 (x0 : Nat) (x1 : Int32) (x2 : Int32) (x3 : Int64) (x5 : Int64) : (Int32) → PM ((Int32) ⊕ (Unit)) := fun (x : Int32) => frI x fun y7 => fX10_takesOff_b3 x0 x1 x2 x3 x5 y7
noncomputable def fX10_takesOff (x0 : Nat) (x1 : Int32) (x2 : Int32) (x3 : Int64) (x5 : Int64) : PM Unit :=
  pb (chk 9 x0) fun _ =>
  pb (plo (fX10_takesOff_B3 x0 x1 x2 x3 x5) fu (0 : Int32)) fun z19 =>
  pp ()
noncomputable def fX10_exchanges_b2 (x0 : Nat) (x1 : Int32) (x2 : Int32) (x3 : Int32) : PM ((Int32) ⊕ (Unit)) :=
  pb (gI 9 14 x0) fun v1 =>
  (@ite _ (v1 ≤ x3) (dLe v1 x3) (
    pp (.inr ())
  ) (
    pb (gA 9 24 x0) fun v3 =>
    pb (lJ 18 v3 (((16 : Int32) * x1) + x3)) fun v4 =>
    pb (gA 9 24 x0) fun v5 =>
    pb (gA 9 24 x0) fun v6 =>
    pb (lJ 18 v6 (((16 : Int32) * x2) + x3)) fun v7 =>
    pb (tJ 18 v5 (((16 : Int32) * x1) + x3) v7) fun _ =>
    pb (gA 9 24 x0) fun v9 =>
    pb (tJ 18 v9 (((16 : Int32) * x2) + x3) v4) fun _ =>
    pb (gA 9 25 x0) fun v11 =>
    pb (lJ 18 v11 (((16 : Int32) * x1) + x3)) fun v12 =>
    pb (gA 9 25 x0) fun v13 =>
    pb (gA 9 25 x0) fun v14 =>
    pb (lJ 18 v14 (((16 : Int32) * x2) + x3)) fun v15 =>
    pb (tJ 18 v13 (((16 : Int32) * x1) + x3) v15) fun _ =>
    pb (gA 9 25 x0) fun v17 =>
    pb (tJ 18 v17 (((16 : Int32) * x2) + x3) v12) fun _ =>
    pp (.inl (x3 + 1))))
noncomputable def fX10_exchanges_B2 (x0 : Nat) (x1 : Int32) (x2 : Int32) : (Int32) → PM ((Int32) ⊕ (Unit)) := fun (x : Int32) => frI x fun y3 => fX10_exchanges_b2 x0 x1 x2 y3
noncomputable def fX10_exchanges (x0 : Nat) (x1 : Int32) (x2 : Int32) : PM Unit :=
  pb (chk 9 x0) fun _ =>
  pb (plo (fX10_exchanges_B2 x0 x1 x2) fu (0 : Int32)) fun z19 =>
  pp ()
noncomputable def fX10_divides_b28 (x0 : Nat) (x1 : Int32) (x3 : Int64) (x5 : Int64) (x7 : Int32) : PM ((Int32) ⊕ (Unit)) :=
  pb (gI 9 14 x0) fun v5 =>
  (@ite _ (v5 ≤ x7) (dLe v5 x7) (
    pp (.inr ())
  ) (
    pb (gA 9 24 x0) fun v7 =>
    pb (lJ 18 v7 (((16 : Int32) * x1) + x7)) fun v8 =>
    pb (gA 9 25 x0) fun v9 =>
    pb (lJ 18 v9 (((16 : Int32) * x1) + x7)) fun v10 =>
    pb (fX10_lowest x0 (v8 * x5) (v10 * x3)) fun _ =>
    pb (gA 9 24 x0) fun v13 =>
    pb (gJ 9 5 x0) fun v14 =>
    pb (tJ 18 v13 (((16 : Int32) * x1) + x7) v14) fun _ =>
    pb (gA 9 25 x0) fun v16 =>
    pb (gJ 9 6 x0) fun v17 =>
    pb (tJ 18 v16 (((16 : Int32) * x1) + x7) v17) fun _ =>
    pp (.inl (x7 + 1))))
noncomputable def fX10_divides_B28 (x0 : Nat) (x1 : Int32) (x3 : Int64) (x5 : Int64) : (Int32) → PM ((Int32) ⊕ (Unit)) := fun (x : Int32) => frI x fun y7 => fX10_divides_b28 x0 x1 x3 x5 y7
noncomputable def fX10_divides (x0 : Nat) (x1 : Int32) (x2 : Int32) : PM Unit :=
  pb (chk 9 x0) fun _ =>
  pb (gA 9 24 x0) fun v1 =>
  pb (lJ 18 v1 (((16 : Int32) * x1) + x2)) fun v2 =>
  pb (gA 9 25 x0) fun v3 =>
  pb (lJ 18 v3 (((16 : Int32) * x1) + x2)) fun v4 =>
  pb (plo (fX10_divides_B28 x0 x1 v2 v4) fu (0 : Int32)) fun z19 =>
  pp ()
noncomputable def fX10_solvesBoundary_b14 (x0 : Nat) (x1 : Int32) (x2 : Int32) (x3 : Int32) : PM ((Int32) ⊕ (Unit)) :=
  pb (gI 9 14 x0) fun v3 =>
  (@ite _ (v3 ≤ x3) (dLe v3 x3) (
    pp (.inr ())
  ) (
    pb (gA 9 24 x0) fun v5 =>
    pb (fX10_boundaryOf x0 x2 x3) fun v6 =>
    pb (tJ 18 v5 (((16 : Int32) * x2) + x3) v6.toInt64) fun _ =>
    pb (gA 9 25 x0) fun v9 =>
    pb (tJ 18 v9 (((16 : Int32) * x2) + x3) (1 : Int64)) fun _ =>
    pp (.inl (x3 + 1))))
noncomputable def fX10_solvesBoundary_B14 (x0 : Nat) (x1 : Int32) (x2 : Int32) : (Int32) → PM ((Int32) ⊕ (Unit)) := fun (x : Int32) => frI x fun y3 => fX10_solvesBoundary_b14 x0 x1 x2 y3
noncomputable def fX10_solvesBoundary_b4 (x0 : Nat) (x1 : Int32) (x2 : Int32) : PM ((Int32) ⊕ (Unit)) :=
  pb (gI 9 13 x0) fun v1 =>
  (@ite _ (v1 ≤ x2) (dLe v1 x2) (
    pp (.inr ())
  ) (
    pb (plo (fX10_solvesBoundary_B14 x0 x1 x2) fu (0 : Int32)) fun z11 =>
    pp (.inl (x2 + 1))))
noncomputable def fX10_solvesBoundary_B4 (x0 : Nat) (x1 : Int32) : (Int32) → PM ((Int32) ⊕ (Unit)) := fun (x : Int32) => frI x fun y2 => fX10_solvesBoundary_b4 x0 x1 y2
noncomputable def fX10_solvesBoundary_b76 (x0 : Nat) (x1 : Int32) (x2 : Int32) (x3 : Int32) : PM ((Int32) ⊕ (Int32)) :=
  pb (gI 9 13 x0) fun v15 =>
  (@ite _ (v15 ≤ x3) (dLe v15 x3) (
    pp (.inr x3)
  ) (
    pb (gA 9 24 x0) fun v17 =>
    pb (lJ 18 v17 (((16 : Int32) * x3) + x2)) fun v18 =>
    (@ite _ ((lg_cmp v18 (0 : Int64)) = 0) (dcE v18 (0 : Int64)) (
      pp (.inl (x3 + 1))
    ) (
      pp (.inr x3)))))
noncomputable def fX10_solvesBoundary_B76 (x0 : Nat) (x1 : Int32) (x2 : Int32) : (Int32) → PM ((Int32) ⊕ (Int32)) := fun (x : Int32) => frI x fun y3 => fX10_solvesBoundary_b76 x0 x1 x2 y3
noncomputable def fX10_solvesBoundary_b148 (x0 : Nat) (x1 : Int32) (x2 : Int32) (x4 : Int32) : PM ((Int32) ⊕ (Unit)) :=
  pb (gI 9 13 x0) fun v31 =>
  (@ite _ (v31 ≤ x4) (dLe v31 x4) (
    pp (.inr ())
  ) (
    (@ite _ (x4 = x1) (dEq x4 x1) (
      pp (.inl (x4 + 1))
    ) (
      pb (gA 9 24 x0) fun v34 =>
      pb (lJ 18 v34 (((16 : Int32) * x4) + x2)) fun v35 =>
      pb (gA 9 25 x0) fun v36 =>
      pb (lJ 18 v36 (((16 : Int32) * x4) + x2)) fun v37 =>
      pb (fX10_takesOff x0 x4 x1 v35 v37) fun _ =>
      pp (.inl (x4 + 1))))))
noncomputable def fX10_solvesBoundary_B148 (x0 : Nat) (x1 : Int32) (x2 : Int32) : (Int32) → PM ((Int32) ⊕ (Unit)) := fun (x : Int32) => frI x fun y4 => fX10_solvesBoundary_b148 x0 x1 x2 y4
noncomputable def fX10_solvesBoundary_b66 (x0 : Nat) (x1 : Int32) (x2 : Int32) : PM ((Int32 × Int32) ⊕ (Unit)) :=
  pb (gI 9 14 x0) fun v13 =>
  (@ite _ (v13 ≤ x2) (dLe v13 x2) (
    pp (.inr ())
  ) (
    pb (plo (fX10_solvesBoundary_B76 x0 x1 x2) fu x1) fun z20 =>
    pb (gA 9 30 x0) fun v21 =>
    pb (gI 9 13 x0) fun v22 =>
    (@ite _ (v22 ≤ z20) (dLe v22 z20) (
      pb (tI 17 v21 x2 (-1 : Int32)) fun _ =>
      pb (gI 9 13 x0) fun v25 =>
      (@ite _ (v25 ≤ z20) (dLe v25 z20) (
        pp (.inl (x1, (x2 + 1)))
      ) (
        pb (fX10_exchanges x0 z20 x1) fun _ =>
        pb (fX10_divides x0 x1 x2) fun _ =>
        pb (plo (fX10_solvesBoundary_B148 x0 x1 x2) fu (0 : Int32)) fun z40 =>
        pp (.inl ((x1 + 1), (x2 + 1)))))
    ) (
      pb (tI 17 v21 x2 x1) fun _ =>
      pb (gI 9 13 x0) fun v42 =>
      (@ite _ (v42 ≤ z20) (dLe v42 z20) (
        pp (.inl (x1, (x2 + 1)))
      ) (
        pb (fX10_exchanges x0 z20 x1) fun _ =>
        pb (fX10_divides x0 x1 x2) fun _ =>
        pb (plo (fX10_solvesBoundary_B148 x0 x1 x2) fu (0 : Int32)) fun z48 =>
        pp (.inl ((x1 + 1), (x2 + 1)))))))))
noncomputable def fX10_solvesBoundary_B66 (x0 : Nat) : (Int32 × Int32) → PM ((Int32 × Int32) ⊕ (Unit)) := fun (x : Int32 × Int32) => frI x.1 fun y1 => frI x.2 fun y2 => fX10_solvesBoundary_b66 x0 y1 y2
noncomputable def fX10_solvesBoundary (x0 : Nat) : PM Unit :=
  pb (chk 9 x0) fun _ =>
  pb (plo (fX10_solvesBoundary_B4 x0 (0 : Int32)) fu (0 : Int32)) fun z12 =>
  pb (plo (fX10_solvesBoundary_B66 x0) fu ((0 : Int32), (0 : Int32))) fun z49 =>
  pp ()
noncomputable def fX10_laysCuspidals_b41 (x0 : Nat) (x1 : Int32) (x2 : Int32) : PM ((Int32) ⊕ (Unit)) :=
  pb (gI 9 14 x0) fun v12 =>
  (@ite _ (v12 ≤ x2) (dLe v12 x2) (
    pp (.inr ())
  ) (
    pb (gI 9 26 x0) fun v14 =>
    pb (gA 9 28 x0) fun v15 =>
    pb (gA 9 30 x0) fun v16 =>
    pb (lI 17 v16 x2) fun v17 =>
    (@ite _ (v17 = (-1 : Int32)) (dEq v17 (-1 : Int32)) (
      (@ite _ (x2 = x1) (dEq x2 x1) (
        pb (tJ 18 v15 (((16 : Int32) * v14) + x2) (1 : Int64)) fun _ =>
        pb (gA 9 29 x0) fun v47 =>
        pb (gA 9 30 x0) fun v48 =>
        pb (lI 17 v48 x2) fun v49 =>
        (@ite _ (v49 = (-1 : Int32)) (dEq v49 (-1 : Int32)) (
          pb (tJ 18 v47 (((16 : Int32) * v14) + x2) (1 : Int64)) fun _ =>
          pp (.inl (x2 + 1))
        ) (
          pb (gA 9 25 x0) fun v51 =>
          pb (gA 9 30 x0) fun v52 =>
          pb (lI 17 v52 x2) fun v53 =>
          pb (lJ 18 v51 (((16 : Int32) * v53) + x1)) fun v54 =>
          pb (tJ 18 v47 (((16 : Int32) * v14) + x2) v54) fun _ =>
          pp (.inl (x2 + 1))))
      ) (
        pb (tJ 18 v15 (((16 : Int32) * v14) + x2) (0 : Int64)) fun _ =>
        pb (gA 9 29 x0) fun v36 =>
        pb (gA 9 30 x0) fun v37 =>
        pb (lI 17 v37 x2) fun v38 =>
        (@ite _ (v38 = (-1 : Int32)) (dEq v38 (-1 : Int32)) (
          pb (tJ 18 v36 (((16 : Int32) * v14) + x2) (1 : Int64)) fun _ =>
          pp (.inl (x2 + 1))
        ) (
          pb (gA 9 25 x0) fun v40 =>
          pb (gA 9 30 x0) fun v41 =>
          pb (lI 17 v41 x2) fun v42 =>
          pb (lJ 18 v40 (((16 : Int32) * v42) + x1)) fun v43 =>
          pb (tJ 18 v36 (((16 : Int32) * v14) + x2) v43) fun _ =>
          pp (.inl (x2 + 1))))))
    ) (
      pb (gA 9 24 x0) fun v19 =>
      pb (gA 9 30 x0) fun v20 =>
      pb (lI 17 v20 x2) fun v21 =>
      pb (lJ 18 v19 (((16 : Int32) * v21) + x1)) fun v22 =>
      pb (tJ 18 v15 (((16 : Int32) * v14) + x2) (-v22)) fun _ =>
      pb (gA 9 29 x0) fun v24 =>
      pb (gA 9 30 x0) fun v25 =>
      pb (lI 17 v25 x2) fun v26 =>
      (@ite _ (v26 = (-1 : Int32)) (dEq v26 (-1 : Int32)) (
        pb (tJ 18 v24 (((16 : Int32) * v14) + x2) (1 : Int64)) fun _ =>
        pp (.inl (x2 + 1))
      ) (
        pb (gA 9 25 x0) fun v28 =>
        pb (gA 9 30 x0) fun v29 =>
        pb (lI 17 v29 x2) fun v30 =>
        pb (lJ 18 v28 (((16 : Int32) * v30) + x1)) fun v31 =>
        pb (tJ 18 v24 (((16 : Int32) * v14) + x2) v31) fun _ =>
        pp (.inl (x2 + 1))))))))
noncomputable def fX10_laysCuspidals_B41 (x0 : Nat) (x1 : Int32) : (Int32) → PM ((Int32) ⊕ (Unit)) := fun (x : Int32) => frI x fun y2 => fX10_laysCuspidals_b41 x0 x1 y2
noncomputable def fX10_laysCuspidals_b11 (x0 : Nat) (x1 : Int32) : PM ((Int32) ⊕ (Unit)) :=
  pb (gI 9 14 x0) fun v4 =>
  (@ite _ (v4 ≤ x1) (dLe v4 x1) (
    pp (.inr ())
  ) (
    pb (gA 9 30 x0) fun v6 =>
    pb (lI 17 v6 x1) fun v7 =>
    (@ite _ (v7 = (-1 : Int32)) (dEq v7 (-1 : Int32)) (
      pb (gA 9 27 x0) fun v9 =>
      pb (gI 9 26 x0) fun v10 =>
      pb (tI 17 v9 v10 x1) fun _ =>
      pb (plo (fX10_laysCuspidals_B41 x0 x1) fu (0 : Int32)) fun z57 =>
      pb (gI 9 26 x0) fun v58 =>
      pb (sI 9 26 x0 (v58 + (1 : Int32))) fun _ =>
      pp (.inl (x1 + 1))
    ) (
      pp (.inl (x1 + 1))))))
noncomputable def fX10_laysCuspidals_B11 (x0 : Nat) : (Int32) → PM ((Int32) ⊕ (Unit)) := fun (x : Int32) => frI x fun y1 => fX10_laysCuspidals_b11 x0 y1
noncomputable def fX10_laysCuspidals (x0 : Nat) : PM Unit :=
  pb (chk 9 x0) fun _ =>
  pb (fX10_solvesBoundary x0) fun _ =>
  pb (sI 9 26 x0 (0 : Int32)) fun _ =>
  pb (plo (fX10_laysCuspidals_B11 x0) fu (0 : Int32)) fun z60 =>
  pp ()
noncomputable def fX10_levelNow (x0 : Nat) (x1 : Int32) : PM Int32 :=
  pb (chk 9 x0) fun _ =>
  pb (fX10_levelHere x0) fun v1 =>
  pb (gA 9 0 x0) fun v3 =>
  pb (tJ 18 v3 (0 : Int32) x1.toInt64) fun _ =>
  pb (fX10_zeroes x0) fun _ =>
  pp v1
noncomputable def fX10_level (x0 : Nat) (x1 : Int32) : PM Int32 :=
  pb (chk 9 x0) fun _ =>
  pb (fX10_in x1.toInt64 (1 : Int64) (25 : Int64)) fun v1 =>
  (@ite _ (v1 = 0) (dEq v1 0) (
    pb (fX10_refuses x0 (-2 : Int32)) fun v7 =>
    pp v7
  ) (
    pb (fX10_keep x0) fun _ =>
    pb (fX10_levelNow x0 x1) fun v5 =>
    pp v5))
noncomputable def fX10_symbols (x0 : Nat) : PM Int32 :=
  pb (chk 9 x0) fun _ =>
  pb (fX10_lays x0) fun _ =>
  pb (gI 9 8 x0) fun v3 =>
  pp v3
noncomputable def fX10_isSymbol (x0 : Nat) (x1 : Int32) : PM Int32 :=
  pb (chk 9 x0) fun _ =>
  pb (fX10_lays x0) fun _ =>
  pb (gI 9 8 x0) fun v3 =>
  pb (fX10_in x1.toInt64 (0 : Int64) (v3 - (1 : Int32)).toInt64) fun v4 =>
  pb (pz v4) fun _ =>
  pp v4
noncomputable def fX10_symbolNow (x0 : Nat) (x1 : Int32) (x2 : Int32) : PM Int32 :=
  pb (chk 9 x0) fun _ =>
  (@ite _ (x2 = 0) (dEq x2 0) (
    pb (gA 9 10 x0) fun v2 =>
    pb (lI 17 v2 x1) fun v3 =>
    pp v3
  ) (@ite _ (x2 = 1) (dEq x2 1) (
    pb (gA 9 11 x0) fun v5 =>
    pb (lI 17 v5 x1) fun v6 =>
    pp v6
  ) (@ite _ (x2 = 2) (dEq x2 2) (
    pb (fX10_s x0 x1) fun v8 =>
    pp v8
  ) (@ite _ (x2 = 3) (dEq x2 3) (
    pb (fX10_r x0 x1) fun v11 =>
    pp v11
  ) (@ite _ (x2 = 4) (dEq x2 4) (
    pb (fX10_u x0 x1) fun v14 =>
    pp v14
  ) (@ite _ (x2 = 5) (dEq x2 5) (
    pb (gA 9 12 x0) fun v17 =>
    pb (lI 17 v17 x1) fun v18 =>
    pp v18
  ) (pb (gA 9 15 x0) fun v19 =>
  pb (lI 17 v19 x1) fun v20 =>
  pp v20)))))))
noncomputable def fX10_symbol (x0 : Nat) (x1 : Int32) (x2 : Int32) : PM Int32 :=
  pb (chk 9 x0) fun _ =>
  pb (fX10_isSymbol x0 x1) fun v1 =>
  (@ite _ (v1 = 0) (dEq v1 0) (
    pb (fX10_refuses x0 (-2 : Int32)) fun v4 =>
    pp v4
  ) (
    pb (fX10_in x2.toInt64 (0 : Int64) (6 : Int64)) fun v6 =>
    (@ite _ (v6 = 0) (dEq v6 0) (
      pb (fX10_refuses x0 (-2 : Int32)) fun v8 =>
      pp v8
    ) (
      pb (fX10_symbolNow x0 x1 x2) fun v10 =>
      pp v10))))
noncomputable def fX10_pair (x0 : Nat) (x1 : Int32) (x2 : Int32) : PM Int32 :=
  pb (chk 9 x0) fun _ =>
  pb (fX10_in x1.toInt64 (-9999 : Int64) (9999 : Int64)) fun v1 =>
  (@ite _ (v1 = 0) (dEq v1 0) (
    pb (fX10_refuses x0 (-2 : Int32)) fun v3 =>
    pp v3
  ) (
    pb (fX10_in x2.toInt64 (-9999 : Int64) (9999 : Int64)) fun v5 =>
    (@ite _ (v5 = 0) (dEq v5 0) (
      pb (fX10_refuses x0 (-2 : Int32)) fun v11 =>
      pp v11
    ) (
      pb (fX10_lays x0) fun _ =>
      pb (fX10_of x0 x1 x2) fun v9 =>
      pp v9))))
noncomputable def fX10_plain_b4 (x0 : Nat) (x1 : Int32) (x2 : Int32) : PM ((Int32 × Int32) ⊕ (Int32)) :=
  pb (gI 9 14 x0) fun v1 =>
  (@ite _ (v1 ≤ x2) (dLe v1 x2) (
    pp (.inr x1)
  ) (
    pb (gA 9 12 x0) fun v3 =>
    pb (gA 9 16 x0) fun v4 =>
    pb (lI 17 v4 x2) fun v5 =>
    pb (lI 17 v3 v5) fun v6 =>
    pb (gA 9 12 x0) fun v7 =>
    pb (gA 9 16 x0) fun v8 =>
    pb (lI 17 v8 x2) fun v9 =>
    pb (fX10_s x0 v9) fun v10 =>
    pb (lI 17 v7 v10) fun v12 =>
    (@ite _ (v6 = v12) (dEq v6 v12) (
      pp (.inl ((x1 + (1 : Int32)), (x2 + 1)))
    ) (
      pp (.inl ((x1 + (0 : Int32)), (x2 + 1)))))))
noncomputable def fX10_plain_B4 (x0 : Nat) : (Int32 × Int32) → PM ((Int32 × Int32) ⊕ (Int32)) := fun (x : Int32 × Int32) => frI x.1 fun y1 => frI x.2 fun y2 => fX10_plain_b4 x0 y1 y2
noncomputable def fX10_plain (x0 : Nat) : PM Int32 :=
  pb (chk 9 x0) fun _ =>
  pb (plo (fX10_plain_B4 x0) fu ((0 : Int32), (0 : Int32))) fun z14 =>
  pp z14
noncomputable def fX10_genus (x0 : Nat) : PM Int32 :=
  pb (chk 9 x0) fun _ =>
  pb (fX10_laysCuspidals x0) fun _ =>
  pb (gI 9 26 x0) fun v3 =>
  pp (v3 / (2 : Int32))
noncomputable def fX10_spaceNow (x0 : Nat) (x1 : Int32) : PM Int32 :=
  pb (chk 9 x0) fun _ =>
  pb (fX10_lays x0) fun _ =>
  (@ite _ (x1 = 0) (dEq x1 0) (
    pb (gI 9 14 x0) fun v11 =>
    pp v11
  ) (
    (@ite _ (x1 = (1 : Int32)) (dEq x1 (1 : Int32)) (
      pb (gI 9 13 x0) fun v10 =>
      pp v10
    ) (
      (@ite _ (x1 = (2 : Int32)) (dEq x1 (2 : Int32)) (
        pb (fX10_genus x0) fun v8 =>
        pp v8
      ) (
        pb (fX10_plain x0) fun v6 =>
        pp v6))))))
noncomputable def fX10_space (x0 : Nat) (x1 : Int32) : PM Int32 :=
  pb (chk 9 x0) fun _ =>
  pb (fX10_in x1.toInt64 (0 : Int64) (3 : Int64)) fun v1 =>
  (@ite _ (v1 = 0) (dEq v1 0) (
    pb (fX10_refuses x0 (-2 : Int32)) fun v3 =>
    pp v3
  ) (
    pb (fX10_spaceNow x0 x1) fun v5 =>
    pp v5))
noncomputable def fX10_fraction (x0 : Nat) (x1 : Int32) (x2 : Int32) (x3 : Int32) : PM Int64 :=
  pb (chk 9 x0) fun _ =>
  pb (fX10_isSymbol x0 x1) fun v1 =>
  (@ite _ (v1 = 0) (dEq v1 0) (
    pb (fX10_refuses x0 (-2 : Int32)) fun v4 =>
    pp v4.toInt64
  ) (
    pb (gI 9 14 x0) fun v6 =>
    pb (fX10_in x2.toInt64 (0 : Int64) (v6 - (1 : Int32)).toInt64) fun v7 =>
    (@ite _ (v7 = 0) (dEq v7 0) (
      pb (fX10_refuses x0 (-2 : Int32)) fun v9 =>
      pp v9.toInt64
    ) (
      pb (fX10_in x3.toInt64 (0 : Int64) (1 : Int64)) fun v11 =>
      (@ite _ (v11 = 0) (dEq v11 0) (
        pb (fX10_refuses x0 (-2 : Int32)) fun v18 =>
        pp v18.toInt64
      ) (
        (@ite _ (x3 = 0) (dEq x3 0) (
          pb (gA 9 20 x0) fun v16 =>
          pb (lJ 18 v16 (((16 : Int32) * x1) + x2)) fun v17 =>
          pp v17
        ) (
          pb (gA 9 21 x0) fun v14 =>
          pb (lJ 18 v14 (((16 : Int32) * x1) + x2)) fun v15 =>
          pp v15))))))))
noncomputable def fX10_canOperate (x0 : Nat) (x1 : Int32) : PM Int32 :=
  pb (chk 9 x0) fun _ =>
  pb (fX10_in x1.toInt64 (1 : Int64) (7 : Int64)) fun v1 =>
  (@ite _ (v1 = 0) (dEq v1 0) (
    pp (-2 : Int32)
  ) (
    pb (fX10_levelHere x0) fun v3 =>
    pb (fX10_divisor x1.toInt64 v3.toInt64) fun v5 =>
    (@ite _ ((lg_cmp v5 (1 : Int64)) ≤ 0) (dcLE v5 (1 : Int64)) (
      pp (0 : Int32)
    ) (
      pp (-3 : Int32)))))
noncomputable def fX10_addsImage_b2 (x0 : Nat) (x1 : Int32) (x2 : Int32) : PM ((Int32) ⊕ (Unit)) :=
  pb (gI 9 14 x0) fun v1 =>
  (@ite _ (v1 ≤ x2) (dLe v1 x2) (
    pp (.inr ())
  ) (
    (@ite _ (x1 = (-1 : Int32)) (dEq x1 (-1 : Int32)) (
      pp (.inr ())
    ) (
      pb (gA 9 31 x0) fun v4 =>
      pb (lJ 18 v4 x2) fun v5 =>
      pb (gA 9 32 x0) fun v6 =>
      pb (lJ 18 v6 x2) fun v7 =>
      pb (gA 9 20 x0) fun v8 =>
      pb (lJ 18 v8 (((16 : Int32) * x1) + x2)) fun v9 =>
      pb (gA 9 21 x0) fun v10 =>
      pb (lJ 18 v10 (((16 : Int32) * x1) + x2)) fun v11 =>
      pb (fX10_sumOf x0 v5 v7 v9 v11) fun _ =>
      pb (gA 9 31 x0) fun v14 =>
      pb (gJ 9 5 x0) fun v15 =>
      pb (tJ 18 v14 x2 v15) fun _ =>
      pb (gA 9 32 x0) fun v17 =>
      pb (gJ 9 6 x0) fun v18 =>
      pb (tJ 18 v17 x2 v18) fun _ =>
      pp (.inl (x2 + 1))))))
noncomputable def fX10_addsImage_B2 (x0 : Nat) (x1 : Int32) : (Int32) → PM ((Int32) ⊕ (Unit)) := fun (x : Int32) => frI x fun y2 => fX10_addsImage_b2 x0 x1 y2
noncomputable def fX10_addsImage (x0 : Nat) (x1 : Int32) : PM Unit :=
  pb (chk 9 x0) fun _ =>
  pb (plo (fX10_addsImage_B2 x0 x1) fu (0 : Int32)) fun z20 =>
  pp ()
noncomputable def fX10_laysImage_b2 (x0 : Nat) (x1 : Int32) (x2 : Int32) (x3 : Int32) : PM ((Int32) ⊕ (Unit)) :=
  pb (gI 9 14 x0) fun v1 =>
  (@ite _ (v1 ≤ x3) (dLe v1 x3) (
    pp (.inr ())
  ) (
    pb (gA 9 31 x0) fun v3 =>
    pb (tJ 18 v3 x3 (0 : Int64)) fun _ =>
    pb (gA 9 32 x0) fun v5 =>
    pb (tJ 18 v5 x3 (1 : Int64)) fun _ =>
    pp (.inl (x3 + 1))))
noncomputable def fX10_laysImage_B2 (x0 : Nat) (x1 : Int32) (x2 : Int32) : (Int32) → PM ((Int32) ⊕ (Unit)) := fun (x : Int32) => frI x fun y3 => fX10_laysImage_b2 x0 x1 x2 y3
noncomputable def fX10_laysImage_b58 (x0 : Nat) (x1 : Int32) (x2 : Int32) (x3 : Int32) (x4 : Int32) (x5 : Int32) (x6 : Int32) : PM ((Int32) ⊕ (Unit)) :=
  (@ite _ (x4 ≤ x6) (dLe x4 x6) (
    pp (.inr ())
  ) (
    (@ite _ (((x3 * x4) - (x5 * x6)) = x1) (dEq ((x3 * x4) - (x5 * x6)) x1) (
      pb (gA 9 10 x0) fun v13 =>
      pb (lI 17 v13 x2) fun v14 =>
      pb (gA 9 11 x0) fun v15 =>
      pb (lI 17 v15 x2) fun v16 =>
      pb (gA 9 10 x0) fun v17 =>
      pb (lI 17 v17 x2) fun v18 =>
      pb (gA 9 11 x0) fun v19 =>
      pb (lI 17 v19 x2) fun v20 =>
      pb (fX10_of x0 ((v14 * x3) + (v16 * x6)) ((v18 * x5) + (v20 * x4))) fun v21 =>
      pb (fX10_addsImage x0 v21) fun _ =>
      pp (.inl (x6 + 1))
    ) (
      pp (.inl (x6 + 1))))))
noncomputable def fX10_laysImage_B58 (x0 : Nat) (x1 : Int32) (x2 : Int32) (x3 : Int32) (x4 : Int32) (x5 : Int32) : (Int32) → PM ((Int32) ⊕ (Unit)) := fun (x : Int32) => frI x fun y6 => fX10_laysImage_b58 x0 x1 x2 x3 x4 x5 y6
noncomputable def fX10_laysImage_b49 (x0 : Nat) (x1 : Int32) (x2 : Int32) (x3 : Int32) (x4 : Int32) (x5 : Int32) : PM ((Int32) ⊕ (Unit)) :=
  (@ite _ (x3 ≤ x5) (dLe x3 x5) (
    pp (.inr ())
  ) (
    pb (plo (fX10_laysImage_B58 x0 x1 x2 x3 x4 x5) fu (0 : Int32)) fun z25 =>
    pp (.inl (x5 + 1))))
noncomputable def fX10_laysImage_B49 (x0 : Nat) (x1 : Int32) (x2 : Int32) (x3 : Int32) (x4 : Int32) : (Int32) → PM ((Int32) ⊕ (Unit)) := fun (x : Int32) => frI x fun y5 => fX10_laysImage_b49 x0 x1 x2 x3 x4 y5
noncomputable def fX10_laysImage_b40 (x0 : Nat) (x1 : Int32) (x2 : Int32) (x3 : Int32) (x4 : Int32) : PM ((Int32) ⊕ (Unit)) :=
  (@ite _ (x1 < x4) (dLt x1 x4) (
    pp (.inr ())
  ) (
    pb (plo (fX10_laysImage_B49 x0 x1 x2 x3 x4) fu (0 : Int32)) fun z26 =>
    pp (.inl (x4 + 1))))
noncomputable def fX10_laysImage_B40 (x0 : Nat) (x1 : Int32) (x2 : Int32) (x3 : Int32) : (Int32) → PM ((Int32) ⊕ (Unit)) := fun (x : Int32) => frI x fun y4 => fX10_laysImage_b40 x0 x1 x2 x3 y4
noncomputable def fX10_laysImage_b32 (x0 : Nat) (x1 : Int32) (x2 : Int32) (x3 : Int32) : PM ((Int32) ⊕ (Unit)) :=
  (@ite _ (x1 < x3) (dLt x1 x3) (
    pp (.inr ())
  ) (
    pb (plo (fX10_laysImage_B40 x0 x1 x2 x3) fu (1 : Int32)) fun z27 =>
    pp (.inl (x3 + 1))))
noncomputable def fX10_laysImage_B32 (x0 : Nat) (x1 : Int32) (x2 : Int32) : (Int32) → PM ((Int32) ⊕ (Unit)) := fun (x : Int32) => frI x fun y3 => fX10_laysImage_b32 x0 x1 x2 y3
noncomputable def fX10_laysImage (x0 : Nat) (x1 : Int32) (x2 : Int32) : PM Unit :=
  pb (chk 9 x0) fun _ =>
  pb (plo (fX10_laysImage_B2 x0 x1 x2) fu (0 : Int32)) fun z7 =>
  pb (plo (fX10_laysImage_B32 x0 x1 x2) fu (1 : Int32)) fun z28 =>
  pp ()
noncomputable def fX10_laysOperator_b27 (x0 : Nat) (x1 : Int32) (x2 : Int32) (x3 : Int32) : PM ((Int32) ⊕ (Unit)) :=
  pb (gI 9 14 x0) fun v9 =>
  (@ite _ (v9 ≤ x3) (dLe v9 x3) (
    pp (.inr ())
  ) (
    pb (gA 9 33 x0) fun v11 =>
    pb (gA 9 31 x0) fun v12 =>
    pb (lJ 18 v12 x3) fun v13 =>
    pb (tJ 18 v11 (((16 : Int32) * x3) + x2) v13) fun _ =>
    pb (gA 9 34 x0) fun v15 =>
    pb (gA 9 32 x0) fun v16 =>
    pb (lJ 18 v16 x3) fun v17 =>
    pb (tJ 18 v15 (((16 : Int32) * x3) + x2) v17) fun _ =>
    pp (.inl (x3 + 1))))
noncomputable def fX10_laysOperator_B27 (x0 : Nat) (x1 : Int32) (x2 : Int32) : (Int32) → PM ((Int32) ⊕ (Unit)) := fun (x : Int32) => frI x fun y3 => fX10_laysOperator_b27 x0 x1 x2 y3
noncomputable def fX10_laysOperator_b6 (x0 : Nat) (x1 : Int32) (x2 : Int32) : PM ((Int32) ⊕ (Unit)) :=
  pb (gI 9 14 x0) fun v3 =>
  (@ite _ (v3 ≤ x2) (dLe v3 x2) (
    pp (.inr ())
  ) (
    pb (gA 9 16 x0) fun v5 =>
    pb (lI 17 v5 x2) fun v6 =>
    pb (fX10_laysImage x0 x1 v6) fun _ =>
    pb (plo (fX10_laysOperator_B27 x0 x1 x2) fu (0 : Int32)) fun z19 =>
    pp (.inl (x2 + 1))))
noncomputable def fX10_laysOperator_B6 (x0 : Nat) (x1 : Int32) : (Int32) → PM ((Int32) ⊕ (Unit)) := fun (x : Int32) => frI x fun y2 => fX10_laysOperator_b6 x0 x1 y2
noncomputable def fX10_laysOperator (x0 : Nat) (x1 : Int32) : PM Unit :=
  pb (chk 9 x0) fun _ =>
  pb (fX10_lays x0) fun _ =>
  pb (plo (fX10_laysOperator_B6 x0 x1) fu (0 : Int32)) fun z20 =>
  pp ()
noncomputable def fX10_table (x0 : Nat) (x1 : Int32) (x2 : Int32) (x3 : Int32) (x4 : Int32) : PM Int64 :=
  pb (chk 9 x0) fun _ =>
  pb (fX10_canOperate x0 x1) fun v1 =>
  pb (fX10_lays x0) fun _ =>
  (@ite _ (v1 = (-2 : Int32)) (dEq v1 (-2 : Int32)) (
    pb (fX10_refuses x0 (-2 : Int32)) fun v6 =>
    pp v6.toInt64
  ) (
    pb (gI 9 14 x0) fun v8 =>
    pb (fX10_in x2.toInt64 (0 : Int64) (v8 - (1 : Int32)).toInt64) fun v9 =>
    (@ite _ (v9 = 0) (dEq v9 0) (
      pb (fX10_refuses x0 (-2 : Int32)) fun v11 =>
      pp v11.toInt64
    ) (
      pb (gI 9 14 x0) fun v13 =>
      pb (fX10_in x3.toInt64 (0 : Int64) (v13 - (1 : Int32)).toInt64) fun v14 =>
      (@ite _ (v14 = 0) (dEq v14 0) (
        pb (fX10_refuses x0 (-2 : Int32)) fun v16 =>
        pp v16.toInt64
      ) (
        pb (fX10_in x4.toInt64 (0 : Int64) (1 : Int64)) fun v18 =>
        (@ite _ (v18 = 0) (dEq v18 0) (
          pb (fX10_refuses x0 (-2 : Int32)) fun v30 =>
          pp v30.toInt64
        ) (
          (@ite _ (v1 = (-3 : Int32)) (dEq v1 (-3 : Int32)) (
            pb (fX10_refuses x0 (-3 : Int32)) fun v28 =>
            pp v28.toInt64
          ) (
            pb (fX10_laysOperator x0 x1) fun _ =>
            (@ite _ (x4 = 0) (dEq x4 0) (
              pb (gA 9 33 x0) fun v26 =>
              pb (lJ 18 v26 (((16 : Int32) * x2) + x3)) fun v27 =>
              pp v27
            ) (
              pb (gA 9 34 x0) fun v24 =>
              pb (lJ 18 v24 (((16 : Int32) * x2) + x3)) fun v25 =>
              pp v25))))))))))))
noncomputable def fX10_laysTable_b100 (x0 : Nat) (x3 : Int32) (x4 : Int32) (x5 : Int64) (x7 : Int64) (x9 : Int32) : PM ((Int64 × Int64 × Int32) ⊕ (Int64 × Int64)) :=
  pb (gI 9 14 x0) fun v12 =>
  (@ite _ (v12 ≤ x9) (dLe v12 x9) (
    pp (.inr (x5, x7))
  ) (
    pb (gA 9 33 x0) fun v14 =>
    pb (gA 9 27 x0) fun v15 =>
    pb (lI 17 v15 x3) fun v16 =>
    pb (lJ 18 v14 (((16 : Int32) * v16) + x9)) fun v17 =>
    pb (gA 9 34 x0) fun v18 =>
    pb (gA 9 27 x0) fun v19 =>
    pb (lI 17 v19 x3) fun v20 =>
    pb (lJ 18 v18 (((16 : Int32) * v20) + x9)) fun v21 =>
    pb (gA 9 28 x0) fun v22 =>
    pb (lJ 18 v22 (((16 : Int32) * x4) + x9)) fun v23 =>
    pb (gA 9 29 x0) fun v24 =>
    pb (lJ 18 v24 (((16 : Int32) * x4) + x9)) fun v25 =>
    pb (fX10_more x0 x5 x7 v17 v21 v23 v25) fun _ =>
    pb (gJ 9 5 x0) fun v28 =>
    pb (gJ 9 6 x0) fun v29 =>
    pp (.inl (v28, v29, (x9 + 1)))))
noncomputable def fX10_laysTable_B100 (x0 : Nat) (x3 : Int32) (x4 : Int32) : (Int64 × Int64 × Int32) → PM ((Int64 × Int64 × Int32) ⊕ (Int64 × Int64)) := fun (x : Int64 × Int64 × Int32) => frJ x.1 fun y5 => frJ x.2.1 fun y7 => frI x.2.2 fun y9 => fX10_laysTable_b100 x0 x3 x4 y5 y7 y9
noncomputable def fX10_laysTable_b82 (x0 : Nat) (x3 : Int32) (x4 : Int32) : PM ((Int32) ⊕ (Unit)) :=
  pb (gI 9 35 x0) fun v10 =>
  (@ite _ (v10 ≤ x4) (dLe v10 x4) (
    pp (.inr ())
  ) (
    pb (plo (fX10_laysTable_B100 x0 x3 x4) fu ((0 : Int64), (1 : Int64), (0 : Int32))) fun z30 =>
    pb (gA 9 24 x0) fun v31 =>
    pb (tJ 18 v31 (((16 : Int32) * x3) + x4) z30.1) fun _ =>
    pb (gA 9 25 x0) fun v33 =>
    pb (tJ 18 v33 (((16 : Int32) * x3) + x4) z30.2) fun _ =>
    pp (.inl (x4 + 1))))
noncomputable def fX10_laysTable_B82 (x0 : Nat) (x3 : Int32) : (Int32) → PM ((Int32) ⊕ (Unit)) := fun (x : Int32) => frI x fun y4 => fX10_laysTable_b82 x0 x3 y4
noncomputable def fX10_laysTable_b71 (x0 : Nat) (x3 : Int32) : PM ((Int32) ⊕ (Unit)) :=
  pb (gI 9 35 x0) fun v8 =>
  (@ite _ (v8 ≤ x3) (dLe v8 x3) (
    pp (.inr ())
  ) (
    pb (plo (fX10_laysTable_B82 x0 x3) fu (0 : Int32)) fun z35 =>
    pp (.inl (x3 + 1))))
noncomputable def fX10_laysTable_B71 (x0 : Nat) : (Int32) → PM ((Int32) ⊕ (Unit)) := fun (x : Int32) => frI x fun y3 => fX10_laysTable_b71 x0 y3
noncomputable def fX10_laysTable_b19 (x0 : Nat) (x3 : Int32) : PM ((Int32) ⊕ (Unit)) :=
  (@ite _ ((256 : Int32) ≤ x3) (dLe (256 : Int32) x3) (
    pp (.inr ())
  ) (
    pb (gA 9 24 x0) fun v40 =>
    pb (gA 9 33 x0) fun v41 =>
    pb (lJ 18 v41 x3) fun v42 =>
    pb (tJ 18 v40 x3 v42) fun _ =>
    pb (gA 9 25 x0) fun v44 =>
    pb (gA 9 34 x0) fun v45 =>
    pb (lJ 18 v45 x3) fun v46 =>
    pb (tJ 18 v44 x3 v46) fun _ =>
    pp (.inl (x3 + 1))))
noncomputable def fX10_laysTable_B19 (x0 : Nat) : (Int32) → PM ((Int32) ⊕ (Unit)) := fun (x : Int32) => frI x fun y3 => fX10_laysTable_b19 x0 y3
noncomputable def fX10_laysTable (x0 : Nat) (x1 : Int32) (x2 : Int32) : PM Unit :=
  pb (chk 9 x0) fun _ =>
  pb (fX10_laysOperator x0 x1) fun _ =>
  (@ite _ (x2 = 0) (dEq x2 0) (
    pb (gI 9 14 x0) fun v37 =>
    pb (sI 9 35 x0 v37) fun _ =>
    pb (plo (fX10_laysTable_B19 x0) fu (0 : Int32)) fun z48 =>
    pp ()
  ) (
    pb (fX10_laysCuspidals x0) fun _ =>
    pb (gI 9 26 x0) fun v6 =>
    pb (sI 9 35 x0 v6) fun _ =>
    pb (plo (fX10_laysTable_B71 x0) fu (0 : Int32)) fun z36 =>
    pp ()))
noncomputable def fX10_laysTrace (x0 : Nat) : PM Unit :=
  pb (chk 9 x0) fun _ =>
  pb (sJ 9 5 x0 (0 : Int64)) fun _ =>
  pb (sJ 9 6 x0 (1 : Int64)) fun _ =>
  pp ()
noncomputable def fX10_diagonal_b6 (x0 : Nat) (x1 : Int32) : PM ((Int32) ⊕ (Unit)) :=
  pb (gI 9 35 x0) fun v3 =>
  (@ite _ (v3 ≤ x1) (dLe v3 x1) (
    pp (.inr ())
  ) (
    pb (gJ 9 5 x0) fun v5 =>
    pb (gJ 9 6 x0) fun v6 =>
    pb (gA 9 38 x0) fun v7 =>
    pb (lJ 18 v7 ((17 : Int32) * x1)) fun v8 =>
    pb (gA 9 39 x0) fun v9 =>
    pb (lJ 18 v9 ((17 : Int32) * x1)) fun v10 =>
    pb (fX10_sumOf x0 v5 v6 v8 v10) fun _ =>
    pp (.inl (x1 + 1))))
noncomputable def fX10_diagonal_B6 (x0 : Nat) : (Int32) → PM ((Int32) ⊕ (Unit)) := fun (x : Int32) => frI x fun y1 => fX10_diagonal_b6 x0 y1
noncomputable def fX10_diagonal (x0 : Nat) : PM Int64 :=
  pb (chk 9 x0) fun _ =>
  pb (fX10_laysTrace x0) fun _ =>
  pb (plo (fX10_diagonal_B6 x0) fu (0 : Int32)) fun z13 =>
  pb (gJ 9 5 x0) fun v14 =>
  pb (gJ 9 6 x0) fun v15 =>
  (@ite _ (v15 = 0) (dEqJ v15) pf (
  pp (v14 / v15)))
noncomputable def fX10_multiplies_b28 (x0 : Nat) (x1 : Int32) (x2 : Int32) (x3 : Int64) (x5 : Int64) (x7 : Int32) : PM ((Int64 × Int64 × Int32) ⊕ (Int64 × Int64)) :=
  pb (gI 9 35 x0) fun v5 =>
  (@ite _ (v5 ≤ x7) (dLe v5 x7) (
    pp (.inr (x3, x5))
  ) (
    pb (gA 9 24 x0) fun v7 =>
    pb (lJ 18 v7 (((16 : Int32) * x1) + x7)) fun v8 =>
    pb (gA 9 25 x0) fun v9 =>
    pb (lJ 18 v9 (((16 : Int32) * x1) + x7)) fun v10 =>
    pb (gA 9 36 x0) fun v11 =>
    pb (lJ 18 v11 (((16 : Int32) * x7) + x2)) fun v12 =>
    pb (gA 9 37 x0) fun v13 =>
    pb (lJ 18 v13 (((16 : Int32) * x7) + x2)) fun v14 =>
    pb (fX10_more x0 x3 x5 v8 v10 v12 v14) fun _ =>
    pb (gJ 9 5 x0) fun v17 =>
    pb (gJ 9 6 x0) fun v18 =>
    pp (.inl (v17, v18, (x7 + 1)))))
noncomputable def fX10_multiplies_B28 (x0 : Nat) (x1 : Int32) (x2 : Int32) : (Int64 × Int64 × Int32) → PM ((Int64 × Int64 × Int32) ⊕ (Int64 × Int64)) := fun (x : Int64 × Int64 × Int32) => frJ x.1 fun y3 => frJ x.2.1 fun y5 => frI x.2.2 fun y7 => fX10_multiplies_b28 x0 x1 x2 y3 y5 y7
noncomputable def fX10_multiplies_b12 (x0 : Nat) (x1 : Int32) (x2 : Int32) : PM ((Int32) ⊕ (Unit)) :=
  pb (gI 9 35 x0) fun v3 =>
  (@ite _ (v3 ≤ x2) (dLe v3 x2) (
    pp (.inr ())
  ) (
    pb (plo (fX10_multiplies_B28 x0 x1 x2) fu ((0 : Int64), (1 : Int64), (0 : Int32))) fun z19 =>
    pb (gA 9 38 x0) fun v20 =>
    pb (tJ 18 v20 (((16 : Int32) * x1) + x2) z19.1) fun _ =>
    pb (gA 9 39 x0) fun v22 =>
    pb (tJ 18 v22 (((16 : Int32) * x1) + x2) z19.2) fun _ =>
    pp (.inl (x2 + 1))))
noncomputable def fX10_multiplies_B12 (x0 : Nat) (x1 : Int32) : (Int32) → PM ((Int32) ⊕ (Unit)) := fun (x : Int32) => frI x fun y2 => fX10_multiplies_b12 x0 x1 y2
noncomputable def fX10_multiplies_b2 (x0 : Nat) (x1 : Int32) : PM ((Int32) ⊕ (Unit)) :=
  pb (gI 9 35 x0) fun v1 =>
  (@ite _ (v1 ≤ x1) (dLe v1 x1) (
    pp (.inr ())
  ) (
    pb (plo (fX10_multiplies_B12 x0 x1) fu (0 : Int32)) fun z24 =>
    pp (.inl (x1 + 1))))
noncomputable def fX10_multiplies_B2 (x0 : Nat) : (Int32) → PM ((Int32) ⊕ (Unit)) := fun (x : Int32) => frI x fun y1 => fX10_multiplies_b2 x0 y1
noncomputable def fX10_multiplies (x0 : Nat) : PM Unit :=
  pb (chk 9 x0) fun _ =>
  pb (plo (fX10_multiplies_B2 x0) fu (0 : Int32)) fun z25 =>
  pp ()
noncomputable def fX10_laysPolynomial_b4 (x0 : Nat) (x1 : Int64) (x3 : Int32) : PM ((Int32) ⊕ (Unit)) :=
  (@ite _ ((16 : Int32) < x3) (dLt (16 : Int32) x3) (
    pp (.inr ())
  ) (
    pb (gA 9 40 x0) fun v2 =>
    pb (tJ 18 v2 x3 (0 : Int64)) fun _ =>
    pp (.inl (x3 + 1))))
noncomputable def fX10_laysPolynomial_B4 (x0 : Nat) (x1 : Int64) : (Int32) → PM ((Int32) ⊕ (Unit)) := fun (x : Int32) => frI x fun y3 => fX10_laysPolynomial_b4 x0 x1 y3
noncomputable def fX10_laysPolynomial_b35 (x0 : Nat) (x1 : Int64) (x3 : Int32) : PM ((Int32) ⊕ (Unit)) :=
  (@ite _ ((256 : Int32) ≤ x3) (dLe (256 : Int32) x3) (
    pp (.inr ())
  ) (
    pb (gA 9 38 x0) fun v9 =>
    pb (tJ 18 v9 x3 (0 : Int64)) fun _ =>
    pb (gA 9 39 x0) fun v11 =>
    pb (tJ 18 v11 x3 (1 : Int64)) fun _ =>
    pp (.inl (x3 + 1))))
noncomputable def fX10_laysPolynomial_B35 (x0 : Nat) (x1 : Int64) : (Int32) → PM ((Int32) ⊕ (Unit)) := fun (x : Int32) => frI x fun y3 => fX10_laysPolynomial_b35 x0 x1 y3
noncomputable def fX10_laysPolynomial_b75 (x0 : Nat) (x1 : Int64) (x3 : Int32) (x4 : Int32) : PM ((Int32) ⊕ (Unit)) :=
  (@ite _ ((256 : Int32) ≤ x4) (dLe (256 : Int32) x4) (
    pp (.inr ())
  ) (
    pb (gA 9 36 x0) fun v17 =>
    pb (gA 9 38 x0) fun v18 =>
    pb (lJ 18 v18 x4) fun v19 =>
    pb (tJ 18 v17 x4 v19) fun _ =>
    pb (gA 9 37 x0) fun v21 =>
    pb (gA 9 39 x0) fun v22 =>
    pb (lJ 18 v22 x4) fun v23 =>
    pb (tJ 18 v21 x4 v23) fun _ =>
    pp (.inl (x4 + 1))))
noncomputable def fX10_laysPolynomial_B75 (x0 : Nat) (x1 : Int64) (x3 : Int32) : (Int32) → PM ((Int32) ⊕ (Unit)) := fun (x : Int32) => frI x fun y4 => fX10_laysPolynomial_b75 x0 x1 x3 y4
noncomputable def fX10_laysPolynomial_b120 (x0 : Nat) (x1 : Int64) (x3 : Int32) (x4 : Int32) : PM ((Int32) ⊕ (Unit)) :=
  pb (gI 9 35 x0) fun v26 =>
  (@ite _ (v26 ≤ x4) (dLe v26 x4) (
    pp (.inr ())
  ) (
    pb (gA 9 36 x0) fun v28 =>
    pb (lJ 18 v28 ((17 : Int32) * x4)) fun v29 =>
    pb (gA 9 37 x0) fun v30 =>
    pb (lJ 18 v30 ((17 : Int32) * x4)) fun v31 =>
    pb (fX10_sumOf x0 v29 v31 x1 (1 : Int64)) fun _ =>
    pb (gA 9 36 x0) fun v34 =>
    pb (gJ 9 5 x0) fun v35 =>
    pb (tJ 18 v34 ((17 : Int32) * x4) v35) fun _ =>
    pb (gA 9 37 x0) fun v37 =>
    pb (gJ 9 6 x0) fun v38 =>
    pb (tJ 18 v37 ((17 : Int32) * x4) v38) fun _ =>
    pp (.inl (x4 + 1))))
noncomputable def fX10_laysPolynomial_B120 (x0 : Nat) (x1 : Int64) (x3 : Int32) : (Int32) → PM ((Int32) ⊕ (Unit)) := fun (x : Int32) => frI x fun y4 => fX10_laysPolynomial_b120 x0 x1 x3 y4
noncomputable def fX10_laysPolynomial_b64 (x0 : Nat) (x1 : Int64) (x3 : Int32) : PM ((Int64 × Int32) ⊕ (Unit)) :=
  pb (gI 9 35 x0) fun v14 =>
  (@ite _ (v14 < x3) (dLt v14 x3) (
    pp (.inr ())
  ) (
    pb (plo (fX10_laysPolynomial_B75 x0 x1 x3) fu (0 : Int32)) fun z25 =>
    pb (plo (fX10_laysPolynomial_B120 x0 x1 x3) fu (0 : Int32)) fun z40 =>
    pb (fX10_multiplies x0) fun _ =>
    pb (fX10_diagonal x0) fun v43 =>
    (@ite _ (x3.toInt64 = 0) (dEqJ x3.toInt64) pf (
    pb (gA 9 40 x0) fun v46 =>
    pb (gI 9 35 x0) fun v47 =>
    pb (tJ 18 v46 (v47 - x3) ((-v43) / x3.toInt64)) fun _ =>
    pp (.inl (((-v43) / x3.toInt64), (x3 + 1)))))))
noncomputable def fX10_laysPolynomial_B64 (x0 : Nat) : (Int64 × Int32) → PM ((Int64 × Int32) ⊕ (Unit)) := fun (x : Int64 × Int32) => frJ x.1 fun y1 => frI x.2 fun y3 => fX10_laysPolynomial_b64 x0 y1 y3
noncomputable def fX10_laysPolynomial (x0 : Nat) : PM Unit :=
  pb (chk 9 x0) fun _ =>
  pb (plo (fX10_laysPolynomial_B4 x0 (1 : Int64)) fu (0 : Int32)) fun z4 =>
  pb (gA 9 40 x0) fun v5 =>
  pb (gI 9 35 x0) fun v6 =>
  pb (tJ 18 v5 v6 (1 : Int64)) fun _ =>
  pb (plo (fX10_laysPolynomial_B35 x0 (1 : Int64)) fu (0 : Int32)) fun z13 =>
  pb (plo (fX10_laysPolynomial_B64 x0) fu ((1 : Int64), (1 : Int32))) fun z49 =>
  pp ()
noncomputable def fX10_trace_b66 (x0 : Nat) (x4 : Int32) : PM ((Int32) ⊕ (Unit)) :=
  (@ite _ ((256 : Int32) ≤ x4) (dLe (256 : Int32) x4) (
    pp (.inr ())
  ) (
    pb (gA 9 38 x0) fun v13 =>
    pb (gA 9 24 x0) fun v14 =>
    pb (lJ 18 v14 x4) fun v15 =>
    pb (tJ 18 v13 x4 v15) fun _ =>
    pb (gA 9 39 x0) fun v17 =>
    pb (gA 9 25 x0) fun v18 =>
    pb (lJ 18 v18 x4) fun v19 =>
    pb (tJ 18 v17 x4 v19) fun _ =>
    pp (.inl (x4 + 1))))
noncomputable def fX10_trace_B66 (x0 : Nat) : (Int32) → PM ((Int32) ⊕ (Unit)) := fun (x : Int32) => frI x fun y4 => fX10_trace_b66 x0 y4
noncomputable def fX10_trace (x0 : Nat) (x1 : Int32) (x2 : Int32) : PM Int64 :=
  pb (chk 9 x0) fun _ =>
  pb (fX10_canOperate x0 x1) fun v1 =>
  (@ite _ (v1 = (-2 : Int32)) (dEq v1 (-2 : Int32)) (
    pb (fX10_refusesBy x0 (-2 : Int32) (-9999 : Int64)) fun v4 =>
    pp v4
  ) (
    pb (fX10_in x2.toInt64 (0 : Int64) (1 : Int64)) fun v6 =>
    (@ite _ (v6 = 0) (dEq v6 0) (
      pb (fX10_refusesBy x0 (-2 : Int32) (-9999 : Int64)) fun v31 =>
      pp v31
    ) (
      (@ite _ (v1 = (-3 : Int32)) (dEq v1 (-3 : Int32)) (
        pb (fX10_refusesBy x0 (-3 : Int32) (-9998 : Int64)) fun v29 =>
        pp v29
      ) (
        (@ite _ (x2 = (1 : Int32)) (dEq x2 (1 : Int32)) (
          pb (fX10_laysTable x0 x1 (1 : Int32)) fun _ =>
          pb (plo (fX10_trace_B66 x0) fu (0 : Int32)) fun z26 =>
          pb (fX10_diagonal x0) fun v27 =>
          pp v27
        ) (
          pb (fX10_laysTable x0 x1 (0 : Int32)) fun _ =>
          pb (plo (fX10_trace_B66 x0) fu (0 : Int32)) fun z21 =>
          pb (fX10_diagonal x0) fun v22 =>
          pp v22))))))))
noncomputable def fX10_polynomial (x0 : Nat) (x1 : Int32) (x2 : Int32) (x3 : Int32) : PM Int64 :=
  pb (chk 9 x0) fun _ =>
  pb (fX10_canOperate x0 x1) fun v1 =>
  (@ite _ (v1 = (-2 : Int32)) (dEq v1 (-2 : Int32)) (
    pb (fX10_refusesBy x0 (-2 : Int32) (-9223372036854775808 : Int64)) fun v4 =>
    pp v4
  ) (
    pb (fX10_in x2.toInt64 (0 : Int64) (1 : Int64)) fun v6 =>
    (@ite _ (v6 = 0) (dEq v6 0) (
      pb (fX10_refusesBy x0 (-2 : Int32) (-9223372036854775808 : Int64)) fun v8 =>
      pp v8
    ) (
      (@ite _ (0 ≤ x3) (dLe 0 x3) (
        (@ite _ (v1 = (-3 : Int32)) (dEq v1 (-3 : Int32)) (
          pb (fX10_refusesBy x0 (-3 : Int32) (-9223372036854775807 : Int64)) fun v29 =>
          pp v29
        ) (
          (@ite _ (x2 = (1 : Int32)) (dEq x2 (1 : Int32)) (
            pb (fX10_laysTable x0 x1 (1 : Int32)) fun _ =>
            pb (fX10_laysPolynomial x0) fun _ =>
            pb (gI 9 35 x0) fun v25 =>
            (@ite _ (v25 < x3) (dLt v25 x3) (
              pp (0 : Int64)
            ) (
              pb (gA 9 40 x0) fun v27 =>
              pb (lJ 18 v27 x3) fun v28 =>
              pp v28))
          ) (
            pb (fX10_laysTable x0 x1 (0 : Int32)) fun _ =>
            pb (fX10_laysPolynomial x0) fun _ =>
            pb (gI 9 35 x0) fun v17 =>
            (@ite _ (v17 < x3) (dLt v17 x3) (
              pp (0 : Int64)
            ) (
              pb (gA 9 40 x0) fun v19 =>
              pb (lJ 18 v19 x3) fun v20 =>
              pp v20))))))
      ) (
        pb (fX10_refusesBy x0 (-2 : Int32) (-9223372036854775808 : Int64)) fun v31 =>
        pp v31))))))
noncomputable def fX10_rootOf_b24 (x0 : Nat) (x1 : Int32) (x2 : Int32) (x3 : Int32) (x4 : Int64) (x6 : Int32) : PM ((Int64 × Int32) ⊕ (Int64)) :=
  (@ite _ (x6 < 0) (dLt x6 0) (
    pp (.inr x4)
  ) (
    pb (gA 9 40 x0) fun v6 =>
    pb (lJ 18 v6 x6) fun v7 =>
    pp (.inl (((x4 * x1.toInt64) + v7), (x6 + (-1))))))
noncomputable def fX10_rootOf_B24 (x0 : Nat) (x1 : Int32) (x2 : Int32) (x3 : Int32) : (Int64 × Int32) → PM ((Int64 × Int32) ⊕ (Int64)) := fun (x : Int64 × Int32) => frJ x.1 fun y4 => frI x.2 fun y6 => fX10_rootOf_b24 x0 x1 x2 x3 y4 y6
noncomputable def fX10_rootOf_b65 (x0 : Nat) (x1 : Int32) (x2 : Int32) (x3 : Int32) (x6 : Int64) (x8 : Int32) : PM ((Int64 × Int32) ⊕ (Unit)) :=
  (@ite _ (x8 < 0) (dLt x8 0) (
    pp (.inr ())
  ) (
    pb (gA 9 40 x0) fun v11 =>
    pb (lJ 18 v11 x8) fun v12 =>
    pb (gA 9 40 x0) fun v13 =>
    pb (tJ 18 v13 x8 x6) fun _ =>
    pp (.inl ((v12 + (x6 * x1.toInt64)), (x8 + (-1))))))
noncomputable def fX10_rootOf_B65 (x0 : Nat) (x1 : Int32) (x2 : Int32) (x3 : Int32) : (Int64 × Int32) → PM ((Int64 × Int32) ⊕ (Unit)) := fun (x : Int64 × Int32) => frJ x.1 fun y6 => frI x.2 fun y8 => fX10_rootOf_b65 x0 x1 x2 x3 y6 y8
noncomputable def fX10_rootOf_b7 (x0 : Nat) (x1 : Int32) (x2 : Int32) (x3 : Int32) : PM ((Int32 × Int32) ⊕ (Int32 ⊕ (Int32))) :=
  (@ite _ (x3 ≤ 0) (dLe x3 0) (
    pp (.inr (.inr x2))
  ) (
    pb (gA 9 40 x0) fun v3 =>
    pb (lJ 18 v3 x3) fun v4 =>
    pb (plo (fX10_rootOf_B24 x0 x1 x2 x3) fu (v4, (x3 - (1 : Int32)))) fun z8 =>
    (@ite _ ((lg_cmp z8 (0 : Int64)) = 0) (dcE z8 (0 : Int64)) (
      pb (plo (fX10_rootOf_B65 x0 x1 x2 x3) fu ((0 : Int64), x3)) fun z15 =>
      pp (.inl ((x2 + 1), (x3 + (-1))))
    ) (
      pp (.inr (.inl x2))))))
noncomputable def fX10_rootOf_B7 (x0 : Nat) (x1 : Int32) : (Int32 × Int32) → PM ((Int32 × Int32) ⊕ (Int32 ⊕ (Int32))) := fun (x : Int32 × Int32) => frI x.1 fun y2 => frI x.2 fun y3 => fX10_rootOf_b7 x0 x1 y2 y3
noncomputable def fX10_rootOf (x0 : Nat) (x1 : Int32) : PM Int32 :=
  pb (chk 9 x0) fun _ =>
  pb (gI 9 35 x0) fun v1 =>
  pb (plo (fX10_rootOf_B7 x0 x1) fu ((0 : Int32), v1)) fun z16 =>
  (match z16 with
  | .inl v16 => pp v16
  | .inr z17 =>
    pp z17)
noncomputable def fX10_root (x0 : Nat) (x1 : Int32) (x2 : Int32) : PM Int32 :=
  pb (chk 9 x0) fun _ =>
  pb (fX10_canOperate x0 x1) fun v1 =>
  (@ite _ (v1 = (-2 : Int32)) (dEq v1 (-2 : Int32)) (
    pb (fX10_refuses x0 (-2 : Int32)) fun v4 =>
    pp v4
  ) (
    pb (fX10_in x2.toInt64 (-8 : Int64) (8 : Int64)) fun v6 =>
    (@ite _ (v6 = 0) (dEq v6 0) (
      pb (fX10_refuses x0 (-2 : Int32)) fun v17 =>
      pp v17
    ) (
      (@ite _ (v1 = (-3 : Int32)) (dEq v1 (-3 : Int32)) (
        pb (fX10_refuses x0 (-3 : Int32)) fun v15 =>
        pp v15
      ) (
        pb (fX10_laysTable x0 x1 (1 : Int32)) fun _ =>
        pb (fX10_laysPolynomial x0) fun _ =>
        pb (fX10_rootOf x0 x2) fun v13 =>
        pp v13))))))
noncomputable def fX10_isPrime_b13 (x0 : Int32) (x1 : Int32) (x2 : Int32) : PM ((Int32 × Int32) ⊕ (Int32)) :=
  (@ite _ (x0 ≤ x2) (dLe x0 x2) (
    pp (.inr x1)
  ) (
    (@ite _ (x1 = 0) (dEq x1 0) (
      pp (.inl ((0 : Int32), (x2 + 1)))
    ) (
      (@ite _ (x2 = 0) (dEq x2 0) pf (
      (@ite _ ((x0 - x0 / x2 * x2) = 0) (dEq (x0 - x0 / x2 * x2) 0) (
        pp (.inl ((0 : Int32), (x2 + 1)))
      ) (
        pp (.inl ((1 : Int32), (x2 + 1)))))))))))
noncomputable def fX10_isPrime_B13 (x0 : Int32) : (Int32 × Int32) → PM ((Int32 × Int32) ⊕ (Int32)) := fun (x : Int32 × Int32) => frI x.1 fun y1 => frI x.2 fun y2 => fX10_isPrime_b13 x0 y1 y2
noncomputable def fX10_isPrime (x0 : Int32) : PM Int32 :=
  (@ite _ (x0 ≤ (1 : Int32)) (dLe x0 (1 : Int32)) (
    pb (plo (fX10_isPrime_B13 x0) fu ((0 : Int32), (2 : Int32))) fun z6 =>
    pb (pz z6) fun _ =>
    pp z6
  ) (
    pb (plo (fX10_isPrime_B13 x0) fu ((1 : Int32), (2 : Int32))) fun z7 =>
    pb (pz z7) fun _ =>
    pp z7))
noncomputable def fX10_index_b4 (x0 : Int32) (x1 : Int32) (x2 : Int32) : PM ((Int32 × Int32) ⊕ (Int32)) :=
  (@ite _ (x0 < x2) (dLt x0 x2) (
    pp (.inr x1)
  ) (
    (@ite _ (x2 = 0) (dEq x2 0) pf (
    (@ite _ ((x0 - x0 / x2 * x2) = 0) (dEq (x0 - x0 / x2 * x2) 0) (
      pb (fX10_isPrime x2) fun v4 =>
      (@ite _ (v4 = 0) (dEq v4 0) (
        pp (.inl (x1, (x2 + 1)))
      ) (
        (@ite _ (x2 = 0) (dEq x2 0) pf (
        pp (.inl (((x1 / x2) * (x2 + (1 : Int32))), (x2 + 1)))))))
    ) (
      pp (.inl (x1, (x2 + 1)))))))))
noncomputable def fX10_index_B4 (x0 : Int32) : (Int32 × Int32) → PM ((Int32 × Int32) ⊕ (Int32)) := fun (x : Int32 × Int32) => frI x.1 fun y1 => frI x.2 fun y2 => fX10_index_b4 x0 y1 y2
noncomputable def fX10_index (x0 : Int32) : PM Int32 :=
  pb (plo (fX10_index_B4 x0) fu (x0, (2 : Int32))) fun z7 =>
  pp z7
noncomputable def fX10_product_b5 (x0 : Int32) (x1 : Int32) (x2 : Int32) (x3 : Int32) (x4 : Int32) : PM ((Int32 × Int32) ⊕ (Int32)) :=
  (@ite _ (x0 < x4) (dLt x0 x4) (
    pp (.inr x3)
  ) (
    (@ite _ (x4 = x1) (dEq x4 x1) (
      pp (.inl (x3, (x4 + 1)))
    ) (
      (@ite _ (x4 = 0) (dEq x4 0) pf (
      (@ite _ ((x0 - x0 / x4 * x4) = 0) (dEq (x0 - x0 / x4 * x4) 0) (
        pb (fX10_isPrime x4) fun v5 =>
        (@ite _ (v5 = 0) (dEq v5 0) (
          pp (.inl (x3, (x4 + 1)))
        ) (
          (@ite _ (x2 = 0) (dEq x2 0) pf (
          (@ite _ (((x4 - (1 : Int32)) - (x4 - (1 : Int32)) / x2 * x2) = 0) (dEq ((x4 - (1 : Int32)) - (x4 - (1 : Int32)) / x2 * x2) 0) (
            pp (.inl ((x3 * (2 : Int32)), (x4 + 1)))
          ) (
            pp (.inl ((x3 * (0 : Int32)), (x4 + 1)))))))))
      ) (
        pp (.inl (x3, (x4 + 1)))))))))))
noncomputable def fX10_product_B5 (x0 : Int32) (x1 : Int32) (x2 : Int32) : (Int32 × Int32) → PM ((Int32 × Int32) ⊕ (Int32)) := fun (x : Int32 × Int32) => frI x.1 fun y3 => frI x.2 fun y4 => fX10_product_b5 x0 x1 x2 y3 y4
noncomputable def fX10_product (x0 : Int32) (x1 : Int32) (x2 : Int32) : PM Int32 :=
  pb (plo (fX10_product_B5 x0 x1 x2) fu ((1 : Int32), (2 : Int32))) fun z9 =>
  pp z9
noncomputable def fX10_ends_b29 (x0 : Int32) (x2 : Int32) (x3 : Int32) (x1 : Int32) (x4 : Int32) : PM ((Int32 × Int32) ⊕ (Int32)) :=
  (@ite _ (x3 < x4) (dLt x3 x4) (
    pp (.inr x1)
  ) (
    pb (fX10_divisor x4.toInt64 x3.toInt64) fun v7 =>
    (@ite _ ((lg_cmp v7 (1 : Int64)) = 0) (dcE v7 (1 : Int64)) (
      pp (.inl ((x1 + (1 : Int32)), (x4 + 1)))
    ) (
      pp (.inl ((x1 + (0 : Int32)), (x4 + 1)))))))
noncomputable def fX10_ends_B29 (x0 : Int32) (x2 : Int32) (x3 : Int32) : (Int32 × Int32) → PM ((Int32 × Int32) ⊕ (Int32)) := fun (x : Int32 × Int32) => frI x.1 fun y1 => frI x.2 fun y4 => fX10_ends_b29 x0 x2 x3 y1 y4
noncomputable def fX10_ends_b4 (x0 : Int32) (x1 : Int32) (x2 : Int32) : PM ((Int32 × Int32) ⊕ (Int32)) :=
  (@ite _ (x0 < x2) (dLt x0 x2) (
    pp (.inr x1)
  ) (
    (@ite _ (x2 = 0) (dEq x2 0) pf (
    (@ite _ ((x0 - x0 / x2 * x2) = 0) (dEq (x0 - x0 / x2 * x2) 0) (
      (@ite _ (x2 = 0) (dEq x2 0) pf (
      pb (fX10_divisor x2.toInt64 (x0 / x2).toInt64) fun v5 =>
      pb (plo (fX10_ends_B29 x0 x2 v5.toInt32) fu (x1, (1 : Int32))) fun z9 =>
      pp (.inl (z9, (x2 + 1)))))
    ) (
      pp (.inl (x1, (x2 + 1)))))))))
noncomputable def fX10_ends_B4 (x0 : Int32) : (Int32 × Int32) → PM ((Int32 × Int32) ⊕ (Int32)) := fun (x : Int32 × Int32) => frI x.1 fun y1 => frI x.2 fun y2 => fX10_ends_b4 x0 y1 y2
noncomputable def fX10_ends (x0 : Int32) : PM Int32 :=
  pb (plo (fX10_ends_B4 x0) fu ((0 : Int32), (1 : Int32))) fun z10 =>
  pp z10
noncomputable def fX10_forms (x0 : Int32) : PM Int32 :=
  (@ite _ ((x0 - x0 / (4 : Int32) * (4 : Int32)) = 0) (dEq (x0 - x0 / (4 : Int32) * (4 : Int32)) 0) (
    (@ite _ ((x0 - x0 / (9 : Int32) * (9 : Int32)) = 0) (dEq (x0 - x0 / (9 : Int32) * (9 : Int32)) 0) (
      pb (fX10_index x0) fun v13 =>
      pb (fX10_ends x0) fun v14 =>
      pp ((1 : Int32) + ((((v13 - ((3 : Int32) * (0 : Int32))) - ((4 : Int32) * (0 : Int32))) - ((6 : Int32) * v14)) / (12 : Int32)))
    ) (
      pb (fX10_product x0 (3 : Int32) (3 : Int32)) fun v10 =>
      pb (fX10_index x0) fun v11 =>
      pb (fX10_ends x0) fun v12 =>
      pp ((1 : Int32) + ((((v11 - ((3 : Int32) * (0 : Int32))) - ((4 : Int32) * v10)) - ((6 : Int32) * v12)) / (12 : Int32)))))
  ) (
    pb (fX10_product x0 (2 : Int32) (4 : Int32)) fun v2 =>
    (@ite _ ((x0 - x0 / (9 : Int32) * (9 : Int32)) = 0) (dEq (x0 - x0 / (9 : Int32) * (9 : Int32)) 0) (
      pb (fX10_index x0) fun v7 =>
      pb (fX10_ends x0) fun v8 =>
      pp ((1 : Int32) + ((((v7 - ((3 : Int32) * v2)) - ((4 : Int32) * (0 : Int32))) - ((6 : Int32) * v8)) / (12 : Int32)))
    ) (
      pb (fX10_product x0 (3 : Int32) (3 : Int32)) fun v4 =>
      pb (fX10_index x0) fun v5 =>
      pb (fX10_ends x0) fun v6 =>
      pp ((1 : Int32) + ((((v5 - ((3 : Int32) * v2)) - ((4 : Int32) * v4)) - ((6 : Int32) * v6)) / (12 : Int32)))))))
noncomputable def fX10_freshOf_b30 (x0 : Nat) (x1 : Int32) (x2 : Int32) (x3 : Int32) (x4 : Int32) (x5 : Int32) : PM ((Int32 × Int32) ⊕ (Int32)) :=
  (@ite _ (x3 = 0) (dEq x3 0) pf (
  (@ite _ ((x2 / x3) < x5) (dLt (x2 / x3) x5) (
    pp (.inr x4)
  ) (
    (@ite _ (x3 = 0) (dEq x3 0) pf (
    (@ite _ ((x2 - x2 / x3 * x3) = 0) (dEq (x2 - x2 / x3 * x3) 0) (
      (@ite _ (x3 = 0) (dEq x3 0) pf (
      (@ite _ (x5 = 0) (dEq x5 0) pf (
      (@ite _ (((x2 / x3) - (x2 / x3) / x5 * x5) = 0) (dEq ((x2 / x3) - (x2 / x3) / x5 * x5) 0) (
        pp (.inl ((x4 + (1 : Int32)), (x5 + 1)))
      ) (
        pp (.inl ((x4 + (0 : Int32)), (x5 + 1)))))))))
    ) (
      pp (.inr x4)))))))))
noncomputable def fX10_freshOf_B30 (x0 : Nat) (x1 : Int32) (x2 : Int32) (x3 : Int32) : (Int32 × Int32) → PM ((Int32 × Int32) ⊕ (Int32)) := fun (x : Int32 × Int32) => frI x.1 fun y4 => frI x.2 fun y5 => fX10_freshOf_b30 x0 x1 x2 x3 y4 y5
noncomputable def fX10_freshOf_b19 (x0 : Nat) (x1 : Int32) (x2 : Int32) (x3 : Int32) : PM ((Int32) ⊕ (Unit)) :=
  (@ite _ (x2 ≤ x3) (dLe x2 x3) (
    pp (.inr ())
  ) (
    pb (plo (fX10_freshOf_B30 x0 x1 x2 x3) fu ((0 : Int32), (1 : Int32))) fun z13 =>
    pb (gA 9 41 x0) fun v14 =>
    pb (lI 17 v14 x2) fun v15 =>
    pb (gA 9 41 x0) fun v16 =>
    pb (lI 17 v16 x3) fun v17 =>
    pb (tI 17 v14 x2 (v15 - (v17 * z13))) fun _ =>
    pp (.inl (x3 + 1))))
noncomputable def fX10_freshOf_B19 (x0 : Nat) (x1 : Int32) (x2 : Int32) : (Int32) → PM ((Int32) ⊕ (Unit)) := fun (x : Int32) => frI x fun y3 => fX10_freshOf_b19 x0 x1 x2 y3
noncomputable def fX10_freshOf_b2 (x0 : Nat) (x1 : Int32) (x2 : Int32) : PM ((Int32) ⊕ (Unit)) :=
  (@ite _ (x1 < x2) (dLt x1 x2) (
    pp (.inr ())
  ) (
    pb (gA 9 41 x0) fun v2 =>
    pb (fX10_forms x2) fun v3 =>
    pb (tI 17 v2 x2 v3) fun _ =>
    pb (plo (fX10_freshOf_B19 x0 x1 x2) fu (1 : Int32)) fun z19 =>
    pp (.inl (x2 + 1))))
noncomputable def fX10_freshOf_B2 (x0 : Nat) (x1 : Int32) : (Int32) → PM ((Int32) ⊕ (Unit)) := fun (x : Int32) => frI x fun y2 => fX10_freshOf_b2 x0 x1 y2
noncomputable def fX10_freshOf (x0 : Nat) (x1 : Int32) : PM Int32 :=
  pb (chk 9 x0) fun _ =>
  pb (plo (fX10_freshOf_B2 x0 x1) fu (1 : Int32)) fun z20 =>
  pb (gA 9 41 x0) fun v21 =>
  pb (lI 17 v21 x1) fun v22 =>
  pp v22
noncomputable def fX10_formulaNow (x0 : Nat) (x1 : Int32) (x2 : Int32) : PM Int32 :=
  pb (chk 9 x0) fun _ =>
  (@ite _ (x2 = 0) (dEq x2 0) (
    pb (fX10_index x1) fun v2 =>
    pp v2
  ) (@ite _ (x2 = 1) (dEq x2 1) (
    (@ite _ ((x1 - x1 / (4 : Int32) * (4 : Int32)) = 0) (dEq (x1 - x1 / (4 : Int32) * (4 : Int32)) 0) (
      pp (0 : Int32)
    ) (
      pb (fX10_product x1 (2 : Int32) (4 : Int32)) fun v5 =>
      pp v5))
  ) (@ite _ (x2 = 2) (dEq x2 2) (
    (@ite _ ((x1 - x1 / (9 : Int32) * (9 : Int32)) = 0) (dEq (x1 - x1 / (9 : Int32) * (9 : Int32)) 0) (
      pp (0 : Int32)
    ) (
      pb (fX10_product x1 (3 : Int32) (3 : Int32)) fun v8 =>
      pp v8))
  ) (@ite _ (x2 = 3) (dEq x2 3) (
    pb (fX10_ends x1) fun v10 =>
    pp v10
  ) (@ite _ (x2 = 4) (dEq x2 4) (
    pb (fX10_forms x1) fun v12 =>
    pp v12
  ) (pb (fX10_freshOf x0 x1) fun v13 =>
  pp v13))))))
noncomputable def fX10_formula (x0 : Nat) (x1 : Int32) (x2 : Int32) : PM Int32 :=
  pb (chk 9 x0) fun _ =>
  pb (fX10_in x1.toInt64 (1 : Int64) (60 : Int64)) fun v1 =>
  (@ite _ (v1 = 0) (dEq v1 0) (
    pb (fX10_refuses x0 (-2 : Int32)) fun v3 =>
    pp v3
  ) (
    pb (fX10_in x2.toInt64 (0 : Int64) (5 : Int64)) fun v5 =>
    (@ite _ (v5 = 0) (dEq v5 0) (
      pb (fX10_refuses x0 (-2 : Int32)) fun v7 =>
      pp v7
    ) (
      pb (fX10_formulaNow x0 x1 x2) fun v9 =>
      pp v9))))
noncomputable def fX10_laysSum_b2 (x0 : Nat) (x1 : Int32) : PM ((Int32) ⊕ (Unit)) :=
  (@ite _ ((16 : Int32) ≤ x1) (dLe (16 : Int32) x1) (
    pp (.inr ())
  ) (
    pb (gA 9 42 x0) fun v2 =>
    pb (gA 9 0 x0) fun v3 =>
    pb (lJ 18 v3 ((1 : Int32) + ((2 : Int32) * x1))) fun v4 =>
    pb (tJ 18 v2 x1 v4) fun _ =>
    pb (gA 9 43 x0) fun v6 =>
    pb (gA 9 0 x0) fun v7 =>
    pb (lJ 18 v7 ((2 : Int32) + ((2 : Int32) * x1))) fun v8 =>
    pb (tJ 18 v6 x1 v8) fun _ =>
    pp (.inl (x1 + 1))))
noncomputable def fX10_laysSum_B2 (x0 : Nat) : (Int32) → PM ((Int32) ⊕ (Unit)) := fun (x : Int32) => frI x fun y1 => fX10_laysSum_b2 x0 y1
noncomputable def fX10_laysSum (x0 : Nat) : PM Unit :=
  pb (chk 9 x0) fun _ =>
  pb (plo (fX10_laysSum_B2 x0) fu (0 : Int32)) fun z10 =>
  pp ()
noncomputable def fX10_addsTo_b3 (x0 : Nat) (x1 : Int32) (x2 : Int64) (x4 : Int32) : PM ((Int32) ⊕ (Unit)) :=
  pb (gI 9 14 x0) fun v1 =>
  (@ite _ (v1 ≤ x4) (dLe v1 x4) (
    pp (.inr ())
  ) (
    (@ite _ (x1 = (-1 : Int32)) (dEq x1 (-1 : Int32)) (
      pp (.inr ())
    ) (
      pb (gA 9 42 x0) fun v4 =>
      pb (lJ 18 v4 x4) fun v5 =>
      pb (gA 9 43 x0) fun v6 =>
      pb (lJ 18 v6 x4) fun v7 =>
      pb (gA 9 20 x0) fun v8 =>
      pb (lJ 18 v8 (((16 : Int32) * x1) + x4)) fun v9 =>
      pb (gA 9 21 x0) fun v10 =>
      pb (lJ 18 v10 (((16 : Int32) * x1) + x4)) fun v11 =>
      pb (fX10_more x0 v5 v7 x2 (1 : Int64) v9 v11) fun _ =>
      pb (gA 9 42 x0) fun v14 =>
      pb (gJ 9 5 x0) fun v15 =>
      pb (tJ 18 v14 x4 v15) fun _ =>
      pb (gA 9 43 x0) fun v17 =>
      pb (gJ 9 6 x0) fun v18 =>
      pb (tJ 18 v17 x4 v18) fun _ =>
      pp (.inl (x4 + 1))))))
noncomputable def fX10_addsTo_B3 (x0 : Nat) (x1 : Int32) (x2 : Int64) : (Int32) → PM ((Int32) ⊕ (Unit)) := fun (x : Int32) => frI x fun y4 => fX10_addsTo_b3 x0 x1 x2 y4
noncomputable def fX10_addsTo (x0 : Nat) (x1 : Int32) (x2 : Int64) : PM Unit :=
  pb (chk 9 x0) fun _ =>
  pb (plo (fX10_addsTo_B3 x0 x1 x2) fu (0 : Int32)) fun z20 =>
  pp ()
noncomputable def fX10_canBe_b2 (x0 : Nat) (x1 : Int32) : PM ((Int32) ⊕ (Int32 ⊕ (Unit))) :=
  pb (gI 9 14 x0) fun v1 =>
  (@ite _ (v1 ≤ x1) (dLe v1 x1) (
    pp (.inr (.inr ()))
  ) (
    pb (gA 9 42 x0) fun v3 =>
    pb (lJ 18 v3 x1) fun v4 =>
    pb (fX10_in v4 (-1000000000000 : Int64) (1000000000000 : Int64)) fun v5 =>
    (@ite _ (v5 = 0) (dEq v5 0) (
      pp (.inr (.inl (-3 : Int32)))
    ) (
      pb (gA 9 43 x0) fun v7 =>
      pb (lJ 18 v7 x1) fun v8 =>
      pb (fX10_in v8 (1 : Int64) (1000000000000 : Int64)) fun v9 =>
      (@ite _ (v9 = 0) (dEq v9 0) (
        pp (.inr (.inl (-3 : Int32)))
      ) (
        pp (.inl (x1 + 1))))))))
noncomputable def fX10_canBe_B2 (x0 : Nat) : (Int32) → PM ((Int32) ⊕ (Int32 ⊕ (Unit))) := fun (x : Int32) => frI x fun y1 => fX10_canBe_b2 x0 y1
noncomputable def fX10_canBe (x0 : Nat) : PM Int32 :=
  pb (chk 9 x0) fun _ =>
  pb (plo (fX10_canBe_B2 x0) fu (0 : Int32)) fun z11 =>
  (match z11 with
  | .inl v11 => pp v11
  | .inr z12 =>
    pp (0 : Int32))
noncomputable def fX10_becomes_b4 (x0 : Nat) (x1 : Int32) (x2 : Int32) : PM ((Int32 × Int32) ⊕ (Int32)) :=
  (@ite _ ((16 : Int32) ≤ x2) (dLe (16 : Int32) x2) (
    pp (.inr x1)
  ) (
    pb (gA 9 0 x0) fun v2 =>
    pb (gA 9 42 x0) fun v3 =>
    pb (lJ 18 v3 x2) fun v4 =>
    pb (tJ 18 v2 ((1 : Int32) + ((2 : Int32) * x2)) v4) fun _ =>
    pb (gA 9 0 x0) fun v6 =>
    pb (gA 9 43 x0) fun v7 =>
    pb (lJ 18 v7 x2) fun v8 =>
    pb (tJ 18 v6 ((2 : Int32) + ((2 : Int32) * x2)) v8) fun _ =>
    pb (gA 9 42 x0) fun v10 =>
    pb (lJ 18 v10 x2) fun v11 =>
    (@ite _ ((lg_cmp v11 (0 : Int64)) = 0) (dcE v11 (0 : Int64)) (
      pp (.inl ((x1 + (0 : Int32)), (x2 + 1)))
    ) (
      pp (.inl ((x1 + (1 : Int32)), (x2 + 1)))))))
noncomputable def fX10_becomes_B4 (x0 : Nat) : (Int32 × Int32) → PM ((Int32 × Int32) ⊕ (Int32)) := fun (x : Int32 × Int32) => frI x.1 fun y1 => frI x.2 fun y2 => fX10_becomes_b4 x0 y1 y2
noncomputable def fX10_becomes (x0 : Nat) : PM Int32 :=
  pb (chk 9 x0) fun _ =>
  pb (plo (fX10_becomes_B4 x0) fu ((0 : Int32), (0 : Int32))) fun z13 =>
  pp z13
noncomputable def fX10_canAdd (x0 : Nat) (x1 : Int32) (x2 : Int32) : PM Int32 :=
  pb (chk 9 x0) fun _ =>
  pb (fX10_isSymbol x0 x1) fun v1 =>
  (@ite _ (v1 = 0) (dEq v1 0) (
    pp (-2 : Int32)
  ) (
    pb (fX10_in x2.toInt64 (-999 : Int64) (999 : Int64)) fun v4 =>
    (@ite _ (v4 = 0) (dEq v4 0) (
      pp (-2 : Int32)
    ) (
      pb (fX10_laysSum x0) fun _ =>
      pb (fX10_addsTo x0 x1 x2.toInt64) fun _ =>
      pb (fX10_canBe x0) fun v10 =>
      pp v10))))
noncomputable def fX10_adds (x0 : Nat) (x1 : Int32) (x2 : Int32) : PM Int32 :=
  pb (chk 9 x0) fun _ =>
  pb (fX10_canAdd x0 x1 x2) fun v1 =>
  (@ite _ (0 ≤ v1) (dLe 0 v1) (
    pb (fX10_keep x0) fun _ =>
    pb (fX10_becomes x0) fun v6 =>
    pp v6
  ) (
    pb (fX10_refuses x0 v1) fun v8 =>
    pp v8))
noncomputable def fX10_canApply_b40 (x0 : Nat) (x3 : Int32) (x4 : Int64) (x6 : Int64) (x8 : Int32) : PM ((Int64 × Int64 × Int32) ⊕ (Int64 × Int64)) :=
  pb (gI 9 14 x0) fun v10 =>
  (@ite _ (v10 ≤ x8) (dLe v10 x8) (
    pp (.inr (x4, x6))
  ) (
    pb (gA 9 33 x0) fun v12 =>
    pb (lJ 18 v12 (((16 : Int32) * x3) + x8)) fun v13 =>
    pb (gA 9 34 x0) fun v14 =>
    pb (lJ 18 v14 (((16 : Int32) * x3) + x8)) fun v15 =>
    pb (gA 9 0 x0) fun v16 =>
    pb (lJ 18 v16 ((1 : Int32) + ((2 : Int32) * x8))) fun v17 =>
    pb (gA 9 0 x0) fun v18 =>
    pb (lJ 18 v18 ((2 : Int32) + ((2 : Int32) * x8))) fun v19 =>
    pb (fX10_more x0 x4 x6 v13 v15 v17 v19) fun _ =>
    pb (gJ 9 5 x0) fun v22 =>
    pb (gJ 9 6 x0) fun v23 =>
    pp (.inl (v22, v23, (x8 + 1)))))
noncomputable def fX10_canApply_B40 (x0 : Nat) (x3 : Int32) : (Int64 × Int64 × Int32) → PM ((Int64 × Int64 × Int32) ⊕ (Int64 × Int64)) := fun (x : Int64 × Int64 × Int32) => frJ x.1 fun y4 => frJ x.2.1 fun y6 => frI x.2.2 fun y8 => fX10_canApply_b40 x0 x3 y4 y6 y8
noncomputable def fX10_canApply_b23 (x0 : Nat) (x3 : Int32) : PM ((Int32) ⊕ (Unit)) :=
  pb (gI 9 14 x0) fun v8 =>
  (@ite _ (v8 ≤ x3) (dLe v8 x3) (
    pp (.inr ())
  ) (
    pb (plo (fX10_canApply_B40 x0 x3) fu ((0 : Int64), (1 : Int64), (0 : Int32))) fun z24 =>
    pb (gA 9 42 x0) fun v25 =>
    pb (tJ 18 v25 x3 z24.1) fun _ =>
    pb (gA 9 43 x0) fun v27 =>
    pb (tJ 18 v27 x3 z24.2) fun _ =>
    pp (.inl (x3 + 1))))
noncomputable def fX10_canApply_B23 (x0 : Nat) : (Int32) → PM ((Int32) ⊕ (Unit)) := fun (x : Int32) => frI x fun y3 => fX10_canApply_b23 x0 y3
noncomputable def fX10_canApply (x0 : Nat) (x1 : Int32) : PM Int32 :=
  pb (chk 9 x0) fun _ =>
  pb (fX10_canOperate x0 x1) fun v1 =>
  (@ite _ (0 ≤ v1) (dLe 0 v1) (
    pb (fX10_laysOperator x0 x1) fun _ =>
    pb (fX10_laysSum x0) fun _ =>
    pb (plo (fX10_canApply_B23 x0) fu (0 : Int32)) fun z29 =>
    pb (fX10_canBe x0) fun v30 =>
    pp v30
  ) (
    pp v1))
noncomputable def fX10_applies (x0 : Nat) (x1 : Int32) : PM Int32 :=
  pb (chk 9 x0) fun _ =>
  pb (fX10_canApply x0 x1) fun v1 =>
  (@ite _ (0 ≤ v1) (dLe 0 v1) (
    pb (fX10_keep x0) fun _ =>
    pb (fX10_becomes x0) fun v6 =>
    pp v6
  ) (
    pb (fX10_refuses x0 v1) fun v8 =>
    pp v8))
noncomputable def fX10_canWalk_b61 (x0 : Nat) (x3 : Int32) (x4 : Int32) (x5 : Int32) (x6 : Int32) (x7 : Int32) : PM ((Int32 × Int32 × Int32 × Int32 × Int32) ⊕ (Unit)) :=
  (@ite _ (x6 = 0) (dEq x6 0) (
    pp (.inr ())
  ) (
    (@ite _ (x6 = 0) (dEq x6 0) pf (
    (@ite _ (x6 = 0) (dEq x6 0) pf (
    (@ite _ (x7 = 0) (dEq x7 0) (
      (@ite _ (x7 = 0) (dEq x7 0) (
        (@ite _ ((x7 - x7 / (2 : Int32) * (2 : Int32)) = (1 : Int32)) (dEq (x7 - x7 / (2 : Int32) * (2 : Int32)) (1 : Int32)) (
          pb (fX10_of x0 (1 : Int32) (0 : Int32)) fun v51 =>
          pb (fX10_addsTo x0 v51 (1 : Int64)) fun _ =>
          pp (.inl ((1 : Int32), (0 : Int32), x6, (x5 - x5 / x6 * x6), (x7 + 1)))
        ) (
          pb (fX10_of x0 (-(1 : Int32)) (0 : Int32)) fun v47 =>
          pb (fX10_addsTo x0 v47 (1 : Int64)) fun _ =>
          pp (.inl ((1 : Int32), (0 : Int32), x6, (x5 - x5 / x6 * x6), (x7 + 1)))))
      ) (
        (@ite _ ((x7 - x7 / (2 : Int32) * (2 : Int32)) = (1 : Int32)) (dEq (x7 - x7 / (2 : Int32) * (2 : Int32)) (1 : Int32)) (
          pb (fX10_of x0 (1 : Int32) x3) fun v42 =>
          pb (fX10_addsTo x0 v42 (1 : Int64)) fun _ =>
          pp (.inl ((1 : Int32), x3, x6, (x5 - x5 / x6 * x6), (x7 + 1)))
        ) (
          pb (fX10_of x0 (-(1 : Int32)) x3) fun v38 =>
          pb (fX10_addsTo x0 v38 (1 : Int64)) fun _ =>
          pp (.inl ((1 : Int32), x3, x6, (x5 - x5 / x6 * x6), (x7 + 1)))))))
    ) (
      (@ite _ (x7 = 0) (dEq x7 0) (
        (@ite _ ((x7 - x7 / (2 : Int32) * (2 : Int32)) = (1 : Int32)) (dEq (x7 - x7 / (2 : Int32) * (2 : Int32)) (1 : Int32)) (
          pb (fX10_of x0 (((x5 / x6) * x3) + x4) (0 : Int32)) fun v32 =>
          pb (fX10_addsTo x0 v32 (1 : Int64)) fun _ =>
          pp (.inl ((((x5 / x6) * x3) + x4), (0 : Int32), x6, (x5 - x5 / x6 * x6), (x7 + 1)))
        ) (
          pb (fX10_of x0 (-(((x5 / x6) * x3) + x4)) (0 : Int32)) fun v28 =>
          pb (fX10_addsTo x0 v28 (1 : Int64)) fun _ =>
          pp (.inl ((((x5 / x6) * x3) + x4), (0 : Int32), x6, (x5 - x5 / x6 * x6), (x7 + 1)))))
      ) (
        (@ite _ ((x7 - x7 / (2 : Int32) * (2 : Int32)) = (1 : Int32)) (dEq (x7 - x7 / (2 : Int32) * (2 : Int32)) (1 : Int32)) (
          pb (fX10_of x0 (((x5 / x6) * x3) + x4) x3) fun v23 =>
          pb (fX10_addsTo x0 v23 (1 : Int64)) fun _ =>
          pp (.inl ((((x5 / x6) * x3) + x4), x3, x6, (x5 - x5 / x6 * x6), (x7 + 1)))
        ) (
          pb (fX10_of x0 (-(((x5 / x6) * x3) + x4)) x3) fun v19 =>
          pb (fX10_addsTo x0 v19 (1 : Int64)) fun _ =>
          pp (.inl ((((x5 / x6) * x3) + x4), x3, x6, (x5 - x5 / x6 * x6), (x7 + 1)))))))))))))))
noncomputable def fX10_canWalk_B61 (x0 : Nat) : (Int32 × Int32 × Int32 × Int32 × Int32) → PM ((Int32 × Int32 × Int32 × Int32 × Int32) ⊕ (Unit)) := fun (x : Int32 × Int32 × Int32 × Int32 × Int32) => frI x.1 fun y3 => frI x.2.1 fun y4 => frI x.2.2.1 fun y5 => frI x.2.2.2.1 fun y6 => frI x.2.2.2.2 fun y7 => fX10_canWalk_b61 x0 y3 y4 y5 y6 y7
noncomputable def fX10_canWalk (x0 : Nat) (x1 : Int32) (x2 : Int32) : PM Int32 :=
  pb (chk 9 x0) fun _ =>
  pb (fX10_in x1.toInt64 (0 : Int64) (99 : Int64)) fun v1 =>
  (@ite _ (v1 = 0) (dEq v1 0) (
    pp (-2 : Int32)
  ) (
    pb (fX10_in x2.toInt64 (1 : Int64) (99 : Int64)) fun v3 =>
    (@ite _ (v3 = 0) (dEq v3 0) (
      pp (-2 : Int32)
    ) (
      pb (fX10_lays x0) fun _ =>
      pb (fX10_laysSum x0) fun _ =>
      pb (fX10_of x0 (0 : Int32) (1 : Int32)) fun v9 =>
      pb (fX10_addsTo x0 v9 (1 : Int64)) fun _ =>
      pb (plo (fX10_canWalk_B61 x0) fu ((0 : Int32), (1 : Int32), x1, x2, (0 : Int32))) fun z55 =>
      pb (fX10_canBe x0) fun v56 =>
      pp v56))))
noncomputable def fX10_walks (x0 : Nat) (x1 : Int32) (x2 : Int32) : PM Int32 :=
  pb (chk 9 x0) fun _ =>
  pb (fX10_canWalk x0 x1 x2) fun v1 =>
  (@ite _ (0 ≤ v1) (dLe 0 v1) (
    pb (fX10_keep x0) fun _ =>
    pb (fX10_becomes x0) fun v6 =>
    pp v6
  ) (
    pb (fX10_refuses x0 v1) fun v8 =>
    pp v8))
noncomputable def fX10_sum (x0 : Nat) (x1 : Int32) (x2 : Int32) : PM Int64 :=
  pb (chk 9 x0) fun _ =>
  pb (fX10_lays x0) fun _ =>
  pb (gI 9 14 x0) fun v3 =>
  pb (fX10_in x1.toInt64 (0 : Int64) (v3 - (1 : Int32)).toInt64) fun v4 =>
  (@ite _ (v4 = 0) (dEq v4 0) (
    pb (fX10_refusesBy x0 (-2 : Int32) (-9223372036854775808 : Int64)) fun v6 =>
    pp v6
  ) (
    pb (fX10_in x2.toInt64 (0 : Int64) (1 : Int64)) fun v8 =>
    (@ite _ (v8 = 0) (dEq v8 0) (
      pb (fX10_refusesBy x0 (-2 : Int32) (-9223372036854775808 : Int64)) fun v12 =>
      pp v12
    ) (
      pb (gA 9 0 x0) fun v10 =>
      pb (lJ 18 v10 (((1 : Int32) + ((2 : Int32) * x1)) + x2)) fun v11 =>
      pp v11))))
noncomputable def fX10_laysBoundary_b6 (x0 : Nat) (x1 : Int32) (x2 : Int32) : PM ((Int32) ⊕ (Unit)) :=
  pb (gI 9 14 x0) fun v3 =>
  (@ite _ (v3 ≤ x2) (dLe v3 x2) (
    pp (.inr ())
  ) (
    pb (gJ 9 5 x0) fun v5 =>
    pb (gJ 9 6 x0) fun v6 =>
    pb (fX10_boundaryOf x0 x1 x2) fun v7 =>
    pb (gA 9 0 x0) fun v9 =>
    pb (lJ 18 v9 ((1 : Int32) + ((2 : Int32) * x2))) fun v10 =>
    pb (gA 9 0 x0) fun v11 =>
    pb (lJ 18 v11 ((2 : Int32) + ((2 : Int32) * x2))) fun v12 =>
    pb (fX10_more x0 v5 v6 v7.toInt64 (1 : Int64) v10 v12) fun _ =>
    pp (.inl (x2 + 1))))
noncomputable def fX10_laysBoundary_B6 (x0 : Nat) (x1 : Int32) : (Int32) → PM ((Int32) ⊕ (Unit)) := fun (x : Int32) => frI x fun y2 => fX10_laysBoundary_b6 x0 x1 y2
noncomputable def fX10_laysBoundary (x0 : Nat) (x1 : Int32) : PM Unit :=
  pb (chk 9 x0) fun _ =>
  pb (fX10_laysTrace x0) fun _ =>
  pb (plo (fX10_laysBoundary_B6 x0 x1) fu (0 : Int32)) fun z15 =>
  pp ()
noncomputable def fX10_boundary (x0 : Nat) (x1 : Int32) (x2 : Int32) : PM Int64 :=
  pb (chk 9 x0) fun _ =>
  pb (fX10_lays x0) fun _ =>
  pb (gI 9 13 x0) fun v3 =>
  pb (fX10_in x1.toInt64 (0 : Int64) (v3 - (1 : Int32)).toInt64) fun v4 =>
  (@ite _ (v4 = 0) (dEq v4 0) (
    pb (fX10_refusesBy x0 (-2 : Int32) (-9223372036854775808 : Int64)) fun v6 =>
    pp v6
  ) (
    pb (fX10_in x2.toInt64 (0 : Int64) (1 : Int64)) fun v8 =>
    (@ite _ (v8 = 0) (dEq v8 0) (
      pb (fX10_refusesBy x0 (-2 : Int32) (-9223372036854775808 : Int64)) fun v15 =>
      pp v15
    ) (
      pb (fX10_laysBoundary x0 x1) fun _ =>
      (@ite _ (x2 = 0) (dEq x2 0) (
        pb (gJ 9 5 x0) fun v14 =>
        pp v14
      ) (
        pb (gJ 9 6 x0) fun v13 =>
        pp v13))))))
noncomputable def fX10_isCuspidal_b8 (x0 : Nat) (x1 : Int32) (x2 : Int32) : PM ((Int32 × Int32) ⊕ (Int32)) :=
  pb (gI 9 13 x0) fun v3 =>
  (@ite _ (v3 ≤ x2) (dLe v3 x2) (
    pp (.inr x1)
  ) (
    pb (fX10_laysBoundary x0 x2) fun _ =>
    (@ite _ (x1 = 0) (dEq x1 0) (
      pp (.inl ((0 : Int32), (x2 + 1)))
    ) (
      pb (gJ 9 5 x0) fun v8 =>
      (@ite _ ((lg_cmp v8 (0 : Int64)) = 0) (dcE v8 (0 : Int64)) (
        pp (.inl ((1 : Int32), (x2 + 1)))
      ) (
        pp (.inl ((0 : Int32), (x2 + 1)))))))))
noncomputable def fX10_isCuspidal_B8 (x0 : Nat) : (Int32 × Int32) → PM ((Int32 × Int32) ⊕ (Int32)) := fun (x : Int32 × Int32) => frI x.1 fun y1 => frI x.2 fun y2 => fX10_isCuspidal_b8 x0 y1 y2
noncomputable def fX10_isCuspidal (x0 : Nat) : PM Int32 :=
  pb (chk 9 x0) fun _ =>
  pb (fX10_lays x0) fun _ =>
  pb (plo (fX10_isCuspidal_B8 x0) fu ((1 : Int32), (0 : Int32))) fun z10 =>
  pb (pz z10) fun _ =>
  pp z10
noncomputable def fX10_cuspidal (x0 : Nat) : PM Int32 :=
  pb (chk 9 x0) fun _ =>
  pb (fX10_isCuspidal x0) fun v1 =>
  (@ite _ (v1 = 0) (dEq v1 0) (
    pp (0 : Int32)
  ) (
    pp (1 : Int32)))
noncomputable def fX10_type (x0 : Nat) (x1 : Int32) : PM Int32 :=
  pb (chk 9 x0) fun _ =>
  pb (fX10_in x1.toInt64 (0 : Int64) (127 : Int64)) fun v1 =>
  (@ite _ (v1 = 0) (dEq v1 0) (
    pb (fX10_refuses x0 (-2 : Int32)) fun v13 =>
    pp v13
  ) (
    pb (gI 9 45 x0) fun v3 =>
    (@ite _ (v3 = (120 : Int32)) (dEq v3 (120 : Int32)) (
      pb (fX10_refuses x0 (-4 : Int32)) fun v11 =>
      pp v11
    ) (
      pb (gA 9 44 x0) fun v5 =>
      pb (gI 9 45 x0) fun v6 =>
      pb (tI 17 v5 v6 x1) fun _ =>
      pb (gI 9 45 x0) fun v8 =>
      pb (sI 9 45 x0 (v8 + (1 : Int32))) fun _ =>
      pb (gI 9 45 x0) fun v10 =>
      pp v10))))
noncomputable def fX10_clear (x0 : Nat) : PM Int32 :=
  pb (chk 9 x0) fun _ =>
  pb (gI 9 45 x0) fun v1 =>
  pb (sI 9 45 x0 (0 : Int32)) fun _ =>
  pp v1
noncomputable def fX10_here_b0 (x0 : Nat)  : PM ((Unit) ⊕ (Unit)) :=
  pb (gI 9 46 x0) fun v1 =>
  pb (gI 9 45 x0) fun v2 =>
  (@ite _ (v2 ≤ v1) (dLe v2 v1) (
    pp (.inr ())
  ) (
    pb (gA 9 44 x0) fun v4 =>
    pb (gI 9 46 x0) fun v5 =>
    pb (lI 17 v4 v5) fun v6 =>
    (@ite _ (v6 = (32 : Int32)) (dEq v6 (32 : Int32)) (
      pb (gI 9 46 x0) fun v8 =>
      pb (sI 9 46 x0 (v8 + (1 : Int32))) fun _ =>
      pp (.inl ())
    ) (
      pp (.inr ())))))
noncomputable def fX10_here_B0 (x0 : Nat) : (Unit) → PM ((Unit) ⊕ (Unit)) := fun (_ : Unit) => fX10_here_b0 x0 
noncomputable def fX10_here (x0 : Nat) : PM Int32 :=
  pb (chk 9 x0) fun _ =>
  pb (plo (fX10_here_B0 x0) fu ()) fun z10 =>
  pb (gI 9 46 x0) fun v11 =>
  pb (gI 9 45 x0) fun v12 =>
  (@ite _ (v12 ≤ v11) (dLe v12 v11) (
    pp (-1 : Int32)
  ) (
    pb (gA 9 44 x0) fun v14 =>
    pb (gI 9 46 x0) fun v15 =>
    pb (lI 17 v14 v15) fun v16 =>
    pp v16))
noncomputable def fX10_isFigure (x0 : Nat) (x1 : Int32) : PM Int32 :=
  pb (chk 9 x0) fun _ =>
  pb (gI 9 45 x0) fun v1 =>
  (@ite _ (v1 ≤ x1) (dLe v1 x1) (
    pp (0 : Int32)
  ) (
    pb (gA 9 44 x0) fun v3 =>
    pb (lI 17 v3 x1) fun v4 =>
    pb (fX10_in v4.toInt64 (48 : Int64) (57 : Int64)) fun v5 =>
    (@ite _ (v5 = 0) (dEq v5 0) (
      pp (0 : Int32)
    ) (
      pp (1 : Int32)))))
noncomputable def fX10_takes_b58 (x0 : Nat) (x2 : Int32) (x3 : Int32) (x4 : Int32) : PM ((Int32) ⊕ (Int32)) :=
  pb (gI 9 46 x0) fun v11 =>
  pb (fX10_isFigure x0 v11) fun v12 =>
  (@ite _ (v12 = 0) (dEq v12 0) (
    pp (.inr x4)
  ) (
    (@ite _ ((3 : Int32) ≤ x4) (dLe (3 : Int32) x4) (
      pp (.inr x4)
    ) (
      pb (gI 9 47 x0) fun v16 =>
      pb (gA 9 44 x0) fun v17 =>
      pb (gI 9 46 x0) fun v18 =>
      pb (lI 17 v17 v18) fun v19 =>
      pb (sI 9 47 x0 ((((10 : Int32) * v16) + v19) - (48 : Int32))) fun _ =>
      pb (gI 9 46 x0) fun v21 =>
      pb (sI 9 46 x0 (v21 + (1 : Int32))) fun _ =>
      pp (.inl (x4 + 1))))))
noncomputable def fX10_takes_B58 (x0 : Nat) (x2 : Int32) (x3 : Int32) : (Int32) → PM ((Int32) ⊕ (Int32)) := fun (x : Int32) => frI x fun y4 => fX10_takes_b58 x0 x2 x3 y4
noncomputable def fX10_takes (x0 : Nat) (x1 : Int32) : PM Int32 :=
  pb (chk 9 x0) fun _ =>
  pb (fX10_here x0) fun v1 =>
  (@ite _ (v1 = (45 : Int32)) (dEq v1 (45 : Int32)) (
    (@ite _ (x1 = 0) (dEq x1 0) (
      pb (gI 9 46 x0) fun v34 =>
      pb (sI 9 46 x0 (v34 + (0 : Int32))) fun _ =>
      pb (fX10_here x0) fun v38 =>
      pb (sI 9 47 x0 (0 : Int32)) fun _ =>
      pb (plo (fX10_takes_B58 x0 (0 : Int32) v38) fu (0 : Int32)) fun z41 =>
      pb (gI 9 47 x0) fun v43 =>
      pb (sI 9 47 x0 v43) fun _ =>
      (@ite _ (v38 = (-1 : Int32)) (dEq v38 (-1 : Int32)) (
        pp (0 : Int32)
      ) (
        (@ite _ (z41 ≤ 0) (dLe z41 0) (
          pp (0 : Int32)
        ) (
          pb (gI 9 46 x0) fun v47 =>
          pb (fX10_isFigure x0 v47) fun v48 =>
          (@ite _ (v48 = 0) (dEq v48 0) (
            pp (1 : Int32)
          ) (
            pp (0 : Int32)))))))
    ) (
      pb (gI 9 46 x0) fun v51 =>
      pb (sI 9 46 x0 (v51 + (1 : Int32))) fun _ =>
      pb (sI 9 47 x0 (0 : Int32)) fun _ =>
      pb (plo (fX10_takes_B58 x0 (1 : Int32) (0 : Int32)) fu (0 : Int32)) fun z56 =>
      pb (gI 9 47 x0) fun v58 =>
      pb (sI 9 47 x0 (-v58)) fun _ =>
      (@ite _ (z56 ≤ 0) (dLe z56 0) (
        pp (0 : Int32)
      ) (
        pb (gI 9 46 x0) fun v62 =>
        pb (fX10_isFigure x0 v62) fun v63 =>
        (@ite _ (v63 = 0) (dEq v63 0) (
          pp (1 : Int32)
        ) (
          pp (0 : Int32)))))))
  ) (
    pb (gI 9 46 x0) fun v4 =>
    pb (sI 9 46 x0 (v4 + (0 : Int32))) fun _ =>
    pb (fX10_here x0) fun v8 =>
    pb (sI 9 47 x0 (0 : Int32)) fun _ =>
    pb (plo (fX10_takes_B58 x0 (0 : Int32) v8) fu (0 : Int32)) fun z23 =>
    pb (gI 9 47 x0) fun v25 =>
    pb (sI 9 47 x0 v25) fun _ =>
    (@ite _ (v8 = (-1 : Int32)) (dEq v8 (-1 : Int32)) (
      pp (0 : Int32)
    ) (
      (@ite _ (z23 ≤ 0) (dLe z23 0) (
        pp (0 : Int32)
      ) (
        pb (gI 9 46 x0) fun v29 =>
        pb (fX10_isFigure x0 v29) fun v30 =>
        (@ite _ (v30 = 0) (dEq v30 0) (
          pp (1 : Int32)
        ) (
          pp (0 : Int32)))))))))
noncomputable def fX10_takesNumbers (x0 : Nat) (x1 : Int32) : PM Int32 :=
  pb (chk 9 x0) fun _ =>
  (@ite _ (x1 = (122 : Int32)) (dEq x1 (122 : Int32)) (
    pp (1 : Int32)
  ) (
    (@ite _ (x1 = (43 : Int32)) (dEq x1 (43 : Int32)) (
      pb (fX10_takes x0 (1 : Int32)) fun v18 =>
      (@ite _ (v18 = 0) (dEq v18 0) (
        pp (0 : Int32)
      ) (
        pb (gI 9 47 x0) fun v21 =>
        pb (sI 9 48 x0 v21) fun _ =>
        (@ite _ (x1 = (43 : Int32)) (dEq x1 (43 : Int32)) (
          pb (fX10_takes x0 (0 : Int32)) fun v24 =>
          pb (gI 9 47 x0) fun v26 =>
          pb (sI 9 49 x0 v26) fun _ =>
          pb (pz v24) fun _ =>
          pp v24
        ) (
          (@ite _ (x1 = (119 : Int32)) (dEq x1 (119 : Int32)) (
            pb (fX10_takes x0 (0 : Int32)) fun v29 =>
            pb (gI 9 47 x0) fun v31 =>
            pb (sI 9 49 x0 v31) fun _ =>
            pb (pz v29) fun _ =>
            pp v29
          ) (
            pp (1 : Int32)))))))
    ) (
      pb (fX10_takes x0 (0 : Int32)) fun v3 =>
      (@ite _ (v3 = 0) (dEq v3 0) (
        pp (0 : Int32)
      ) (
        pb (gI 9 47 x0) fun v6 =>
        pb (sI 9 48 x0 v6) fun _ =>
        (@ite _ (x1 = (43 : Int32)) (dEq x1 (43 : Int32)) (
          pb (fX10_takes x0 (0 : Int32)) fun v9 =>
          pb (gI 9 47 x0) fun v11 =>
          pb (sI 9 49 x0 v11) fun _ =>
          pb (pz v9) fun _ =>
          pp v9
        ) (
          (@ite _ (x1 = (119 : Int32)) (dEq x1 (119 : Int32)) (
            pb (fX10_takes x0 (0 : Int32)) fun v14 =>
            pb (gI 9 47 x0) fun v16 =>
            pb (sI 9 49 x0 v16) fun _ =>
            pb (pz v14) fun _ =>
            pp v14
          ) (
            pp (1 : Int32)))))))))))
noncomputable def fX10_can (x0 : Nat) (x1 : Int32) : PM Int32 :=
  pb (chk 9 x0) fun _ =>
  (@ite _ (x1 = 43) (dEq x1 43) (
    pb (gI 9 49 x0) fun v2 =>
    pb (gI 9 48 x0) fun v3 =>
    pb (fX10_canAdd x0 v2 v3) fun v4 =>
    pp v4
  ) (@ite _ (x1 = 110) (dEq x1 110) (
    pb (gI 9 48 x0) fun v7 =>
    pb (fX10_in v7.toInt64 (1 : Int64) (25 : Int64)) fun v8 =>
    (@ite _ (v8 = 0) (dEq v8 0) (
      pp (-2 : Int32)
    ) (
      pp (0 : Int32)))
  ) (@ite _ (x1 = 116) (dEq x1 116) (
    pb (gI 9 48 x0) fun v11 =>
    pb (fX10_canApply x0 v11) fun v12 =>
    pp v12
  ) (@ite _ (x1 = 119) (dEq x1 119) (
    pb (gI 9 48 x0) fun v15 =>
    pb (gI 9 49 x0) fun v16 =>
    pb (fX10_canWalk x0 v15 v16) fun v17 =>
    pp v17
  ) (pp (0 : Int32))))))
noncomputable def fX10_does (x0 : Nat) (x1 : Int32) : PM Int32 :=
  pb (chk 9 x0) fun _ =>
  (@ite _ (x1 = (110 : Int32)) (dEq x1 (110 : Int32)) (
    pb (gI 9 48 x0) fun v7 =>
    pb (fX10_levelNow x0 v7) fun v8 =>
    pp v8
  ) (
    (@ite _ (x1 = (122 : Int32)) (dEq x1 (122 : Int32)) (
      pb (fX10_zeroes x0) fun _ =>
      pp (0 : Int32)
    ) (
      pb (fX10_becomes x0) fun v3 =>
      pp v3))))
noncomputable def fX10_readsOrder (x0 : Nat) (x1 : Int32) : PM Int32 :=
  pb (chk 9 x0) fun _ =>
  pb (fX10_here x0) fun v1 =>
  (@ite _ (v1 = (110 : Int32)) (dEq v1 (110 : Int32)) (
    pb (gI 9 46 x0) fun v4 =>
    pb (sI 9 46 x0 (v4 + (1 : Int32))) fun _ =>
    pb (fX10_takesNumbers x0 v1) fun v6 =>
    (@ite _ (v6 = 0) (dEq v6 0) (
      pp (0 : Int32)
    ) (
      pb (fX10_here x0) fun v9 =>
      (@ite _ (v9 = (59 : Int32)) (dEq v9 (59 : Int32)) (
        pb (gI 9 46 x0) fun v12 =>
        pb (sI 9 46 x0 (v12 + (1 : Int32))) fun _ =>
        (@ite _ (x1 = 0) (dEq x1 0) (
          pp (1 : Int32)
        ) (
          pb (fX10_can x0 v1) fun v15 =>
          pb (sI 9 50 x0 v15) fun _ =>
          pb (gI 9 50 x0) fun v18 =>
          (@ite _ (v18 = 0) (dEq v18 0) (
            pb (fX10_does x0 v1) fun v20 =>
            pp (1 : Int32)
          ) (
            pp (1 : Int32)))))
      ) (
        pp (0 : Int32)))))
  ) (
    (@ite _ (v1 = (43 : Int32)) (dEq v1 (43 : Int32)) (
      pb (gI 9 46 x0) fun v23 =>
      pb (sI 9 46 x0 (v23 + (1 : Int32))) fun _ =>
      pb (fX10_takesNumbers x0 v1) fun v25 =>
      (@ite _ (v25 = 0) (dEq v25 0) (
        pp (0 : Int32)
      ) (
        pb (fX10_here x0) fun v28 =>
        (@ite _ (v28 = (59 : Int32)) (dEq v28 (59 : Int32)) (
          pb (gI 9 46 x0) fun v31 =>
          pb (sI 9 46 x0 (v31 + (1 : Int32))) fun _ =>
          (@ite _ (x1 = 0) (dEq x1 0) (
            pp (1 : Int32)
          ) (
            pb (fX10_can x0 v1) fun v34 =>
            pb (sI 9 50 x0 v34) fun _ =>
            pb (gI 9 50 x0) fun v37 =>
            (@ite _ (v37 = 0) (dEq v37 0) (
              pb (fX10_does x0 v1) fun v39 =>
              pp (1 : Int32)
            ) (
              pp (1 : Int32)))))
        ) (
          pp (0 : Int32)))))
    ) (
      (@ite _ (v1 = (116 : Int32)) (dEq v1 (116 : Int32)) (
        pb (gI 9 46 x0) fun v42 =>
        pb (sI 9 46 x0 (v42 + (1 : Int32))) fun _ =>
        pb (fX10_takesNumbers x0 v1) fun v44 =>
        (@ite _ (v44 = 0) (dEq v44 0) (
          pp (0 : Int32)
        ) (
          pb (fX10_here x0) fun v47 =>
          (@ite _ (v47 = (59 : Int32)) (dEq v47 (59 : Int32)) (
            pb (gI 9 46 x0) fun v50 =>
            pb (sI 9 46 x0 (v50 + (1 : Int32))) fun _ =>
            (@ite _ (x1 = 0) (dEq x1 0) (
              pp (1 : Int32)
            ) (
              pb (fX10_can x0 v1) fun v53 =>
              pb (sI 9 50 x0 v53) fun _ =>
              pb (gI 9 50 x0) fun v56 =>
              (@ite _ (v56 = 0) (dEq v56 0) (
                pb (fX10_does x0 v1) fun v58 =>
                pp (1 : Int32)
              ) (
                pp (1 : Int32)))))
          ) (
            pp (0 : Int32)))))
      ) (
        (@ite _ (v1 = (119 : Int32)) (dEq v1 (119 : Int32)) (
          pb (gI 9 46 x0) fun v61 =>
          pb (sI 9 46 x0 (v61 + (1 : Int32))) fun _ =>
          pb (fX10_takesNumbers x0 v1) fun v63 =>
          (@ite _ (v63 = 0) (dEq v63 0) (
            pp (0 : Int32)
          ) (
            pb (fX10_here x0) fun v66 =>
            (@ite _ (v66 = (59 : Int32)) (dEq v66 (59 : Int32)) (
              pb (gI 9 46 x0) fun v69 =>
              pb (sI 9 46 x0 (v69 + (1 : Int32))) fun _ =>
              (@ite _ (x1 = 0) (dEq x1 0) (
                pp (1 : Int32)
              ) (
                pb (fX10_can x0 v1) fun v72 =>
                pb (sI 9 50 x0 v72) fun _ =>
                pb (gI 9 50 x0) fun v75 =>
                (@ite _ (v75 = 0) (dEq v75 0) (
                  pb (fX10_does x0 v1) fun v77 =>
                  pp (1 : Int32)
                ) (
                  pp (1 : Int32)))))
            ) (
              pp (0 : Int32)))))
        ) (
          (@ite _ (v1 = (122 : Int32)) (dEq v1 (122 : Int32)) (
            pb (gI 9 46 x0) fun v80 =>
            pb (sI 9 46 x0 (v80 + (1 : Int32))) fun _ =>
            pb (fX10_takesNumbers x0 v1) fun v82 =>
            (@ite _ (v82 = 0) (dEq v82 0) (
              pp (0 : Int32)
            ) (
              pb (fX10_here x0) fun v85 =>
              (@ite _ (v85 = (59 : Int32)) (dEq v85 (59 : Int32)) (
                pb (gI 9 46 x0) fun v88 =>
                pb (sI 9 46 x0 (v88 + (1 : Int32))) fun _ =>
                (@ite _ (x1 = 0) (dEq x1 0) (
                  pp (1 : Int32)
                ) (
                  pb (fX10_can x0 v1) fun v91 =>
                  pb (sI 9 50 x0 v91) fun _ =>
                  pb (gI 9 50 x0) fun v94 =>
                  (@ite _ (v94 = 0) (dEq v94 0) (
                    pb (fX10_does x0 v1) fun v96 =>
                    pp (1 : Int32)
                  ) (
                    pp (1 : Int32)))))
              ) (
                pp (0 : Int32)))))
          ) (
            pp (0 : Int32)))))))))))
noncomputable def fX10_keepsAside_b2 (x0 : Nat) (x1 : Int32) : PM ((Int32) ⊕ (Unit)) :=
  (@ite _ ((33 : Int32) ≤ x1) (dLe (33 : Int32) x1) (
    pp (.inr ())
  ) (
    pb (gA 9 0 x0) fun v2 =>
    pb (lJ 18 v2 x1) fun v3 =>
    pb (gA 9 0 x0) fun v4 =>
    pb (gA 9 2 x0) fun v5 =>
    pb (lJ 18 v5 x1) fun v6 =>
    pb (tJ 18 v4 x1 v6) fun _ =>
    pb (gA 9 2 x0) fun v8 =>
    pb (tJ 18 v8 x1 v3) fun _ =>
    pp (.inl (x1 + 1))))
noncomputable def fX10_keepsAside_B2 (x0 : Nat) : (Int32) → PM ((Int32) ⊕ (Unit)) := fun (x : Int32) => frI x fun y1 => fX10_keepsAside_b2 x0 y1
noncomputable def fX10_keepsAside_b46 (x0 : Nat) (x1 : Int32) : PM ((Int32) ⊕ (Unit)) :=
  (@ite _ ((33 : Int32) ≤ x1) (dLe (33 : Int32) x1) (
    pp (.inr ())
  ) (
    pb (gA 9 0 x0) fun v14 =>
    pb (gA 9 2 x0) fun v15 =>
    pb (lJ 18 v15 x1) fun v16 =>
    pb (tJ 18 v14 x1 v16) fun _ =>
    pp (.inl (x1 + 1))))
noncomputable def fX10_keepsAside_B46 (x0 : Nat) : (Int32) → PM ((Int32) ⊕ (Unit)) := fun (x : Int32) => frI x fun y1 => fX10_keepsAside_b46 x0 y1
noncomputable def fX10_keepsAside (x0 : Nat) : PM Unit :=
  pb (chk 9 x0) fun _ =>
  pb (plo (fX10_keepsAside_B2 x0) fu (0 : Int32)) fun z10 =>
  pb (fX10_keep x0) fun _ =>
  pb (plo (fX10_keepsAside_B46 x0) fu (0 : Int32)) fun z18 =>
  pp ()
noncomputable def fX10_reads_b11 (x0 : Nat) (x1 : Int32) : PM ((Int32) ⊕ (Int32)) :=
  (@ite _ (x1 = 0) (dEq x1 0) (
    pp (.inr x1)
  ) (
    pb (fX10_here x0) fun v5 =>
    (@ite _ (v5 = (-1 : Int32)) (dEq v5 (-1 : Int32)) (
      pp (.inr x1)
    ) (
      pb (fX10_readsOrder x0 (0 : Int32)) fun v8 =>
      pp (.inl v8)))))
noncomputable def fX10_reads_B11 (x0 : Nat) : (Int32) → PM ((Int32) ⊕ (Int32)) := fun (x : Int32) => frI x fun y1 => fX10_reads_b11 x0 y1
noncomputable def fX10_reads_b46 (x0 : Nat) (x2 : Int32) : PM ((Int32) ⊕ (Unit)) :=
  (@ite _ ((33 : Int32) ≤ x2) (dLe (33 : Int32) x2) (
    pp (.inr ())
  ) (
    pb (gA 9 2 x0) fun v13 =>
    pb (gA 9 0 x0) fun v14 =>
    pb (lJ 18 v14 x2) fun v15 =>
    pb (tJ 18 v13 x2 v15) fun _ =>
    pp (.inl (x2 + 1))))
noncomputable def fX10_reads_B46 (x0 : Nat) : (Int32) → PM ((Int32) ⊕ (Unit)) := fun (x : Int32) => frI x fun y2 => fX10_reads_b46 x0 y2
noncomputable def fX10_reads_b105 (x0 : Nat) (x2 : Int32) (x3 : Int32) : PM ((Int32) ⊕ (Unit)) :=
  (@ite _ ((33 : Int32) ≤ x3) (dLe (33 : Int32) x3) (
    pp (.inr ())
  ) (
    pb (gA 9 0 x0) fun v28 =>
    pb (gA 9 2 x0) fun v29 =>
    pb (lJ 18 v29 x3) fun v30 =>
    pb (tJ 18 v28 x3 v30) fun _ =>
    pp (.inl (x3 + 1))))
noncomputable def fX10_reads_B105 (x0 : Nat) (x2 : Int32) : (Int32) → PM ((Int32) ⊕ (Unit)) := fun (x : Int32) => frI x fun y3 => fX10_reads_b105 x0 x2 y3
noncomputable def fX10_reads_b82 (x0 : Nat) (x2 : Int32) : PM ((Int32) ⊕ (Int32 ⊕ (Int32))) :=
  pb (fX10_here x0) fun v20 =>
  (@ite _ (v20 = (-1 : Int32)) (dEq v20 (-1 : Int32)) (
    pp (.inr (.inr x2))
  ) (
    pb (fX10_readsOrder x0 (1 : Int32)) fun v23 =>
    pb (gI 9 50 x0) fun v25 =>
    (@ite _ (0 ≤ v25) (dLe 0 v25) (
      pp (.inl (x2 + 1))
    ) (
      pb (plo (fX10_reads_B105 x0 x2) fu (0 : Int32)) fun z32 =>
      pp (.inr (.inl ((-1000 : Int32) - x2)))))))
noncomputable def fX10_reads_B82 (x0 : Nat) : (Int32) → PM ((Int32) ⊕ (Int32 ⊕ (Int32))) := fun (x : Int32) => frI x fun y2 => fX10_reads_b82 x0 y2
noncomputable def fX10_reads (x0 : Nat) : PM Int32 :=
  pb (chk 9 x0) fun _ =>
  pb (sI 9 46 x0 (0 : Int32)) fun _ =>
  pb (fX10_readsOrder x0 (0 : Int32)) fun v2 =>
  pb (plo (fX10_reads_B11 x0) fu v2) fun z10 =>
  (@ite _ (z10 = 0) (dEq z10 0) (
    pb (gI 9 46 x0) fun v37 =>
    pp ((-10 : Int32) - v37)
  ) (
    pb (plo (fX10_reads_B46 x0) fu (0 : Int32)) fun z17 =>
    pb (sI 9 46 x0 (0 : Int32)) fun _ =>
    pb (sI 9 50 x0 (0 : Int32)) fun _ =>
    pb (plo (fX10_reads_B82 x0) fu (0 : Int32)) fun z33 =>
    (match z33 with
    | .inl v33 => pp v33
    | .inr z34 =>
      pb (fX10_keepsAside x0) fun _ =>
      pp z34)))
noncomputable def fX10_back_b26 (x0 : Nat) (x1 : Int32) : PM ((Int32) ⊕ (Unit)) :=
  (@ite _ ((33 : Int32) ≤ x1) (dLe (33 : Int32) x1) (
    pp (.inr ())
  ) (
    pb (gA 9 0 x0) fun v6 =>
    pb (gA 9 1 x0) fun v7 =>
    pb (gI 9 3 x0) fun v8 =>
    pb (lJ 18 v7 (((33 : Int32) * v8) + x1)) fun v9 =>
    pb (tJ 18 v6 x1 v9) fun _ =>
    pp (.inl (x1 + 1))))
noncomputable def fX10_back_B26 (x0 : Nat) : (Int32) → PM ((Int32) ⊕ (Unit)) := fun (x : Int32) => frI x fun y1 => fX10_back_b26 x0 y1
noncomputable def fX10_back (x0 : Nat) : PM Int32 :=
  pb (chk 9 x0) fun _ =>
  pb (gI 9 3 x0) fun v1 =>
  (@ite _ (v1 = 0) (dEq v1 0) (
    pb (fX10_refuses x0 (-3 : Int32)) fun v13 =>
    pp v13
  ) (
    pb (gI 9 3 x0) fun v3 =>
    pb (sI 9 3 x0 (v3 - (1 : Int32))) fun _ =>
    pb (plo (fX10_back_B26 x0) fu (0 : Int32)) fun z11 =>
    pb (gI 9 3 x0) fun v12 =>
    pp v12))
noncomputable def fX10_toldOf (x0 : Nat) (x1 : Int32) : PM Int32 :=
  pb (chk 9 x0) fun _ =>
  (@ite _ ((3 : Int32) ≤ x1) (dLe (3 : Int32) x1) (
    (@ite _ (x1 = (3 : Int32)) (dEq x1 (3 : Int32)) (
      pb (gI 9 45 x0) fun v7 =>
      pp v7
    ) (
      (@ite _ (x1 = (4 : Int32)) (dEq x1 (4 : Int32)) (
        pb (fX10_levelHere x0) fun v5 =>
        pp v5
      ) (
        pb (gI 9 3 x0) fun v4 =>
        pp v4))))
  ) (
    pb (gA 9 4 x0) fun v8 =>
    pb (lI 17 v8 x1) fun v9 =>
    pp v9))
noncomputable def fX10_told (x0 : Nat) (x1 : Int32) : PM Int32 :=
  pb (chk 9 x0) fun _ =>
  pb (fX10_in x1.toInt64 (0 : Int64) (5 : Int64)) fun v1 =>
  (@ite _ (v1 = 0) (dEq v1 0) (
    pb (fX10_refuses x0 (-2 : Int32)) fun v3 =>
    pp v3
  ) (
    pb (fX10_toldOf x0 x1) fun v5 =>
    pp v5))
noncomputable def fX10_digest_b6 (x0 : Nat) (x1 : Int64) (x3 : Int32) : PM ((Int64 × Int32) ⊕ (Int64)) :=
  (@ite _ ((6 : Int32) ≤ x3) (dLe (6 : Int32) x3) (
    pp (.inr x1)
  ) (
    pb (fX10_toldOf x0 x3) fun v2 =>
    pp (.inl ((((31 : Int64) * x1) + v2.toInt64), (x3 + 1)))))
noncomputable def fX10_digest_B6 (x0 : Nat) : (Int64 × Int32) → PM ((Int64 × Int32) ⊕ (Int64)) := fun (x : Int64 × Int32) => frJ x.1 fun y1 => frI x.2 fun y3 => fX10_digest_b6 x0 y1 y3
noncomputable def fX10_digest_b49 (x0 : Nat) (x1 : Int64) (x3 : Int32) : PM ((Int64 × Int32) ⊕ (Int64)) :=
  (@ite _ ((3 : Int32) ≤ x3) (dLe (3 : Int32) x3) (
    pp (.inr x1)
  ) (
    pb (fX10_spaceNow x0 x3) fun v9 =>
    pp (.inl ((((31 : Int64) * x1) + v9.toInt64), (x3 + 1)))))
noncomputable def fX10_digest_B49 (x0 : Nat) : (Int64 × Int32) → PM ((Int64 × Int32) ⊕ (Int64)) := fun (x : Int64 × Int32) => frJ x.1 fun y1 => frI x.2 fun y3 => fX10_digest_b49 x0 y1 y3
noncomputable def fX10_digest_b75 (x0 : Nat) (x1 : Int64) (x3 : Int32) : PM ((Int64 × Int32) ⊕ (Int64)) :=
  pb (gI 9 14 x0) fun v12 =>
  (@ite _ (v12 ≤ x3) (dLe v12 x3) (
    pp (.inr x1)
  ) (
    pb (gA 9 0 x0) fun v14 =>
    pb (lJ 18 v14 ((1 : Int32) + ((2 : Int32) * x3))) fun v15 =>
    pb (gA 9 0 x0) fun v16 =>
    pb (lJ 18 v16 ((2 : Int32) + ((2 : Int32) * x3))) fun v17 =>
    pp (.inl ((((31 : Int64) * (((31 : Int64) * x1) + v15)) + v17), (x3 + 1)))))
noncomputable def fX10_digest_B75 (x0 : Nat) : (Int64 × Int32) → PM ((Int64 × Int32) ⊕ (Int64)) := fun (x : Int64 × Int32) => frJ x.1 fun y1 => frI x.2 fun y3 => fX10_digest_b75 x0 y1 y3
noncomputable def fX10_digest (x0 : Nat) : PM Int64 :=
  pb (chk 9 x0) fun _ =>
  pb (plo (fX10_digest_B6 x0) fu ((2297 : Int64), (0 : Int32))) fun z4 =>
  pb (fX10_lays x0) fun _ =>
  pb (gI 9 8 x0) fun v7 =>
  pb (plo (fX10_digest_B49 x0) fu ((((31 : Int64) * z4) + v7.toInt64), (0 : Int32))) fun z11 =>
  pb (plo (fX10_digest_B75 x0) fu (z11, (0 : Int32))) fun z18 =>
  pb (fX10_isCuspidal x0) fun v19 =>
  (@ite _ (v19 = 0) (dEq v19 0) (
    pp (((31 : Int64) * z18) + (0 : Int32).toInt64)
  ) (
    pp (((31 : Int64) * z18) + (1 : Int32).toInt64)))
