theorem lev_run2 {N : Nat} (h1 : 1 ≤ N) (h2 : N ≤ 25) : runW (fX3_init 0 (nI N)) LB (okV N) = true := by
  sorry
theorem opc_run2 {N n : Nat} (h : cop N n) : runW (fX5_init (CL N).length 0 (nI n)) (CL N ++ [(4, 5, onesF 5)]) (okO2 N n) = true := by
  sorry
theorem chW_run2 {N n : Nat} (h : cop N n) : runW (fX4_characteristic 0) (mtW N n) (okW2 (mtW N n) (dim N) (tW N n)) = true := by
  sorry
theorem chV_run2 {N n : Nat} (h : cop N n) : runW (fX4_characteristic 0) (mtV N n) (okW2 (mtV N n) (cyc N) (tV N n)) = true := by
  sorry
theorem dsW_run2 {N n : Nat} (h : cop N n) : runW (fX4_diagonalSum 0) (mtW N n) (okS2 (mtW N n) (ttW N n)) = true := by
  sorry
theorem dsV_run2 {N n : Nat} (h : cop N n) : runW (fX4_diagonalSum 0) (mtV N n) (okS2 (mtV N n) (ttV N n)) = true := by
  sorry
theorem mul_run2 {N n : Nat} (h : cop N n) : allN 17 (fun v => runW (fX4_multiplicity 0 (vI v)) (VR N n) (okG2 N n v)) = true := by
  sorry
