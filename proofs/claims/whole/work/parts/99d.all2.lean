theorem lev_run2 {N : Nat} (h1 : 1 ≤ N) (h2 : N ≤ 25) : runW (fX3_init 0 (nI N)) LB (okV N) = true := by
  rcases nle25 h1 h2 with rfl | rfl | rfl | rfl | rfl | rfl | rfl | rfl | rfl | rfl | rfl | rfl | rfl | rfl | rfl | rfl | rfl | rfl | rfl | rfl | rfl | rfl | rfl | rfl | rfl
  · exact lev2_1
  · exact lev2_2
  · exact lev2_3
  · exact lev2_4
  · exact lev2_5
  · exact lev2_6
  · exact lev2_7
  · exact lev2_8
  · exact lev2_9
  · exact lev2_10
  · exact lev2_11
  · exact lev2_12
  · exact lev2_13
  · exact lev2_14
  · exact lev2_15
  · exact lev2_16
  · exact lev2_17
  · exact lev2_18
  · exact lev2_19
  · exact lev2_20
  · exact lev2_21
  · exact lev2_22
  · exact lev2_23
  · exact lev2_24
  · exact lev2_25
theorem opc_run2 {N n : Nat} (h : cop N n) : runW (fX5_init (CL N).length 0 (nI n)) (CL N ++ [(4, 5, onesF 5)]) (okO2 N n) = true := by
  have h7 := h.2.2.2.1
  rcases opl h with e | e | e | e | e | e | e | e | e | e | e | e | e | e | e | e | e | e | e | e | e | e | e | e | e | e | e | e | e | e | e | e | e | e | e | e | e | e | e | e | e | e | e | e | e | e | e | e | e | e | e | e | e | e | e | e | e | e | e | e | e | e | e | e | e | e | e | e | e | e | e | e | e | e | e | e | e | e | e | e | e | e | e | e | e | e | e | e | e | e | e | e | e | e | e | e | e | e | e | e | e | e | e | e | e | e | e | e | e | e | e | e | e | e | e | e | e | e | e
  · obtain ⟨rfl, rfl⟩ : N = 1 ∧ n = 1 := by omega
    exact opc2_1_1
  · obtain ⟨rfl, rfl⟩ : N = 1 ∧ n = 2 := by omega
    exact opc2_1_2
  · obtain ⟨rfl, rfl⟩ : N = 1 ∧ n = 3 := by omega
    exact opc2_1_3
  · obtain ⟨rfl, rfl⟩ : N = 1 ∧ n = 4 := by omega
    exact opc2_1_4
  · obtain ⟨rfl, rfl⟩ : N = 1 ∧ n = 5 := by omega
    exact opc2_1_5
  · obtain ⟨rfl, rfl⟩ : N = 1 ∧ n = 6 := by omega
    exact opc2_1_6
  · obtain ⟨rfl, rfl⟩ : N = 1 ∧ n = 7 := by omega
    exact opc2_1_7
  · obtain ⟨rfl, rfl⟩ : N = 2 ∧ n = 1 := by omega
    exact opc2_2_1
  · obtain ⟨rfl, rfl⟩ : N = 2 ∧ n = 3 := by omega
    exact opc2_2_3
  · obtain ⟨rfl, rfl⟩ : N = 2 ∧ n = 5 := by omega
    exact opc2_2_5
  · obtain ⟨rfl, rfl⟩ : N = 2 ∧ n = 7 := by omega
    exact opc2_2_7
  · obtain ⟨rfl, rfl⟩ : N = 3 ∧ n = 1 := by omega
    exact opc2_3_1
  · obtain ⟨rfl, rfl⟩ : N = 3 ∧ n = 2 := by omega
    exact opc2_3_2
  · obtain ⟨rfl, rfl⟩ : N = 3 ∧ n = 4 := by omega
    exact opc2_3_4
  · obtain ⟨rfl, rfl⟩ : N = 3 ∧ n = 5 := by omega
    exact opc2_3_5
  · obtain ⟨rfl, rfl⟩ : N = 3 ∧ n = 7 := by omega
    exact opc2_3_7
  · obtain ⟨rfl, rfl⟩ : N = 4 ∧ n = 1 := by omega
    exact opc2_4_1
  · obtain ⟨rfl, rfl⟩ : N = 4 ∧ n = 3 := by omega
    exact opc2_4_3
  · obtain ⟨rfl, rfl⟩ : N = 4 ∧ n = 5 := by omega
    exact opc2_4_5
  · obtain ⟨rfl, rfl⟩ : N = 4 ∧ n = 7 := by omega
    exact opc2_4_7
  · obtain ⟨rfl, rfl⟩ : N = 5 ∧ n = 1 := by omega
    exact opc2_5_1
  · obtain ⟨rfl, rfl⟩ : N = 5 ∧ n = 2 := by omega
    exact opc2_5_2
  · obtain ⟨rfl, rfl⟩ : N = 5 ∧ n = 3 := by omega
    exact opc2_5_3
  · obtain ⟨rfl, rfl⟩ : N = 5 ∧ n = 4 := by omega
    exact opc2_5_4
  · obtain ⟨rfl, rfl⟩ : N = 5 ∧ n = 6 := by omega
    exact opc2_5_6
  · obtain ⟨rfl, rfl⟩ : N = 5 ∧ n = 7 := by omega
    exact opc2_5_7
  · obtain ⟨rfl, rfl⟩ : N = 6 ∧ n = 1 := by omega
    exact opc2_6_1
  · obtain ⟨rfl, rfl⟩ : N = 6 ∧ n = 5 := by omega
    exact opc2_6_5
  · obtain ⟨rfl, rfl⟩ : N = 6 ∧ n = 7 := by omega
    exact opc2_6_7
  · obtain ⟨rfl, rfl⟩ : N = 7 ∧ n = 1 := by omega
    exact opc2_7_1
  · obtain ⟨rfl, rfl⟩ : N = 7 ∧ n = 2 := by omega
    exact opc2_7_2
  · obtain ⟨rfl, rfl⟩ : N = 7 ∧ n = 3 := by omega
    exact opc2_7_3
  · obtain ⟨rfl, rfl⟩ : N = 7 ∧ n = 4 := by omega
    exact opc2_7_4
  · obtain ⟨rfl, rfl⟩ : N = 7 ∧ n = 5 := by omega
    exact opc2_7_5
  · obtain ⟨rfl, rfl⟩ : N = 7 ∧ n = 6 := by omega
    exact opc2_7_6
  · obtain ⟨rfl, rfl⟩ : N = 8 ∧ n = 1 := by omega
    exact opc2_8_1
  · obtain ⟨rfl, rfl⟩ : N = 8 ∧ n = 3 := by omega
    exact opc2_8_3
  · obtain ⟨rfl, rfl⟩ : N = 8 ∧ n = 5 := by omega
    exact opc2_8_5
  · obtain ⟨rfl, rfl⟩ : N = 8 ∧ n = 7 := by omega
    exact opc2_8_7
  · obtain ⟨rfl, rfl⟩ : N = 9 ∧ n = 1 := by omega
    exact opc2_9_1
  · obtain ⟨rfl, rfl⟩ : N = 9 ∧ n = 2 := by omega
    exact opc2_9_2
  · obtain ⟨rfl, rfl⟩ : N = 9 ∧ n = 4 := by omega
    exact opc2_9_4
  · obtain ⟨rfl, rfl⟩ : N = 9 ∧ n = 5 := by omega
    exact opc2_9_5
  · obtain ⟨rfl, rfl⟩ : N = 9 ∧ n = 7 := by omega
    exact opc2_9_7
  · obtain ⟨rfl, rfl⟩ : N = 10 ∧ n = 1 := by omega
    exact opc2_10_1
  · obtain ⟨rfl, rfl⟩ : N = 10 ∧ n = 3 := by omega
    exact opc2_10_3
  · obtain ⟨rfl, rfl⟩ : N = 10 ∧ n = 7 := by omega
    exact opc2_10_7
  · obtain ⟨rfl, rfl⟩ : N = 11 ∧ n = 1 := by omega
    exact opc2_11_1
  · obtain ⟨rfl, rfl⟩ : N = 11 ∧ n = 2 := by omega
    exact opc2_11_2
  · obtain ⟨rfl, rfl⟩ : N = 11 ∧ n = 3 := by omega
    exact opc2_11_3
  · obtain ⟨rfl, rfl⟩ : N = 11 ∧ n = 4 := by omega
    exact opc2_11_4
  · obtain ⟨rfl, rfl⟩ : N = 11 ∧ n = 5 := by omega
    exact opc2_11_5
  · obtain ⟨rfl, rfl⟩ : N = 11 ∧ n = 6 := by omega
    exact opc2_11_6
  · obtain ⟨rfl, rfl⟩ : N = 11 ∧ n = 7 := by omega
    exact opc2_11_7
  · obtain ⟨rfl, rfl⟩ : N = 12 ∧ n = 1 := by omega
    exact opc2_12_1
  · obtain ⟨rfl, rfl⟩ : N = 12 ∧ n = 5 := by omega
    exact opc2_12_5
  · obtain ⟨rfl, rfl⟩ : N = 12 ∧ n = 7 := by omega
    exact opc2_12_7
  · obtain ⟨rfl, rfl⟩ : N = 13 ∧ n = 1 := by omega
    exact opc2_13_1
  · obtain ⟨rfl, rfl⟩ : N = 13 ∧ n = 2 := by omega
    exact opc2_13_2
  · obtain ⟨rfl, rfl⟩ : N = 13 ∧ n = 3 := by omega
    exact opc2_13_3
  · obtain ⟨rfl, rfl⟩ : N = 13 ∧ n = 4 := by omega
    exact opc2_13_4
  · obtain ⟨rfl, rfl⟩ : N = 13 ∧ n = 5 := by omega
    exact opc2_13_5
  · obtain ⟨rfl, rfl⟩ : N = 13 ∧ n = 6 := by omega
    exact opc2_13_6
  · obtain ⟨rfl, rfl⟩ : N = 13 ∧ n = 7 := by omega
    exact opc2_13_7
  · obtain ⟨rfl, rfl⟩ : N = 14 ∧ n = 1 := by omega
    exact opc2_14_1
  · obtain ⟨rfl, rfl⟩ : N = 14 ∧ n = 3 := by omega
    exact opc2_14_3
  · obtain ⟨rfl, rfl⟩ : N = 14 ∧ n = 5 := by omega
    exact opc2_14_5
  · obtain ⟨rfl, rfl⟩ : N = 15 ∧ n = 1 := by omega
    exact opc2_15_1
  · obtain ⟨rfl, rfl⟩ : N = 15 ∧ n = 2 := by omega
    exact opc2_15_2
  · obtain ⟨rfl, rfl⟩ : N = 15 ∧ n = 4 := by omega
    exact opc2_15_4
  · obtain ⟨rfl, rfl⟩ : N = 15 ∧ n = 7 := by omega
    exact opc2_15_7
  · obtain ⟨rfl, rfl⟩ : N = 16 ∧ n = 1 := by omega
    exact opc2_16_1
  · obtain ⟨rfl, rfl⟩ : N = 16 ∧ n = 3 := by omega
    exact opc2_16_3
  · obtain ⟨rfl, rfl⟩ : N = 16 ∧ n = 5 := by omega
    exact opc2_16_5
  · obtain ⟨rfl, rfl⟩ : N = 16 ∧ n = 7 := by omega
    exact opc2_16_7
  · obtain ⟨rfl, rfl⟩ : N = 17 ∧ n = 1 := by omega
    exact opc2_17_1
  · obtain ⟨rfl, rfl⟩ : N = 17 ∧ n = 2 := by omega
    exact opc2_17_2
  · obtain ⟨rfl, rfl⟩ : N = 17 ∧ n = 3 := by omega
    exact opc2_17_3
  · obtain ⟨rfl, rfl⟩ : N = 17 ∧ n = 4 := by omega
    exact opc2_17_4
  · obtain ⟨rfl, rfl⟩ : N = 17 ∧ n = 5 := by omega
    exact opc2_17_5
  · obtain ⟨rfl, rfl⟩ : N = 17 ∧ n = 6 := by omega
    exact opc2_17_6
  · obtain ⟨rfl, rfl⟩ : N = 17 ∧ n = 7 := by omega
    exact opc2_17_7
  · obtain ⟨rfl, rfl⟩ : N = 18 ∧ n = 1 := by omega
    exact opc2_18_1
  · obtain ⟨rfl, rfl⟩ : N = 18 ∧ n = 5 := by omega
    exact opc2_18_5
  · obtain ⟨rfl, rfl⟩ : N = 18 ∧ n = 7 := by omega
    exact opc2_18_7
  · obtain ⟨rfl, rfl⟩ : N = 19 ∧ n = 1 := by omega
    exact opc2_19_1
  · obtain ⟨rfl, rfl⟩ : N = 19 ∧ n = 2 := by omega
    exact opc2_19_2
  · obtain ⟨rfl, rfl⟩ : N = 19 ∧ n = 3 := by omega
    exact opc2_19_3
  · obtain ⟨rfl, rfl⟩ : N = 19 ∧ n = 4 := by omega
    exact opc2_19_4
  · obtain ⟨rfl, rfl⟩ : N = 19 ∧ n = 5 := by omega
    exact opc2_19_5
  · obtain ⟨rfl, rfl⟩ : N = 19 ∧ n = 6 := by omega
    exact opc2_19_6
  · obtain ⟨rfl, rfl⟩ : N = 19 ∧ n = 7 := by omega
    exact opc2_19_7
  · obtain ⟨rfl, rfl⟩ : N = 20 ∧ n = 1 := by omega
    exact opc2_20_1
  · obtain ⟨rfl, rfl⟩ : N = 20 ∧ n = 3 := by omega
    exact opc2_20_3
  · obtain ⟨rfl, rfl⟩ : N = 20 ∧ n = 7 := by omega
    exact opc2_20_7
  · obtain ⟨rfl, rfl⟩ : N = 21 ∧ n = 1 := by omega
    exact opc2_21_1
  · obtain ⟨rfl, rfl⟩ : N = 21 ∧ n = 2 := by omega
    exact opc2_21_2
  · obtain ⟨rfl, rfl⟩ : N = 21 ∧ n = 4 := by omega
    exact opc2_21_4
  · obtain ⟨rfl, rfl⟩ : N = 21 ∧ n = 5 := by omega
    exact opc2_21_5
  · obtain ⟨rfl, rfl⟩ : N = 22 ∧ n = 1 := by omega
    exact opc2_22_1
  · obtain ⟨rfl, rfl⟩ : N = 22 ∧ n = 3 := by omega
    exact opc2_22_3
  · obtain ⟨rfl, rfl⟩ : N = 22 ∧ n = 5 := by omega
    exact opc2_22_5
  · obtain ⟨rfl, rfl⟩ : N = 22 ∧ n = 7 := by omega
    exact opc2_22_7
  · obtain ⟨rfl, rfl⟩ : N = 23 ∧ n = 1 := by omega
    exact opc2_23_1
  · obtain ⟨rfl, rfl⟩ : N = 23 ∧ n = 2 := by omega
    exact opc2_23_2
  · obtain ⟨rfl, rfl⟩ : N = 23 ∧ n = 3 := by omega
    exact opc2_23_3
  · obtain ⟨rfl, rfl⟩ : N = 23 ∧ n = 4 := by omega
    exact opc2_23_4
  · obtain ⟨rfl, rfl⟩ : N = 23 ∧ n = 5 := by omega
    exact opc2_23_5
  · obtain ⟨rfl, rfl⟩ : N = 23 ∧ n = 6 := by omega
    exact opc2_23_6
  · obtain ⟨rfl, rfl⟩ : N = 23 ∧ n = 7 := by omega
    exact opc2_23_7
  · obtain ⟨rfl, rfl⟩ : N = 24 ∧ n = 1 := by omega
    exact opc2_24_1
  · obtain ⟨rfl, rfl⟩ : N = 24 ∧ n = 5 := by omega
    exact opc2_24_5
  · obtain ⟨rfl, rfl⟩ : N = 24 ∧ n = 7 := by omega
    exact opc2_24_7
  · obtain ⟨rfl, rfl⟩ : N = 25 ∧ n = 1 := by omega
    exact opc2_25_1
  · obtain ⟨rfl, rfl⟩ : N = 25 ∧ n = 2 := by omega
    exact opc2_25_2
  · obtain ⟨rfl, rfl⟩ : N = 25 ∧ n = 3 := by omega
    exact opc2_25_3
  · obtain ⟨rfl, rfl⟩ : N = 25 ∧ n = 4 := by omega
    exact opc2_25_4
  · obtain ⟨rfl, rfl⟩ : N = 25 ∧ n = 6 := by omega
    exact opc2_25_6
  · obtain ⟨rfl, rfl⟩ : N = 25 ∧ n = 7 := by omega
    exact opc2_25_7
theorem chW_run2 {N n : Nat} (h : cop N n) : runW (fX4_characteristic 0) (mtW N n) (okW2 (mtW N n) (dim N) (tW N n)) = true := by
  have h7 := h.2.2.2.1
  rcases opl h with e | e | e | e | e | e | e | e | e | e | e | e | e | e | e | e | e | e | e | e | e | e | e | e | e | e | e | e | e | e | e | e | e | e | e | e | e | e | e | e | e | e | e | e | e | e | e | e | e | e | e | e | e | e | e | e | e | e | e | e | e | e | e | e | e | e | e | e | e | e | e | e | e | e | e | e | e | e | e | e | e | e | e | e | e | e | e | e | e | e | e | e | e | e | e | e | e | e | e | e | e | e | e | e | e | e | e | e | e | e | e | e | e | e | e | e | e | e | e
  · obtain ⟨rfl, rfl⟩ : N = 1 ∧ n = 1 := by omega
    exact chW2_1_1
  · obtain ⟨rfl, rfl⟩ : N = 1 ∧ n = 2 := by omega
    exact chW2_1_2
  · obtain ⟨rfl, rfl⟩ : N = 1 ∧ n = 3 := by omega
    exact chW2_1_3
  · obtain ⟨rfl, rfl⟩ : N = 1 ∧ n = 4 := by omega
    exact chW2_1_4
  · obtain ⟨rfl, rfl⟩ : N = 1 ∧ n = 5 := by omega
    exact chW2_1_5
  · obtain ⟨rfl, rfl⟩ : N = 1 ∧ n = 6 := by omega
    exact chW2_1_6
  · obtain ⟨rfl, rfl⟩ : N = 1 ∧ n = 7 := by omega
    exact chW2_1_7
  · obtain ⟨rfl, rfl⟩ : N = 2 ∧ n = 1 := by omega
    exact chW2_2_1
  · obtain ⟨rfl, rfl⟩ : N = 2 ∧ n = 3 := by omega
    exact chW2_2_3
  · obtain ⟨rfl, rfl⟩ : N = 2 ∧ n = 5 := by omega
    exact chW2_2_5
  · obtain ⟨rfl, rfl⟩ : N = 2 ∧ n = 7 := by omega
    exact chW2_2_7
  · obtain ⟨rfl, rfl⟩ : N = 3 ∧ n = 1 := by omega
    exact chW2_3_1
  · obtain ⟨rfl, rfl⟩ : N = 3 ∧ n = 2 := by omega
    exact chW2_3_2
  · obtain ⟨rfl, rfl⟩ : N = 3 ∧ n = 4 := by omega
    exact chW2_3_4
  · obtain ⟨rfl, rfl⟩ : N = 3 ∧ n = 5 := by omega
    exact chW2_3_5
  · obtain ⟨rfl, rfl⟩ : N = 3 ∧ n = 7 := by omega
    exact chW2_3_7
  · obtain ⟨rfl, rfl⟩ : N = 4 ∧ n = 1 := by omega
    exact chW2_4_1
  · obtain ⟨rfl, rfl⟩ : N = 4 ∧ n = 3 := by omega
    exact chW2_4_3
  · obtain ⟨rfl, rfl⟩ : N = 4 ∧ n = 5 := by omega
    exact chW2_4_5
  · obtain ⟨rfl, rfl⟩ : N = 4 ∧ n = 7 := by omega
    exact chW2_4_7
  · obtain ⟨rfl, rfl⟩ : N = 5 ∧ n = 1 := by omega
    exact chW2_5_1
  · obtain ⟨rfl, rfl⟩ : N = 5 ∧ n = 2 := by omega
    exact chW2_5_2
  · obtain ⟨rfl, rfl⟩ : N = 5 ∧ n = 3 := by omega
    exact chW2_5_3
  · obtain ⟨rfl, rfl⟩ : N = 5 ∧ n = 4 := by omega
    exact chW2_5_4
  · obtain ⟨rfl, rfl⟩ : N = 5 ∧ n = 6 := by omega
    exact chW2_5_6
  · obtain ⟨rfl, rfl⟩ : N = 5 ∧ n = 7 := by omega
    exact chW2_5_7
  · obtain ⟨rfl, rfl⟩ : N = 6 ∧ n = 1 := by omega
    exact chW2_6_1
  · obtain ⟨rfl, rfl⟩ : N = 6 ∧ n = 5 := by omega
    exact chW2_6_5
  · obtain ⟨rfl, rfl⟩ : N = 6 ∧ n = 7 := by omega
    exact chW2_6_7
  · obtain ⟨rfl, rfl⟩ : N = 7 ∧ n = 1 := by omega
    exact chW2_7_1
  · obtain ⟨rfl, rfl⟩ : N = 7 ∧ n = 2 := by omega
    exact chW2_7_2
  · obtain ⟨rfl, rfl⟩ : N = 7 ∧ n = 3 := by omega
    exact chW2_7_3
  · obtain ⟨rfl, rfl⟩ : N = 7 ∧ n = 4 := by omega
    exact chW2_7_4
  · obtain ⟨rfl, rfl⟩ : N = 7 ∧ n = 5 := by omega
    exact chW2_7_5
  · obtain ⟨rfl, rfl⟩ : N = 7 ∧ n = 6 := by omega
    exact chW2_7_6
  · obtain ⟨rfl, rfl⟩ : N = 8 ∧ n = 1 := by omega
    exact chW2_8_1
  · obtain ⟨rfl, rfl⟩ : N = 8 ∧ n = 3 := by omega
    exact chW2_8_3
  · obtain ⟨rfl, rfl⟩ : N = 8 ∧ n = 5 := by omega
    exact chW2_8_5
  · obtain ⟨rfl, rfl⟩ : N = 8 ∧ n = 7 := by omega
    exact chW2_8_7
  · obtain ⟨rfl, rfl⟩ : N = 9 ∧ n = 1 := by omega
    exact chW2_9_1
  · obtain ⟨rfl, rfl⟩ : N = 9 ∧ n = 2 := by omega
    exact chW2_9_2
  · obtain ⟨rfl, rfl⟩ : N = 9 ∧ n = 4 := by omega
    exact chW2_9_4
  · obtain ⟨rfl, rfl⟩ : N = 9 ∧ n = 5 := by omega
    exact chW2_9_5
  · obtain ⟨rfl, rfl⟩ : N = 9 ∧ n = 7 := by omega
    exact chW2_9_7
  · obtain ⟨rfl, rfl⟩ : N = 10 ∧ n = 1 := by omega
    exact chW2_10_1
  · obtain ⟨rfl, rfl⟩ : N = 10 ∧ n = 3 := by omega
    exact chW2_10_3
  · obtain ⟨rfl, rfl⟩ : N = 10 ∧ n = 7 := by omega
    exact chW2_10_7
  · obtain ⟨rfl, rfl⟩ : N = 11 ∧ n = 1 := by omega
    exact chW2_11_1
  · obtain ⟨rfl, rfl⟩ : N = 11 ∧ n = 2 := by omega
    exact chW2_11_2
  · obtain ⟨rfl, rfl⟩ : N = 11 ∧ n = 3 := by omega
    exact chW2_11_3
  · obtain ⟨rfl, rfl⟩ : N = 11 ∧ n = 4 := by omega
    exact chW2_11_4
  · obtain ⟨rfl, rfl⟩ : N = 11 ∧ n = 5 := by omega
    exact chW2_11_5
  · obtain ⟨rfl, rfl⟩ : N = 11 ∧ n = 6 := by omega
    exact chW2_11_6
  · obtain ⟨rfl, rfl⟩ : N = 11 ∧ n = 7 := by omega
    exact chW2_11_7
  · obtain ⟨rfl, rfl⟩ : N = 12 ∧ n = 1 := by omega
    exact chW2_12_1
  · obtain ⟨rfl, rfl⟩ : N = 12 ∧ n = 5 := by omega
    exact chW2_12_5
  · obtain ⟨rfl, rfl⟩ : N = 12 ∧ n = 7 := by omega
    exact chW2_12_7
  · obtain ⟨rfl, rfl⟩ : N = 13 ∧ n = 1 := by omega
    exact chW2_13_1
  · obtain ⟨rfl, rfl⟩ : N = 13 ∧ n = 2 := by omega
    exact chW2_13_2
  · obtain ⟨rfl, rfl⟩ : N = 13 ∧ n = 3 := by omega
    exact chW2_13_3
  · obtain ⟨rfl, rfl⟩ : N = 13 ∧ n = 4 := by omega
    exact chW2_13_4
  · obtain ⟨rfl, rfl⟩ : N = 13 ∧ n = 5 := by omega
    exact chW2_13_5
  · obtain ⟨rfl, rfl⟩ : N = 13 ∧ n = 6 := by omega
    exact chW2_13_6
  · obtain ⟨rfl, rfl⟩ : N = 13 ∧ n = 7 := by omega
    exact chW2_13_7
  · obtain ⟨rfl, rfl⟩ : N = 14 ∧ n = 1 := by omega
    exact chW2_14_1
  · obtain ⟨rfl, rfl⟩ : N = 14 ∧ n = 3 := by omega
    exact chW2_14_3
  · obtain ⟨rfl, rfl⟩ : N = 14 ∧ n = 5 := by omega
    exact chW2_14_5
  · obtain ⟨rfl, rfl⟩ : N = 15 ∧ n = 1 := by omega
    exact chW2_15_1
  · obtain ⟨rfl, rfl⟩ : N = 15 ∧ n = 2 := by omega
    exact chW2_15_2
  · obtain ⟨rfl, rfl⟩ : N = 15 ∧ n = 4 := by omega
    exact chW2_15_4
  · obtain ⟨rfl, rfl⟩ : N = 15 ∧ n = 7 := by omega
    exact chW2_15_7
  · obtain ⟨rfl, rfl⟩ : N = 16 ∧ n = 1 := by omega
    exact chW2_16_1
  · obtain ⟨rfl, rfl⟩ : N = 16 ∧ n = 3 := by omega
    exact chW2_16_3
  · obtain ⟨rfl, rfl⟩ : N = 16 ∧ n = 5 := by omega
    exact chW2_16_5
  · obtain ⟨rfl, rfl⟩ : N = 16 ∧ n = 7 := by omega
    exact chW2_16_7
  · obtain ⟨rfl, rfl⟩ : N = 17 ∧ n = 1 := by omega
    exact chW2_17_1
  · obtain ⟨rfl, rfl⟩ : N = 17 ∧ n = 2 := by omega
    exact chW2_17_2
  · obtain ⟨rfl, rfl⟩ : N = 17 ∧ n = 3 := by omega
    exact chW2_17_3
  · obtain ⟨rfl, rfl⟩ : N = 17 ∧ n = 4 := by omega
    exact chW2_17_4
  · obtain ⟨rfl, rfl⟩ : N = 17 ∧ n = 5 := by omega
    exact chW2_17_5
  · obtain ⟨rfl, rfl⟩ : N = 17 ∧ n = 6 := by omega
    exact chW2_17_6
  · obtain ⟨rfl, rfl⟩ : N = 17 ∧ n = 7 := by omega
    exact chW2_17_7
  · obtain ⟨rfl, rfl⟩ : N = 18 ∧ n = 1 := by omega
    exact chW2_18_1
  · obtain ⟨rfl, rfl⟩ : N = 18 ∧ n = 5 := by omega
    exact chW2_18_5
  · obtain ⟨rfl, rfl⟩ : N = 18 ∧ n = 7 := by omega
    exact chW2_18_7
  · obtain ⟨rfl, rfl⟩ : N = 19 ∧ n = 1 := by omega
    exact chW2_19_1
  · obtain ⟨rfl, rfl⟩ : N = 19 ∧ n = 2 := by omega
    exact chW2_19_2
  · obtain ⟨rfl, rfl⟩ : N = 19 ∧ n = 3 := by omega
    exact chW2_19_3
  · obtain ⟨rfl, rfl⟩ : N = 19 ∧ n = 4 := by omega
    exact chW2_19_4
  · obtain ⟨rfl, rfl⟩ : N = 19 ∧ n = 5 := by omega
    exact chW2_19_5
  · obtain ⟨rfl, rfl⟩ : N = 19 ∧ n = 6 := by omega
    exact chW2_19_6
  · obtain ⟨rfl, rfl⟩ : N = 19 ∧ n = 7 := by omega
    exact chW2_19_7
  · obtain ⟨rfl, rfl⟩ : N = 20 ∧ n = 1 := by omega
    exact chW2_20_1
  · obtain ⟨rfl, rfl⟩ : N = 20 ∧ n = 3 := by omega
    exact chW2_20_3
  · obtain ⟨rfl, rfl⟩ : N = 20 ∧ n = 7 := by omega
    exact chW2_20_7
  · obtain ⟨rfl, rfl⟩ : N = 21 ∧ n = 1 := by omega
    exact chW2_21_1
  · obtain ⟨rfl, rfl⟩ : N = 21 ∧ n = 2 := by omega
    exact chW2_21_2
  · obtain ⟨rfl, rfl⟩ : N = 21 ∧ n = 4 := by omega
    exact chW2_21_4
  · obtain ⟨rfl, rfl⟩ : N = 21 ∧ n = 5 := by omega
    exact chW2_21_5
  · obtain ⟨rfl, rfl⟩ : N = 22 ∧ n = 1 := by omega
    exact chW2_22_1
  · obtain ⟨rfl, rfl⟩ : N = 22 ∧ n = 3 := by omega
    exact chW2_22_3
  · obtain ⟨rfl, rfl⟩ : N = 22 ∧ n = 5 := by omega
    exact chW2_22_5
  · obtain ⟨rfl, rfl⟩ : N = 22 ∧ n = 7 := by omega
    exact chW2_22_7
  · obtain ⟨rfl, rfl⟩ : N = 23 ∧ n = 1 := by omega
    exact chW2_23_1
  · obtain ⟨rfl, rfl⟩ : N = 23 ∧ n = 2 := by omega
    exact chW2_23_2
  · obtain ⟨rfl, rfl⟩ : N = 23 ∧ n = 3 := by omega
    exact chW2_23_3
  · obtain ⟨rfl, rfl⟩ : N = 23 ∧ n = 4 := by omega
    exact chW2_23_4
  · obtain ⟨rfl, rfl⟩ : N = 23 ∧ n = 5 := by omega
    exact chW2_23_5
  · obtain ⟨rfl, rfl⟩ : N = 23 ∧ n = 6 := by omega
    exact chW2_23_6
  · obtain ⟨rfl, rfl⟩ : N = 23 ∧ n = 7 := by omega
    exact chW2_23_7
  · obtain ⟨rfl, rfl⟩ : N = 24 ∧ n = 1 := by omega
    exact chW2_24_1
  · obtain ⟨rfl, rfl⟩ : N = 24 ∧ n = 5 := by omega
    exact chW2_24_5
  · obtain ⟨rfl, rfl⟩ : N = 24 ∧ n = 7 := by omega
    exact chW2_24_7
  · obtain ⟨rfl, rfl⟩ : N = 25 ∧ n = 1 := by omega
    exact chW2_25_1
  · obtain ⟨rfl, rfl⟩ : N = 25 ∧ n = 2 := by omega
    exact chW2_25_2
  · obtain ⟨rfl, rfl⟩ : N = 25 ∧ n = 3 := by omega
    exact chW2_25_3
  · obtain ⟨rfl, rfl⟩ : N = 25 ∧ n = 4 := by omega
    exact chW2_25_4
  · obtain ⟨rfl, rfl⟩ : N = 25 ∧ n = 6 := by omega
    exact chW2_25_6
  · obtain ⟨rfl, rfl⟩ : N = 25 ∧ n = 7 := by omega
    exact chW2_25_7
theorem chV_run2 {N n : Nat} (h : cop N n) : runW (fX4_characteristic 0) (mtV N n) (okW2 (mtV N n) (cyc N) (tV N n)) = true := by
  have h7 := h.2.2.2.1
  rcases opl h with e | e | e | e | e | e | e | e | e | e | e | e | e | e | e | e | e | e | e | e | e | e | e | e | e | e | e | e | e | e | e | e | e | e | e | e | e | e | e | e | e | e | e | e | e | e | e | e | e | e | e | e | e | e | e | e | e | e | e | e | e | e | e | e | e | e | e | e | e | e | e | e | e | e | e | e | e | e | e | e | e | e | e | e | e | e | e | e | e | e | e | e | e | e | e | e | e | e | e | e | e | e | e | e | e | e | e | e | e | e | e | e | e | e | e | e | e | e | e
  · obtain ⟨rfl, rfl⟩ : N = 1 ∧ n = 1 := by omega
    exact chV2_1_1
  · obtain ⟨rfl, rfl⟩ : N = 1 ∧ n = 2 := by omega
    exact chV2_1_2
  · obtain ⟨rfl, rfl⟩ : N = 1 ∧ n = 3 := by omega
    exact chV2_1_3
  · obtain ⟨rfl, rfl⟩ : N = 1 ∧ n = 4 := by omega
    exact chV2_1_4
  · obtain ⟨rfl, rfl⟩ : N = 1 ∧ n = 5 := by omega
    exact chV2_1_5
  · obtain ⟨rfl, rfl⟩ : N = 1 ∧ n = 6 := by omega
    exact chV2_1_6
  · obtain ⟨rfl, rfl⟩ : N = 1 ∧ n = 7 := by omega
    exact chV2_1_7
  · obtain ⟨rfl, rfl⟩ : N = 2 ∧ n = 1 := by omega
    exact chV2_2_1
  · obtain ⟨rfl, rfl⟩ : N = 2 ∧ n = 3 := by omega
    exact chV2_2_3
  · obtain ⟨rfl, rfl⟩ : N = 2 ∧ n = 5 := by omega
    exact chV2_2_5
  · obtain ⟨rfl, rfl⟩ : N = 2 ∧ n = 7 := by omega
    exact chV2_2_7
  · obtain ⟨rfl, rfl⟩ : N = 3 ∧ n = 1 := by omega
    exact chV2_3_1
  · obtain ⟨rfl, rfl⟩ : N = 3 ∧ n = 2 := by omega
    exact chV2_3_2
  · obtain ⟨rfl, rfl⟩ : N = 3 ∧ n = 4 := by omega
    exact chV2_3_4
  · obtain ⟨rfl, rfl⟩ : N = 3 ∧ n = 5 := by omega
    exact chV2_3_5
  · obtain ⟨rfl, rfl⟩ : N = 3 ∧ n = 7 := by omega
    exact chV2_3_7
  · obtain ⟨rfl, rfl⟩ : N = 4 ∧ n = 1 := by omega
    exact chV2_4_1
  · obtain ⟨rfl, rfl⟩ : N = 4 ∧ n = 3 := by omega
    exact chV2_4_3
  · obtain ⟨rfl, rfl⟩ : N = 4 ∧ n = 5 := by omega
    exact chV2_4_5
  · obtain ⟨rfl, rfl⟩ : N = 4 ∧ n = 7 := by omega
    exact chV2_4_7
  · obtain ⟨rfl, rfl⟩ : N = 5 ∧ n = 1 := by omega
    exact chV2_5_1
  · obtain ⟨rfl, rfl⟩ : N = 5 ∧ n = 2 := by omega
    exact chV2_5_2
  · obtain ⟨rfl, rfl⟩ : N = 5 ∧ n = 3 := by omega
    exact chV2_5_3
  · obtain ⟨rfl, rfl⟩ : N = 5 ∧ n = 4 := by omega
    exact chV2_5_4
  · obtain ⟨rfl, rfl⟩ : N = 5 ∧ n = 6 := by omega
    exact chV2_5_6
  · obtain ⟨rfl, rfl⟩ : N = 5 ∧ n = 7 := by omega
    exact chV2_5_7
  · obtain ⟨rfl, rfl⟩ : N = 6 ∧ n = 1 := by omega
    exact chV2_6_1
  · obtain ⟨rfl, rfl⟩ : N = 6 ∧ n = 5 := by omega
    exact chV2_6_5
  · obtain ⟨rfl, rfl⟩ : N = 6 ∧ n = 7 := by omega
    exact chV2_6_7
  · obtain ⟨rfl, rfl⟩ : N = 7 ∧ n = 1 := by omega
    exact chV2_7_1
  · obtain ⟨rfl, rfl⟩ : N = 7 ∧ n = 2 := by omega
    exact chV2_7_2
  · obtain ⟨rfl, rfl⟩ : N = 7 ∧ n = 3 := by omega
    exact chV2_7_3
  · obtain ⟨rfl, rfl⟩ : N = 7 ∧ n = 4 := by omega
    exact chV2_7_4
  · obtain ⟨rfl, rfl⟩ : N = 7 ∧ n = 5 := by omega
    exact chV2_7_5
  · obtain ⟨rfl, rfl⟩ : N = 7 ∧ n = 6 := by omega
    exact chV2_7_6
  · obtain ⟨rfl, rfl⟩ : N = 8 ∧ n = 1 := by omega
    exact chV2_8_1
  · obtain ⟨rfl, rfl⟩ : N = 8 ∧ n = 3 := by omega
    exact chV2_8_3
  · obtain ⟨rfl, rfl⟩ : N = 8 ∧ n = 5 := by omega
    exact chV2_8_5
  · obtain ⟨rfl, rfl⟩ : N = 8 ∧ n = 7 := by omega
    exact chV2_8_7
  · obtain ⟨rfl, rfl⟩ : N = 9 ∧ n = 1 := by omega
    exact chV2_9_1
  · obtain ⟨rfl, rfl⟩ : N = 9 ∧ n = 2 := by omega
    exact chV2_9_2
  · obtain ⟨rfl, rfl⟩ : N = 9 ∧ n = 4 := by omega
    exact chV2_9_4
  · obtain ⟨rfl, rfl⟩ : N = 9 ∧ n = 5 := by omega
    exact chV2_9_5
  · obtain ⟨rfl, rfl⟩ : N = 9 ∧ n = 7 := by omega
    exact chV2_9_7
  · obtain ⟨rfl, rfl⟩ : N = 10 ∧ n = 1 := by omega
    exact chV2_10_1
  · obtain ⟨rfl, rfl⟩ : N = 10 ∧ n = 3 := by omega
    exact chV2_10_3
  · obtain ⟨rfl, rfl⟩ : N = 10 ∧ n = 7 := by omega
    exact chV2_10_7
  · obtain ⟨rfl, rfl⟩ : N = 11 ∧ n = 1 := by omega
    exact chV2_11_1
  · obtain ⟨rfl, rfl⟩ : N = 11 ∧ n = 2 := by omega
    exact chV2_11_2
  · obtain ⟨rfl, rfl⟩ : N = 11 ∧ n = 3 := by omega
    exact chV2_11_3
  · obtain ⟨rfl, rfl⟩ : N = 11 ∧ n = 4 := by omega
    exact chV2_11_4
  · obtain ⟨rfl, rfl⟩ : N = 11 ∧ n = 5 := by omega
    exact chV2_11_5
  · obtain ⟨rfl, rfl⟩ : N = 11 ∧ n = 6 := by omega
    exact chV2_11_6
  · obtain ⟨rfl, rfl⟩ : N = 11 ∧ n = 7 := by omega
    exact chV2_11_7
  · obtain ⟨rfl, rfl⟩ : N = 12 ∧ n = 1 := by omega
    exact chV2_12_1
  · obtain ⟨rfl, rfl⟩ : N = 12 ∧ n = 5 := by omega
    exact chV2_12_5
  · obtain ⟨rfl, rfl⟩ : N = 12 ∧ n = 7 := by omega
    exact chV2_12_7
  · obtain ⟨rfl, rfl⟩ : N = 13 ∧ n = 1 := by omega
    exact chV2_13_1
  · obtain ⟨rfl, rfl⟩ : N = 13 ∧ n = 2 := by omega
    exact chV2_13_2
  · obtain ⟨rfl, rfl⟩ : N = 13 ∧ n = 3 := by omega
    exact chV2_13_3
  · obtain ⟨rfl, rfl⟩ : N = 13 ∧ n = 4 := by omega
    exact chV2_13_4
  · obtain ⟨rfl, rfl⟩ : N = 13 ∧ n = 5 := by omega
    exact chV2_13_5
  · obtain ⟨rfl, rfl⟩ : N = 13 ∧ n = 6 := by omega
    exact chV2_13_6
  · obtain ⟨rfl, rfl⟩ : N = 13 ∧ n = 7 := by omega
    exact chV2_13_7
  · obtain ⟨rfl, rfl⟩ : N = 14 ∧ n = 1 := by omega
    exact chV2_14_1
  · obtain ⟨rfl, rfl⟩ : N = 14 ∧ n = 3 := by omega
    exact chV2_14_3
  · obtain ⟨rfl, rfl⟩ : N = 14 ∧ n = 5 := by omega
    exact chV2_14_5
  · obtain ⟨rfl, rfl⟩ : N = 15 ∧ n = 1 := by omega
    exact chV2_15_1
  · obtain ⟨rfl, rfl⟩ : N = 15 ∧ n = 2 := by omega
    exact chV2_15_2
  · obtain ⟨rfl, rfl⟩ : N = 15 ∧ n = 4 := by omega
    exact chV2_15_4
  · obtain ⟨rfl, rfl⟩ : N = 15 ∧ n = 7 := by omega
    exact chV2_15_7
  · obtain ⟨rfl, rfl⟩ : N = 16 ∧ n = 1 := by omega
    exact chV2_16_1
  · obtain ⟨rfl, rfl⟩ : N = 16 ∧ n = 3 := by omega
    exact chV2_16_3
  · obtain ⟨rfl, rfl⟩ : N = 16 ∧ n = 5 := by omega
    exact chV2_16_5
  · obtain ⟨rfl, rfl⟩ : N = 16 ∧ n = 7 := by omega
    exact chV2_16_7
  · obtain ⟨rfl, rfl⟩ : N = 17 ∧ n = 1 := by omega
    exact chV2_17_1
  · obtain ⟨rfl, rfl⟩ : N = 17 ∧ n = 2 := by omega
    exact chV2_17_2
  · obtain ⟨rfl, rfl⟩ : N = 17 ∧ n = 3 := by omega
    exact chV2_17_3
  · obtain ⟨rfl, rfl⟩ : N = 17 ∧ n = 4 := by omega
    exact chV2_17_4
  · obtain ⟨rfl, rfl⟩ : N = 17 ∧ n = 5 := by omega
    exact chV2_17_5
  · obtain ⟨rfl, rfl⟩ : N = 17 ∧ n = 6 := by omega
    exact chV2_17_6
  · obtain ⟨rfl, rfl⟩ : N = 17 ∧ n = 7 := by omega
    exact chV2_17_7
  · obtain ⟨rfl, rfl⟩ : N = 18 ∧ n = 1 := by omega
    exact chV2_18_1
  · obtain ⟨rfl, rfl⟩ : N = 18 ∧ n = 5 := by omega
    exact chV2_18_5
  · obtain ⟨rfl, rfl⟩ : N = 18 ∧ n = 7 := by omega
    exact chV2_18_7
  · obtain ⟨rfl, rfl⟩ : N = 19 ∧ n = 1 := by omega
    exact chV2_19_1
  · obtain ⟨rfl, rfl⟩ : N = 19 ∧ n = 2 := by omega
    exact chV2_19_2
  · obtain ⟨rfl, rfl⟩ : N = 19 ∧ n = 3 := by omega
    exact chV2_19_3
  · obtain ⟨rfl, rfl⟩ : N = 19 ∧ n = 4 := by omega
    exact chV2_19_4
  · obtain ⟨rfl, rfl⟩ : N = 19 ∧ n = 5 := by omega
    exact chV2_19_5
  · obtain ⟨rfl, rfl⟩ : N = 19 ∧ n = 6 := by omega
    exact chV2_19_6
  · obtain ⟨rfl, rfl⟩ : N = 19 ∧ n = 7 := by omega
    exact chV2_19_7
  · obtain ⟨rfl, rfl⟩ : N = 20 ∧ n = 1 := by omega
    exact chV2_20_1
  · obtain ⟨rfl, rfl⟩ : N = 20 ∧ n = 3 := by omega
    exact chV2_20_3
  · obtain ⟨rfl, rfl⟩ : N = 20 ∧ n = 7 := by omega
    exact chV2_20_7
  · obtain ⟨rfl, rfl⟩ : N = 21 ∧ n = 1 := by omega
    exact chV2_21_1
  · obtain ⟨rfl, rfl⟩ : N = 21 ∧ n = 2 := by omega
    exact chV2_21_2
  · obtain ⟨rfl, rfl⟩ : N = 21 ∧ n = 4 := by omega
    exact chV2_21_4
  · obtain ⟨rfl, rfl⟩ : N = 21 ∧ n = 5 := by omega
    exact chV2_21_5
  · obtain ⟨rfl, rfl⟩ : N = 22 ∧ n = 1 := by omega
    exact chV2_22_1
  · obtain ⟨rfl, rfl⟩ : N = 22 ∧ n = 3 := by omega
    exact chV2_22_3
  · obtain ⟨rfl, rfl⟩ : N = 22 ∧ n = 5 := by omega
    exact chV2_22_5
  · obtain ⟨rfl, rfl⟩ : N = 22 ∧ n = 7 := by omega
    exact chV2_22_7
  · obtain ⟨rfl, rfl⟩ : N = 23 ∧ n = 1 := by omega
    exact chV2_23_1
  · obtain ⟨rfl, rfl⟩ : N = 23 ∧ n = 2 := by omega
    exact chV2_23_2
  · obtain ⟨rfl, rfl⟩ : N = 23 ∧ n = 3 := by omega
    exact chV2_23_3
  · obtain ⟨rfl, rfl⟩ : N = 23 ∧ n = 4 := by omega
    exact chV2_23_4
  · obtain ⟨rfl, rfl⟩ : N = 23 ∧ n = 5 := by omega
    exact chV2_23_5
  · obtain ⟨rfl, rfl⟩ : N = 23 ∧ n = 6 := by omega
    exact chV2_23_6
  · obtain ⟨rfl, rfl⟩ : N = 23 ∧ n = 7 := by omega
    exact chV2_23_7
  · obtain ⟨rfl, rfl⟩ : N = 24 ∧ n = 1 := by omega
    exact chV2_24_1
  · obtain ⟨rfl, rfl⟩ : N = 24 ∧ n = 5 := by omega
    exact chV2_24_5
  · obtain ⟨rfl, rfl⟩ : N = 24 ∧ n = 7 := by omega
    exact chV2_24_7
  · obtain ⟨rfl, rfl⟩ : N = 25 ∧ n = 1 := by omega
    exact chV2_25_1
  · obtain ⟨rfl, rfl⟩ : N = 25 ∧ n = 2 := by omega
    exact chV2_25_2
  · obtain ⟨rfl, rfl⟩ : N = 25 ∧ n = 3 := by omega
    exact chV2_25_3
  · obtain ⟨rfl, rfl⟩ : N = 25 ∧ n = 4 := by omega
    exact chV2_25_4
  · obtain ⟨rfl, rfl⟩ : N = 25 ∧ n = 6 := by omega
    exact chV2_25_6
  · obtain ⟨rfl, rfl⟩ : N = 25 ∧ n = 7 := by omega
    exact chV2_25_7
theorem dsW_run2 {N n : Nat} (h : cop N n) : runW (fX4_diagonalSum 0) (mtW N n) (okS2 (mtW N n) (ttW N n)) = true := by
  have h7 := h.2.2.2.1
  rcases opl h with e | e | e | e | e | e | e | e | e | e | e | e | e | e | e | e | e | e | e | e | e | e | e | e | e | e | e | e | e | e | e | e | e | e | e | e | e | e | e | e | e | e | e | e | e | e | e | e | e | e | e | e | e | e | e | e | e | e | e | e | e | e | e | e | e | e | e | e | e | e | e | e | e | e | e | e | e | e | e | e | e | e | e | e | e | e | e | e | e | e | e | e | e | e | e | e | e | e | e | e | e | e | e | e | e | e | e | e | e | e | e | e | e | e | e | e | e | e | e
  · obtain ⟨rfl, rfl⟩ : N = 1 ∧ n = 1 := by omega
    exact dsW2_1_1
  · obtain ⟨rfl, rfl⟩ : N = 1 ∧ n = 2 := by omega
    exact dsW2_1_2
  · obtain ⟨rfl, rfl⟩ : N = 1 ∧ n = 3 := by omega
    exact dsW2_1_3
  · obtain ⟨rfl, rfl⟩ : N = 1 ∧ n = 4 := by omega
    exact dsW2_1_4
  · obtain ⟨rfl, rfl⟩ : N = 1 ∧ n = 5 := by omega
    exact dsW2_1_5
  · obtain ⟨rfl, rfl⟩ : N = 1 ∧ n = 6 := by omega
    exact dsW2_1_6
  · obtain ⟨rfl, rfl⟩ : N = 1 ∧ n = 7 := by omega
    exact dsW2_1_7
  · obtain ⟨rfl, rfl⟩ : N = 2 ∧ n = 1 := by omega
    exact dsW2_2_1
  · obtain ⟨rfl, rfl⟩ : N = 2 ∧ n = 3 := by omega
    exact dsW2_2_3
  · obtain ⟨rfl, rfl⟩ : N = 2 ∧ n = 5 := by omega
    exact dsW2_2_5
  · obtain ⟨rfl, rfl⟩ : N = 2 ∧ n = 7 := by omega
    exact dsW2_2_7
  · obtain ⟨rfl, rfl⟩ : N = 3 ∧ n = 1 := by omega
    exact dsW2_3_1
  · obtain ⟨rfl, rfl⟩ : N = 3 ∧ n = 2 := by omega
    exact dsW2_3_2
  · obtain ⟨rfl, rfl⟩ : N = 3 ∧ n = 4 := by omega
    exact dsW2_3_4
  · obtain ⟨rfl, rfl⟩ : N = 3 ∧ n = 5 := by omega
    exact dsW2_3_5
  · obtain ⟨rfl, rfl⟩ : N = 3 ∧ n = 7 := by omega
    exact dsW2_3_7
  · obtain ⟨rfl, rfl⟩ : N = 4 ∧ n = 1 := by omega
    exact dsW2_4_1
  · obtain ⟨rfl, rfl⟩ : N = 4 ∧ n = 3 := by omega
    exact dsW2_4_3
  · obtain ⟨rfl, rfl⟩ : N = 4 ∧ n = 5 := by omega
    exact dsW2_4_5
  · obtain ⟨rfl, rfl⟩ : N = 4 ∧ n = 7 := by omega
    exact dsW2_4_7
  · obtain ⟨rfl, rfl⟩ : N = 5 ∧ n = 1 := by omega
    exact dsW2_5_1
  · obtain ⟨rfl, rfl⟩ : N = 5 ∧ n = 2 := by omega
    exact dsW2_5_2
  · obtain ⟨rfl, rfl⟩ : N = 5 ∧ n = 3 := by omega
    exact dsW2_5_3
  · obtain ⟨rfl, rfl⟩ : N = 5 ∧ n = 4 := by omega
    exact dsW2_5_4
  · obtain ⟨rfl, rfl⟩ : N = 5 ∧ n = 6 := by omega
    exact dsW2_5_6
  · obtain ⟨rfl, rfl⟩ : N = 5 ∧ n = 7 := by omega
    exact dsW2_5_7
  · obtain ⟨rfl, rfl⟩ : N = 6 ∧ n = 1 := by omega
    exact dsW2_6_1
  · obtain ⟨rfl, rfl⟩ : N = 6 ∧ n = 5 := by omega
    exact dsW2_6_5
  · obtain ⟨rfl, rfl⟩ : N = 6 ∧ n = 7 := by omega
    exact dsW2_6_7
  · obtain ⟨rfl, rfl⟩ : N = 7 ∧ n = 1 := by omega
    exact dsW2_7_1
  · obtain ⟨rfl, rfl⟩ : N = 7 ∧ n = 2 := by omega
    exact dsW2_7_2
  · obtain ⟨rfl, rfl⟩ : N = 7 ∧ n = 3 := by omega
    exact dsW2_7_3
  · obtain ⟨rfl, rfl⟩ : N = 7 ∧ n = 4 := by omega
    exact dsW2_7_4
  · obtain ⟨rfl, rfl⟩ : N = 7 ∧ n = 5 := by omega
    exact dsW2_7_5
  · obtain ⟨rfl, rfl⟩ : N = 7 ∧ n = 6 := by omega
    exact dsW2_7_6
  · obtain ⟨rfl, rfl⟩ : N = 8 ∧ n = 1 := by omega
    exact dsW2_8_1
  · obtain ⟨rfl, rfl⟩ : N = 8 ∧ n = 3 := by omega
    exact dsW2_8_3
  · obtain ⟨rfl, rfl⟩ : N = 8 ∧ n = 5 := by omega
    exact dsW2_8_5
  · obtain ⟨rfl, rfl⟩ : N = 8 ∧ n = 7 := by omega
    exact dsW2_8_7
  · obtain ⟨rfl, rfl⟩ : N = 9 ∧ n = 1 := by omega
    exact dsW2_9_1
  · obtain ⟨rfl, rfl⟩ : N = 9 ∧ n = 2 := by omega
    exact dsW2_9_2
  · obtain ⟨rfl, rfl⟩ : N = 9 ∧ n = 4 := by omega
    exact dsW2_9_4
  · obtain ⟨rfl, rfl⟩ : N = 9 ∧ n = 5 := by omega
    exact dsW2_9_5
  · obtain ⟨rfl, rfl⟩ : N = 9 ∧ n = 7 := by omega
    exact dsW2_9_7
  · obtain ⟨rfl, rfl⟩ : N = 10 ∧ n = 1 := by omega
    exact dsW2_10_1
  · obtain ⟨rfl, rfl⟩ : N = 10 ∧ n = 3 := by omega
    exact dsW2_10_3
  · obtain ⟨rfl, rfl⟩ : N = 10 ∧ n = 7 := by omega
    exact dsW2_10_7
  · obtain ⟨rfl, rfl⟩ : N = 11 ∧ n = 1 := by omega
    exact dsW2_11_1
  · obtain ⟨rfl, rfl⟩ : N = 11 ∧ n = 2 := by omega
    exact dsW2_11_2
  · obtain ⟨rfl, rfl⟩ : N = 11 ∧ n = 3 := by omega
    exact dsW2_11_3
  · obtain ⟨rfl, rfl⟩ : N = 11 ∧ n = 4 := by omega
    exact dsW2_11_4
  · obtain ⟨rfl, rfl⟩ : N = 11 ∧ n = 5 := by omega
    exact dsW2_11_5
  · obtain ⟨rfl, rfl⟩ : N = 11 ∧ n = 6 := by omega
    exact dsW2_11_6
  · obtain ⟨rfl, rfl⟩ : N = 11 ∧ n = 7 := by omega
    exact dsW2_11_7
  · obtain ⟨rfl, rfl⟩ : N = 12 ∧ n = 1 := by omega
    exact dsW2_12_1
  · obtain ⟨rfl, rfl⟩ : N = 12 ∧ n = 5 := by omega
    exact dsW2_12_5
  · obtain ⟨rfl, rfl⟩ : N = 12 ∧ n = 7 := by omega
    exact dsW2_12_7
  · obtain ⟨rfl, rfl⟩ : N = 13 ∧ n = 1 := by omega
    exact dsW2_13_1
  · obtain ⟨rfl, rfl⟩ : N = 13 ∧ n = 2 := by omega
    exact dsW2_13_2
  · obtain ⟨rfl, rfl⟩ : N = 13 ∧ n = 3 := by omega
    exact dsW2_13_3
  · obtain ⟨rfl, rfl⟩ : N = 13 ∧ n = 4 := by omega
    exact dsW2_13_4
  · obtain ⟨rfl, rfl⟩ : N = 13 ∧ n = 5 := by omega
    exact dsW2_13_5
  · obtain ⟨rfl, rfl⟩ : N = 13 ∧ n = 6 := by omega
    exact dsW2_13_6
  · obtain ⟨rfl, rfl⟩ : N = 13 ∧ n = 7 := by omega
    exact dsW2_13_7
  · obtain ⟨rfl, rfl⟩ : N = 14 ∧ n = 1 := by omega
    exact dsW2_14_1
  · obtain ⟨rfl, rfl⟩ : N = 14 ∧ n = 3 := by omega
    exact dsW2_14_3
  · obtain ⟨rfl, rfl⟩ : N = 14 ∧ n = 5 := by omega
    exact dsW2_14_5
  · obtain ⟨rfl, rfl⟩ : N = 15 ∧ n = 1 := by omega
    exact dsW2_15_1
  · obtain ⟨rfl, rfl⟩ : N = 15 ∧ n = 2 := by omega
    exact dsW2_15_2
  · obtain ⟨rfl, rfl⟩ : N = 15 ∧ n = 4 := by omega
    exact dsW2_15_4
  · obtain ⟨rfl, rfl⟩ : N = 15 ∧ n = 7 := by omega
    exact dsW2_15_7
  · obtain ⟨rfl, rfl⟩ : N = 16 ∧ n = 1 := by omega
    exact dsW2_16_1
  · obtain ⟨rfl, rfl⟩ : N = 16 ∧ n = 3 := by omega
    exact dsW2_16_3
  · obtain ⟨rfl, rfl⟩ : N = 16 ∧ n = 5 := by omega
    exact dsW2_16_5
  · obtain ⟨rfl, rfl⟩ : N = 16 ∧ n = 7 := by omega
    exact dsW2_16_7
  · obtain ⟨rfl, rfl⟩ : N = 17 ∧ n = 1 := by omega
    exact dsW2_17_1
  · obtain ⟨rfl, rfl⟩ : N = 17 ∧ n = 2 := by omega
    exact dsW2_17_2
  · obtain ⟨rfl, rfl⟩ : N = 17 ∧ n = 3 := by omega
    exact dsW2_17_3
  · obtain ⟨rfl, rfl⟩ : N = 17 ∧ n = 4 := by omega
    exact dsW2_17_4
  · obtain ⟨rfl, rfl⟩ : N = 17 ∧ n = 5 := by omega
    exact dsW2_17_5
  · obtain ⟨rfl, rfl⟩ : N = 17 ∧ n = 6 := by omega
    exact dsW2_17_6
  · obtain ⟨rfl, rfl⟩ : N = 17 ∧ n = 7 := by omega
    exact dsW2_17_7
  · obtain ⟨rfl, rfl⟩ : N = 18 ∧ n = 1 := by omega
    exact dsW2_18_1
  · obtain ⟨rfl, rfl⟩ : N = 18 ∧ n = 5 := by omega
    exact dsW2_18_5
  · obtain ⟨rfl, rfl⟩ : N = 18 ∧ n = 7 := by omega
    exact dsW2_18_7
  · obtain ⟨rfl, rfl⟩ : N = 19 ∧ n = 1 := by omega
    exact dsW2_19_1
  · obtain ⟨rfl, rfl⟩ : N = 19 ∧ n = 2 := by omega
    exact dsW2_19_2
  · obtain ⟨rfl, rfl⟩ : N = 19 ∧ n = 3 := by omega
    exact dsW2_19_3
  · obtain ⟨rfl, rfl⟩ : N = 19 ∧ n = 4 := by omega
    exact dsW2_19_4
  · obtain ⟨rfl, rfl⟩ : N = 19 ∧ n = 5 := by omega
    exact dsW2_19_5
  · obtain ⟨rfl, rfl⟩ : N = 19 ∧ n = 6 := by omega
    exact dsW2_19_6
  · obtain ⟨rfl, rfl⟩ : N = 19 ∧ n = 7 := by omega
    exact dsW2_19_7
  · obtain ⟨rfl, rfl⟩ : N = 20 ∧ n = 1 := by omega
    exact dsW2_20_1
  · obtain ⟨rfl, rfl⟩ : N = 20 ∧ n = 3 := by omega
    exact dsW2_20_3
  · obtain ⟨rfl, rfl⟩ : N = 20 ∧ n = 7 := by omega
    exact dsW2_20_7
  · obtain ⟨rfl, rfl⟩ : N = 21 ∧ n = 1 := by omega
    exact dsW2_21_1
  · obtain ⟨rfl, rfl⟩ : N = 21 ∧ n = 2 := by omega
    exact dsW2_21_2
  · obtain ⟨rfl, rfl⟩ : N = 21 ∧ n = 4 := by omega
    exact dsW2_21_4
  · obtain ⟨rfl, rfl⟩ : N = 21 ∧ n = 5 := by omega
    exact dsW2_21_5
  · obtain ⟨rfl, rfl⟩ : N = 22 ∧ n = 1 := by omega
    exact dsW2_22_1
  · obtain ⟨rfl, rfl⟩ : N = 22 ∧ n = 3 := by omega
    exact dsW2_22_3
  · obtain ⟨rfl, rfl⟩ : N = 22 ∧ n = 5 := by omega
    exact dsW2_22_5
  · obtain ⟨rfl, rfl⟩ : N = 22 ∧ n = 7 := by omega
    exact dsW2_22_7
  · obtain ⟨rfl, rfl⟩ : N = 23 ∧ n = 1 := by omega
    exact dsW2_23_1
  · obtain ⟨rfl, rfl⟩ : N = 23 ∧ n = 2 := by omega
    exact dsW2_23_2
  · obtain ⟨rfl, rfl⟩ : N = 23 ∧ n = 3 := by omega
    exact dsW2_23_3
  · obtain ⟨rfl, rfl⟩ : N = 23 ∧ n = 4 := by omega
    exact dsW2_23_4
  · obtain ⟨rfl, rfl⟩ : N = 23 ∧ n = 5 := by omega
    exact dsW2_23_5
  · obtain ⟨rfl, rfl⟩ : N = 23 ∧ n = 6 := by omega
    exact dsW2_23_6
  · obtain ⟨rfl, rfl⟩ : N = 23 ∧ n = 7 := by omega
    exact dsW2_23_7
  · obtain ⟨rfl, rfl⟩ : N = 24 ∧ n = 1 := by omega
    exact dsW2_24_1
  · obtain ⟨rfl, rfl⟩ : N = 24 ∧ n = 5 := by omega
    exact dsW2_24_5
  · obtain ⟨rfl, rfl⟩ : N = 24 ∧ n = 7 := by omega
    exact dsW2_24_7
  · obtain ⟨rfl, rfl⟩ : N = 25 ∧ n = 1 := by omega
    exact dsW2_25_1
  · obtain ⟨rfl, rfl⟩ : N = 25 ∧ n = 2 := by omega
    exact dsW2_25_2
  · obtain ⟨rfl, rfl⟩ : N = 25 ∧ n = 3 := by omega
    exact dsW2_25_3
  · obtain ⟨rfl, rfl⟩ : N = 25 ∧ n = 4 := by omega
    exact dsW2_25_4
  · obtain ⟨rfl, rfl⟩ : N = 25 ∧ n = 6 := by omega
    exact dsW2_25_6
  · obtain ⟨rfl, rfl⟩ : N = 25 ∧ n = 7 := by omega
    exact dsW2_25_7
theorem dsV_run2 {N n : Nat} (h : cop N n) : runW (fX4_diagonalSum 0) (mtV N n) (okS2 (mtV N n) (ttV N n)) = true := by
  have h7 := h.2.2.2.1
  rcases opl h with e | e | e | e | e | e | e | e | e | e | e | e | e | e | e | e | e | e | e | e | e | e | e | e | e | e | e | e | e | e | e | e | e | e | e | e | e | e | e | e | e | e | e | e | e | e | e | e | e | e | e | e | e | e | e | e | e | e | e | e | e | e | e | e | e | e | e | e | e | e | e | e | e | e | e | e | e | e | e | e | e | e | e | e | e | e | e | e | e | e | e | e | e | e | e | e | e | e | e | e | e | e | e | e | e | e | e | e | e | e | e | e | e | e | e | e | e | e | e
  · obtain ⟨rfl, rfl⟩ : N = 1 ∧ n = 1 := by omega
    exact dsV2_1_1
  · obtain ⟨rfl, rfl⟩ : N = 1 ∧ n = 2 := by omega
    exact dsV2_1_2
  · obtain ⟨rfl, rfl⟩ : N = 1 ∧ n = 3 := by omega
    exact dsV2_1_3
  · obtain ⟨rfl, rfl⟩ : N = 1 ∧ n = 4 := by omega
    exact dsV2_1_4
  · obtain ⟨rfl, rfl⟩ : N = 1 ∧ n = 5 := by omega
    exact dsV2_1_5
  · obtain ⟨rfl, rfl⟩ : N = 1 ∧ n = 6 := by omega
    exact dsV2_1_6
  · obtain ⟨rfl, rfl⟩ : N = 1 ∧ n = 7 := by omega
    exact dsV2_1_7
  · obtain ⟨rfl, rfl⟩ : N = 2 ∧ n = 1 := by omega
    exact dsV2_2_1
  · obtain ⟨rfl, rfl⟩ : N = 2 ∧ n = 3 := by omega
    exact dsV2_2_3
  · obtain ⟨rfl, rfl⟩ : N = 2 ∧ n = 5 := by omega
    exact dsV2_2_5
  · obtain ⟨rfl, rfl⟩ : N = 2 ∧ n = 7 := by omega
    exact dsV2_2_7
  · obtain ⟨rfl, rfl⟩ : N = 3 ∧ n = 1 := by omega
    exact dsV2_3_1
  · obtain ⟨rfl, rfl⟩ : N = 3 ∧ n = 2 := by omega
    exact dsV2_3_2
  · obtain ⟨rfl, rfl⟩ : N = 3 ∧ n = 4 := by omega
    exact dsV2_3_4
  · obtain ⟨rfl, rfl⟩ : N = 3 ∧ n = 5 := by omega
    exact dsV2_3_5
  · obtain ⟨rfl, rfl⟩ : N = 3 ∧ n = 7 := by omega
    exact dsV2_3_7
  · obtain ⟨rfl, rfl⟩ : N = 4 ∧ n = 1 := by omega
    exact dsV2_4_1
  · obtain ⟨rfl, rfl⟩ : N = 4 ∧ n = 3 := by omega
    exact dsV2_4_3
  · obtain ⟨rfl, rfl⟩ : N = 4 ∧ n = 5 := by omega
    exact dsV2_4_5
  · obtain ⟨rfl, rfl⟩ : N = 4 ∧ n = 7 := by omega
    exact dsV2_4_7
  · obtain ⟨rfl, rfl⟩ : N = 5 ∧ n = 1 := by omega
    exact dsV2_5_1
  · obtain ⟨rfl, rfl⟩ : N = 5 ∧ n = 2 := by omega
    exact dsV2_5_2
  · obtain ⟨rfl, rfl⟩ : N = 5 ∧ n = 3 := by omega
    exact dsV2_5_3
  · obtain ⟨rfl, rfl⟩ : N = 5 ∧ n = 4 := by omega
    exact dsV2_5_4
  · obtain ⟨rfl, rfl⟩ : N = 5 ∧ n = 6 := by omega
    exact dsV2_5_6
  · obtain ⟨rfl, rfl⟩ : N = 5 ∧ n = 7 := by omega
    exact dsV2_5_7
  · obtain ⟨rfl, rfl⟩ : N = 6 ∧ n = 1 := by omega
    exact dsV2_6_1
  · obtain ⟨rfl, rfl⟩ : N = 6 ∧ n = 5 := by omega
    exact dsV2_6_5
  · obtain ⟨rfl, rfl⟩ : N = 6 ∧ n = 7 := by omega
    exact dsV2_6_7
  · obtain ⟨rfl, rfl⟩ : N = 7 ∧ n = 1 := by omega
    exact dsV2_7_1
  · obtain ⟨rfl, rfl⟩ : N = 7 ∧ n = 2 := by omega
    exact dsV2_7_2
  · obtain ⟨rfl, rfl⟩ : N = 7 ∧ n = 3 := by omega
    exact dsV2_7_3
  · obtain ⟨rfl, rfl⟩ : N = 7 ∧ n = 4 := by omega
    exact dsV2_7_4
  · obtain ⟨rfl, rfl⟩ : N = 7 ∧ n = 5 := by omega
    exact dsV2_7_5
  · obtain ⟨rfl, rfl⟩ : N = 7 ∧ n = 6 := by omega
    exact dsV2_7_6
  · obtain ⟨rfl, rfl⟩ : N = 8 ∧ n = 1 := by omega
    exact dsV2_8_1
  · obtain ⟨rfl, rfl⟩ : N = 8 ∧ n = 3 := by omega
    exact dsV2_8_3
  · obtain ⟨rfl, rfl⟩ : N = 8 ∧ n = 5 := by omega
    exact dsV2_8_5
  · obtain ⟨rfl, rfl⟩ : N = 8 ∧ n = 7 := by omega
    exact dsV2_8_7
  · obtain ⟨rfl, rfl⟩ : N = 9 ∧ n = 1 := by omega
    exact dsV2_9_1
  · obtain ⟨rfl, rfl⟩ : N = 9 ∧ n = 2 := by omega
    exact dsV2_9_2
  · obtain ⟨rfl, rfl⟩ : N = 9 ∧ n = 4 := by omega
    exact dsV2_9_4
  · obtain ⟨rfl, rfl⟩ : N = 9 ∧ n = 5 := by omega
    exact dsV2_9_5
  · obtain ⟨rfl, rfl⟩ : N = 9 ∧ n = 7 := by omega
    exact dsV2_9_7
  · obtain ⟨rfl, rfl⟩ : N = 10 ∧ n = 1 := by omega
    exact dsV2_10_1
  · obtain ⟨rfl, rfl⟩ : N = 10 ∧ n = 3 := by omega
    exact dsV2_10_3
  · obtain ⟨rfl, rfl⟩ : N = 10 ∧ n = 7 := by omega
    exact dsV2_10_7
  · obtain ⟨rfl, rfl⟩ : N = 11 ∧ n = 1 := by omega
    exact dsV2_11_1
  · obtain ⟨rfl, rfl⟩ : N = 11 ∧ n = 2 := by omega
    exact dsV2_11_2
  · obtain ⟨rfl, rfl⟩ : N = 11 ∧ n = 3 := by omega
    exact dsV2_11_3
  · obtain ⟨rfl, rfl⟩ : N = 11 ∧ n = 4 := by omega
    exact dsV2_11_4
  · obtain ⟨rfl, rfl⟩ : N = 11 ∧ n = 5 := by omega
    exact dsV2_11_5
  · obtain ⟨rfl, rfl⟩ : N = 11 ∧ n = 6 := by omega
    exact dsV2_11_6
  · obtain ⟨rfl, rfl⟩ : N = 11 ∧ n = 7 := by omega
    exact dsV2_11_7
  · obtain ⟨rfl, rfl⟩ : N = 12 ∧ n = 1 := by omega
    exact dsV2_12_1
  · obtain ⟨rfl, rfl⟩ : N = 12 ∧ n = 5 := by omega
    exact dsV2_12_5
  · obtain ⟨rfl, rfl⟩ : N = 12 ∧ n = 7 := by omega
    exact dsV2_12_7
  · obtain ⟨rfl, rfl⟩ : N = 13 ∧ n = 1 := by omega
    exact dsV2_13_1
  · obtain ⟨rfl, rfl⟩ : N = 13 ∧ n = 2 := by omega
    exact dsV2_13_2
  · obtain ⟨rfl, rfl⟩ : N = 13 ∧ n = 3 := by omega
    exact dsV2_13_3
  · obtain ⟨rfl, rfl⟩ : N = 13 ∧ n = 4 := by omega
    exact dsV2_13_4
  · obtain ⟨rfl, rfl⟩ : N = 13 ∧ n = 5 := by omega
    exact dsV2_13_5
  · obtain ⟨rfl, rfl⟩ : N = 13 ∧ n = 6 := by omega
    exact dsV2_13_6
  · obtain ⟨rfl, rfl⟩ : N = 13 ∧ n = 7 := by omega
    exact dsV2_13_7
  · obtain ⟨rfl, rfl⟩ : N = 14 ∧ n = 1 := by omega
    exact dsV2_14_1
  · obtain ⟨rfl, rfl⟩ : N = 14 ∧ n = 3 := by omega
    exact dsV2_14_3
  · obtain ⟨rfl, rfl⟩ : N = 14 ∧ n = 5 := by omega
    exact dsV2_14_5
  · obtain ⟨rfl, rfl⟩ : N = 15 ∧ n = 1 := by omega
    exact dsV2_15_1
  · obtain ⟨rfl, rfl⟩ : N = 15 ∧ n = 2 := by omega
    exact dsV2_15_2
  · obtain ⟨rfl, rfl⟩ : N = 15 ∧ n = 4 := by omega
    exact dsV2_15_4
  · obtain ⟨rfl, rfl⟩ : N = 15 ∧ n = 7 := by omega
    exact dsV2_15_7
  · obtain ⟨rfl, rfl⟩ : N = 16 ∧ n = 1 := by omega
    exact dsV2_16_1
  · obtain ⟨rfl, rfl⟩ : N = 16 ∧ n = 3 := by omega
    exact dsV2_16_3
  · obtain ⟨rfl, rfl⟩ : N = 16 ∧ n = 5 := by omega
    exact dsV2_16_5
  · obtain ⟨rfl, rfl⟩ : N = 16 ∧ n = 7 := by omega
    exact dsV2_16_7
  · obtain ⟨rfl, rfl⟩ : N = 17 ∧ n = 1 := by omega
    exact dsV2_17_1
  · obtain ⟨rfl, rfl⟩ : N = 17 ∧ n = 2 := by omega
    exact dsV2_17_2
  · obtain ⟨rfl, rfl⟩ : N = 17 ∧ n = 3 := by omega
    exact dsV2_17_3
  · obtain ⟨rfl, rfl⟩ : N = 17 ∧ n = 4 := by omega
    exact dsV2_17_4
  · obtain ⟨rfl, rfl⟩ : N = 17 ∧ n = 5 := by omega
    exact dsV2_17_5
  · obtain ⟨rfl, rfl⟩ : N = 17 ∧ n = 6 := by omega
    exact dsV2_17_6
  · obtain ⟨rfl, rfl⟩ : N = 17 ∧ n = 7 := by omega
    exact dsV2_17_7
  · obtain ⟨rfl, rfl⟩ : N = 18 ∧ n = 1 := by omega
    exact dsV2_18_1
  · obtain ⟨rfl, rfl⟩ : N = 18 ∧ n = 5 := by omega
    exact dsV2_18_5
  · obtain ⟨rfl, rfl⟩ : N = 18 ∧ n = 7 := by omega
    exact dsV2_18_7
  · obtain ⟨rfl, rfl⟩ : N = 19 ∧ n = 1 := by omega
    exact dsV2_19_1
  · obtain ⟨rfl, rfl⟩ : N = 19 ∧ n = 2 := by omega
    exact dsV2_19_2
  · obtain ⟨rfl, rfl⟩ : N = 19 ∧ n = 3 := by omega
    exact dsV2_19_3
  · obtain ⟨rfl, rfl⟩ : N = 19 ∧ n = 4 := by omega
    exact dsV2_19_4
  · obtain ⟨rfl, rfl⟩ : N = 19 ∧ n = 5 := by omega
    exact dsV2_19_5
  · obtain ⟨rfl, rfl⟩ : N = 19 ∧ n = 6 := by omega
    exact dsV2_19_6
  · obtain ⟨rfl, rfl⟩ : N = 19 ∧ n = 7 := by omega
    exact dsV2_19_7
  · obtain ⟨rfl, rfl⟩ : N = 20 ∧ n = 1 := by omega
    exact dsV2_20_1
  · obtain ⟨rfl, rfl⟩ : N = 20 ∧ n = 3 := by omega
    exact dsV2_20_3
  · obtain ⟨rfl, rfl⟩ : N = 20 ∧ n = 7 := by omega
    exact dsV2_20_7
  · obtain ⟨rfl, rfl⟩ : N = 21 ∧ n = 1 := by omega
    exact dsV2_21_1
  · obtain ⟨rfl, rfl⟩ : N = 21 ∧ n = 2 := by omega
    exact dsV2_21_2
  · obtain ⟨rfl, rfl⟩ : N = 21 ∧ n = 4 := by omega
    exact dsV2_21_4
  · obtain ⟨rfl, rfl⟩ : N = 21 ∧ n = 5 := by omega
    exact dsV2_21_5
  · obtain ⟨rfl, rfl⟩ : N = 22 ∧ n = 1 := by omega
    exact dsV2_22_1
  · obtain ⟨rfl, rfl⟩ : N = 22 ∧ n = 3 := by omega
    exact dsV2_22_3
  · obtain ⟨rfl, rfl⟩ : N = 22 ∧ n = 5 := by omega
    exact dsV2_22_5
  · obtain ⟨rfl, rfl⟩ : N = 22 ∧ n = 7 := by omega
    exact dsV2_22_7
  · obtain ⟨rfl, rfl⟩ : N = 23 ∧ n = 1 := by omega
    exact dsV2_23_1
  · obtain ⟨rfl, rfl⟩ : N = 23 ∧ n = 2 := by omega
    exact dsV2_23_2
  · obtain ⟨rfl, rfl⟩ : N = 23 ∧ n = 3 := by omega
    exact dsV2_23_3
  · obtain ⟨rfl, rfl⟩ : N = 23 ∧ n = 4 := by omega
    exact dsV2_23_4
  · obtain ⟨rfl, rfl⟩ : N = 23 ∧ n = 5 := by omega
    exact dsV2_23_5
  · obtain ⟨rfl, rfl⟩ : N = 23 ∧ n = 6 := by omega
    exact dsV2_23_6
  · obtain ⟨rfl, rfl⟩ : N = 23 ∧ n = 7 := by omega
    exact dsV2_23_7
  · obtain ⟨rfl, rfl⟩ : N = 24 ∧ n = 1 := by omega
    exact dsV2_24_1
  · obtain ⟨rfl, rfl⟩ : N = 24 ∧ n = 5 := by omega
    exact dsV2_24_5
  · obtain ⟨rfl, rfl⟩ : N = 24 ∧ n = 7 := by omega
    exact dsV2_24_7
  · obtain ⟨rfl, rfl⟩ : N = 25 ∧ n = 1 := by omega
    exact dsV2_25_1
  · obtain ⟨rfl, rfl⟩ : N = 25 ∧ n = 2 := by omega
    exact dsV2_25_2
  · obtain ⟨rfl, rfl⟩ : N = 25 ∧ n = 3 := by omega
    exact dsV2_25_3
  · obtain ⟨rfl, rfl⟩ : N = 25 ∧ n = 4 := by omega
    exact dsV2_25_4
  · obtain ⟨rfl, rfl⟩ : N = 25 ∧ n = 6 := by omega
    exact dsV2_25_6
  · obtain ⟨rfl, rfl⟩ : N = 25 ∧ n = 7 := by omega
    exact dsV2_25_7
theorem mul_run2 {N n : Nat} (h : cop N n) : allN 17 (fun v => runW (fX4_multiplicity 0 (vI v)) (VR N n) (okG2 N n v)) = true := by
  have h7 := h.2.2.2.1
  rcases opl h with e | e | e | e | e | e | e | e | e | e | e | e | e | e | e | e | e | e | e | e | e | e | e | e | e | e | e | e | e | e | e | e | e | e | e | e | e | e | e | e | e | e | e | e | e | e | e | e | e | e | e | e | e | e | e | e | e | e | e | e | e | e | e | e | e | e | e | e | e | e | e | e | e | e | e | e | e | e | e | e | e | e | e | e | e | e | e | e | e | e | e | e | e | e | e | e | e | e | e | e | e | e | e | e | e | e | e | e | e | e | e | e | e | e | e | e | e | e | e
  · obtain ⟨rfl, rfl⟩ : N = 1 ∧ n = 1 := by omega
    exact mul2_1_1
  · obtain ⟨rfl, rfl⟩ : N = 1 ∧ n = 2 := by omega
    exact mul2_1_2
  · obtain ⟨rfl, rfl⟩ : N = 1 ∧ n = 3 := by omega
    exact mul2_1_3
  · obtain ⟨rfl, rfl⟩ : N = 1 ∧ n = 4 := by omega
    exact mul2_1_4
  · obtain ⟨rfl, rfl⟩ : N = 1 ∧ n = 5 := by omega
    exact mul2_1_5
  · obtain ⟨rfl, rfl⟩ : N = 1 ∧ n = 6 := by omega
    exact mul2_1_6
  · obtain ⟨rfl, rfl⟩ : N = 1 ∧ n = 7 := by omega
    exact mul2_1_7
  · obtain ⟨rfl, rfl⟩ : N = 2 ∧ n = 1 := by omega
    exact mul2_2_1
  · obtain ⟨rfl, rfl⟩ : N = 2 ∧ n = 3 := by omega
    exact mul2_2_3
  · obtain ⟨rfl, rfl⟩ : N = 2 ∧ n = 5 := by omega
    exact mul2_2_5
  · obtain ⟨rfl, rfl⟩ : N = 2 ∧ n = 7 := by omega
    exact mul2_2_7
  · obtain ⟨rfl, rfl⟩ : N = 3 ∧ n = 1 := by omega
    exact mul2_3_1
  · obtain ⟨rfl, rfl⟩ : N = 3 ∧ n = 2 := by omega
    exact mul2_3_2
  · obtain ⟨rfl, rfl⟩ : N = 3 ∧ n = 4 := by omega
    exact mul2_3_4
  · obtain ⟨rfl, rfl⟩ : N = 3 ∧ n = 5 := by omega
    exact mul2_3_5
  · obtain ⟨rfl, rfl⟩ : N = 3 ∧ n = 7 := by omega
    exact mul2_3_7
  · obtain ⟨rfl, rfl⟩ : N = 4 ∧ n = 1 := by omega
    exact mul2_4_1
  · obtain ⟨rfl, rfl⟩ : N = 4 ∧ n = 3 := by omega
    exact mul2_4_3
  · obtain ⟨rfl, rfl⟩ : N = 4 ∧ n = 5 := by omega
    exact mul2_4_5
  · obtain ⟨rfl, rfl⟩ : N = 4 ∧ n = 7 := by omega
    exact mul2_4_7
  · obtain ⟨rfl, rfl⟩ : N = 5 ∧ n = 1 := by omega
    exact mul2_5_1
  · obtain ⟨rfl, rfl⟩ : N = 5 ∧ n = 2 := by omega
    exact mul2_5_2
  · obtain ⟨rfl, rfl⟩ : N = 5 ∧ n = 3 := by omega
    exact mul2_5_3
  · obtain ⟨rfl, rfl⟩ : N = 5 ∧ n = 4 := by omega
    exact mul2_5_4
  · obtain ⟨rfl, rfl⟩ : N = 5 ∧ n = 6 := by omega
    exact mul2_5_6
  · obtain ⟨rfl, rfl⟩ : N = 5 ∧ n = 7 := by omega
    exact mul2_5_7
  · obtain ⟨rfl, rfl⟩ : N = 6 ∧ n = 1 := by omega
    exact mul2_6_1
  · obtain ⟨rfl, rfl⟩ : N = 6 ∧ n = 5 := by omega
    exact mul2_6_5
  · obtain ⟨rfl, rfl⟩ : N = 6 ∧ n = 7 := by omega
    exact mul2_6_7
  · obtain ⟨rfl, rfl⟩ : N = 7 ∧ n = 1 := by omega
    exact mul2_7_1
  · obtain ⟨rfl, rfl⟩ : N = 7 ∧ n = 2 := by omega
    exact mul2_7_2
  · obtain ⟨rfl, rfl⟩ : N = 7 ∧ n = 3 := by omega
    exact mul2_7_3
  · obtain ⟨rfl, rfl⟩ : N = 7 ∧ n = 4 := by omega
    exact mul2_7_4
  · obtain ⟨rfl, rfl⟩ : N = 7 ∧ n = 5 := by omega
    exact mul2_7_5
  · obtain ⟨rfl, rfl⟩ : N = 7 ∧ n = 6 := by omega
    exact mul2_7_6
  · obtain ⟨rfl, rfl⟩ : N = 8 ∧ n = 1 := by omega
    exact mul2_8_1
  · obtain ⟨rfl, rfl⟩ : N = 8 ∧ n = 3 := by omega
    exact mul2_8_3
  · obtain ⟨rfl, rfl⟩ : N = 8 ∧ n = 5 := by omega
    exact mul2_8_5
  · obtain ⟨rfl, rfl⟩ : N = 8 ∧ n = 7 := by omega
    exact mul2_8_7
  · obtain ⟨rfl, rfl⟩ : N = 9 ∧ n = 1 := by omega
    exact mul2_9_1
  · obtain ⟨rfl, rfl⟩ : N = 9 ∧ n = 2 := by omega
    exact mul2_9_2
  · obtain ⟨rfl, rfl⟩ : N = 9 ∧ n = 4 := by omega
    exact mul2_9_4
  · obtain ⟨rfl, rfl⟩ : N = 9 ∧ n = 5 := by omega
    exact mul2_9_5
  · obtain ⟨rfl, rfl⟩ : N = 9 ∧ n = 7 := by omega
    exact mul2_9_7
  · obtain ⟨rfl, rfl⟩ : N = 10 ∧ n = 1 := by omega
    exact mul2_10_1
  · obtain ⟨rfl, rfl⟩ : N = 10 ∧ n = 3 := by omega
    exact mul2_10_3
  · obtain ⟨rfl, rfl⟩ : N = 10 ∧ n = 7 := by omega
    exact mul2_10_7
  · obtain ⟨rfl, rfl⟩ : N = 11 ∧ n = 1 := by omega
    exact mul2_11_1
  · obtain ⟨rfl, rfl⟩ : N = 11 ∧ n = 2 := by omega
    exact mul2_11_2
  · obtain ⟨rfl, rfl⟩ : N = 11 ∧ n = 3 := by omega
    exact mul2_11_3
  · obtain ⟨rfl, rfl⟩ : N = 11 ∧ n = 4 := by omega
    exact mul2_11_4
  · obtain ⟨rfl, rfl⟩ : N = 11 ∧ n = 5 := by omega
    exact mul2_11_5
  · obtain ⟨rfl, rfl⟩ : N = 11 ∧ n = 6 := by omega
    exact mul2_11_6
  · obtain ⟨rfl, rfl⟩ : N = 11 ∧ n = 7 := by omega
    exact mul2_11_7
  · obtain ⟨rfl, rfl⟩ : N = 12 ∧ n = 1 := by omega
    exact mul2_12_1
  · obtain ⟨rfl, rfl⟩ : N = 12 ∧ n = 5 := by omega
    exact mul2_12_5
  · obtain ⟨rfl, rfl⟩ : N = 12 ∧ n = 7 := by omega
    exact mul2_12_7
  · obtain ⟨rfl, rfl⟩ : N = 13 ∧ n = 1 := by omega
    exact mul2_13_1
  · obtain ⟨rfl, rfl⟩ : N = 13 ∧ n = 2 := by omega
    exact mul2_13_2
  · obtain ⟨rfl, rfl⟩ : N = 13 ∧ n = 3 := by omega
    exact mul2_13_3
  · obtain ⟨rfl, rfl⟩ : N = 13 ∧ n = 4 := by omega
    exact mul2_13_4
  · obtain ⟨rfl, rfl⟩ : N = 13 ∧ n = 5 := by omega
    exact mul2_13_5
  · obtain ⟨rfl, rfl⟩ : N = 13 ∧ n = 6 := by omega
    exact mul2_13_6
  · obtain ⟨rfl, rfl⟩ : N = 13 ∧ n = 7 := by omega
    exact mul2_13_7
  · obtain ⟨rfl, rfl⟩ : N = 14 ∧ n = 1 := by omega
    exact mul2_14_1
  · obtain ⟨rfl, rfl⟩ : N = 14 ∧ n = 3 := by omega
    exact mul2_14_3
  · obtain ⟨rfl, rfl⟩ : N = 14 ∧ n = 5 := by omega
    exact mul2_14_5
  · obtain ⟨rfl, rfl⟩ : N = 15 ∧ n = 1 := by omega
    exact mul2_15_1
  · obtain ⟨rfl, rfl⟩ : N = 15 ∧ n = 2 := by omega
    exact mul2_15_2
  · obtain ⟨rfl, rfl⟩ : N = 15 ∧ n = 4 := by omega
    exact mul2_15_4
  · obtain ⟨rfl, rfl⟩ : N = 15 ∧ n = 7 := by omega
    exact mul2_15_7
  · obtain ⟨rfl, rfl⟩ : N = 16 ∧ n = 1 := by omega
    exact mul2_16_1
  · obtain ⟨rfl, rfl⟩ : N = 16 ∧ n = 3 := by omega
    exact mul2_16_3
  · obtain ⟨rfl, rfl⟩ : N = 16 ∧ n = 5 := by omega
    exact mul2_16_5
  · obtain ⟨rfl, rfl⟩ : N = 16 ∧ n = 7 := by omega
    exact mul2_16_7
  · obtain ⟨rfl, rfl⟩ : N = 17 ∧ n = 1 := by omega
    exact mul2_17_1
  · obtain ⟨rfl, rfl⟩ : N = 17 ∧ n = 2 := by omega
    exact mul2_17_2
  · obtain ⟨rfl, rfl⟩ : N = 17 ∧ n = 3 := by omega
    exact mul2_17_3
  · obtain ⟨rfl, rfl⟩ : N = 17 ∧ n = 4 := by omega
    exact mul2_17_4
  · obtain ⟨rfl, rfl⟩ : N = 17 ∧ n = 5 := by omega
    exact mul2_17_5
  · obtain ⟨rfl, rfl⟩ : N = 17 ∧ n = 6 := by omega
    exact mul2_17_6
  · obtain ⟨rfl, rfl⟩ : N = 17 ∧ n = 7 := by omega
    exact mul2_17_7
  · obtain ⟨rfl, rfl⟩ : N = 18 ∧ n = 1 := by omega
    exact mul2_18_1
  · obtain ⟨rfl, rfl⟩ : N = 18 ∧ n = 5 := by omega
    exact mul2_18_5
  · obtain ⟨rfl, rfl⟩ : N = 18 ∧ n = 7 := by omega
    exact mul2_18_7
  · obtain ⟨rfl, rfl⟩ : N = 19 ∧ n = 1 := by omega
    exact mul2_19_1
  · obtain ⟨rfl, rfl⟩ : N = 19 ∧ n = 2 := by omega
    exact mul2_19_2
  · obtain ⟨rfl, rfl⟩ : N = 19 ∧ n = 3 := by omega
    exact mul2_19_3
  · obtain ⟨rfl, rfl⟩ : N = 19 ∧ n = 4 := by omega
    exact mul2_19_4
  · obtain ⟨rfl, rfl⟩ : N = 19 ∧ n = 5 := by omega
    exact mul2_19_5
  · obtain ⟨rfl, rfl⟩ : N = 19 ∧ n = 6 := by omega
    exact mul2_19_6
  · obtain ⟨rfl, rfl⟩ : N = 19 ∧ n = 7 := by omega
    exact mul2_19_7
  · obtain ⟨rfl, rfl⟩ : N = 20 ∧ n = 1 := by omega
    exact mul2_20_1
  · obtain ⟨rfl, rfl⟩ : N = 20 ∧ n = 3 := by omega
    exact mul2_20_3
  · obtain ⟨rfl, rfl⟩ : N = 20 ∧ n = 7 := by omega
    exact mul2_20_7
  · obtain ⟨rfl, rfl⟩ : N = 21 ∧ n = 1 := by omega
    exact mul2_21_1
  · obtain ⟨rfl, rfl⟩ : N = 21 ∧ n = 2 := by omega
    exact mul2_21_2
  · obtain ⟨rfl, rfl⟩ : N = 21 ∧ n = 4 := by omega
    exact mul2_21_4
  · obtain ⟨rfl, rfl⟩ : N = 21 ∧ n = 5 := by omega
    exact mul2_21_5
  · obtain ⟨rfl, rfl⟩ : N = 22 ∧ n = 1 := by omega
    exact mul2_22_1
  · obtain ⟨rfl, rfl⟩ : N = 22 ∧ n = 3 := by omega
    exact mul2_22_3
  · obtain ⟨rfl, rfl⟩ : N = 22 ∧ n = 5 := by omega
    exact mul2_22_5
  · obtain ⟨rfl, rfl⟩ : N = 22 ∧ n = 7 := by omega
    exact mul2_22_7
  · obtain ⟨rfl, rfl⟩ : N = 23 ∧ n = 1 := by omega
    exact mul2_23_1
  · obtain ⟨rfl, rfl⟩ : N = 23 ∧ n = 2 := by omega
    exact mul2_23_2
  · obtain ⟨rfl, rfl⟩ : N = 23 ∧ n = 3 := by omega
    exact mul2_23_3
  · obtain ⟨rfl, rfl⟩ : N = 23 ∧ n = 4 := by omega
    exact mul2_23_4
  · obtain ⟨rfl, rfl⟩ : N = 23 ∧ n = 5 := by omega
    exact mul2_23_5
  · obtain ⟨rfl, rfl⟩ : N = 23 ∧ n = 6 := by omega
    exact mul2_23_6
  · obtain ⟨rfl, rfl⟩ : N = 23 ∧ n = 7 := by omega
    exact mul2_23_7
  · obtain ⟨rfl, rfl⟩ : N = 24 ∧ n = 1 := by omega
    exact mul2_24_1
  · obtain ⟨rfl, rfl⟩ : N = 24 ∧ n = 5 := by omega
    exact mul2_24_5
  · obtain ⟨rfl, rfl⟩ : N = 24 ∧ n = 7 := by omega
    exact mul2_24_7
  · obtain ⟨rfl, rfl⟩ : N = 25 ∧ n = 1 := by omega
    exact mul2_25_1
  · obtain ⟨rfl, rfl⟩ : N = 25 ∧ n = 2 := by omega
    exact mul2_25_2
  · obtain ⟨rfl, rfl⟩ : N = 25 ∧ n = 3 := by omega
    exact mul2_25_3
  · obtain ⟨rfl, rfl⟩ : N = 25 ∧ n = 4 := by omega
    exact mul2_25_4
  · obtain ⟨rfl, rfl⟩ : N = 25 ∧ n = 6 := by omega
    exact mul2_25_6
  · obtain ⟨rfl, rfl⟩ : N = 25 ∧ n = 7 := by omega
    exact mul2_25_7
