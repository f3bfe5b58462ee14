theorem nle25 {N : Nat} (h1 : 1 ≤ N) (h2 : N ≤ 25) : N = 1 ∨ N = 2 ∨ N = 3 ∨ N = 4 ∨ N = 5 ∨ N = 6 ∨ N = 7 ∨ N = 8 ∨ N = 9 ∨ N = 10 ∨ N = 11 ∨ N = 12 ∨ N = 13 ∨ N = 14 ∨ N = 15 ∨ N = 16 ∨ N = 17 ∨ N = 18 ∨ N = 19 ∨ N = 20 ∨ N = 21 ∨ N = 22 ∨ N = 23 ∨ N = 24 ∨ N = 25 := by omega
/-- n is an operator of level N -/
noncomputable def cop (N n : Nat) : Prop := 1 ≤ N ∧ N ≤ 25 ∧ 1 ≤ n ∧ n ≤ 7 ∧ Nat.gcd n N = 1
noncomputable def allL_has (x : Nat) : Bool := Nat.beq x 9 || Nat.beq x 10 || Nat.beq x 11 || Nat.beq x 12 || Nat.beq x 13 || Nat.beq x 14 || Nat.beq x 15 || Nat.beq x 17 || Nat.beq x 19 || Nat.beq x 21 || Nat.beq x 23 || Nat.beq x 25 || Nat.beq x 26 || Nat.beq x 28 || Nat.beq x 29 || Nat.beq x 31 || Nat.beq x 33 || Nat.beq x 35 || Nat.beq x 37 || Nat.beq x 39 || Nat.beq x 41 || Nat.beq x 42 || Nat.beq x 43 || Nat.beq x 44 || Nat.beq x 46 || Nat.beq x 47 || Nat.beq x 49 || Nat.beq x 53 || Nat.beq x 55 || Nat.beq x 57 || Nat.beq x 58 || Nat.beq x 59 || Nat.beq x 60 || Nat.beq x 61 || Nat.beq x 62 || Nat.beq x 65 || Nat.beq x 67 || Nat.beq x 69 || Nat.beq x 71 || Nat.beq x 73 || Nat.beq x 74 || Nat.beq x 76 || Nat.beq x 77 || Nat.beq x 79 || Nat.beq x 81 || Nat.beq x 83 || Nat.beq x 87 || Nat.beq x 89 || Nat.beq x 90 || Nat.beq x 91 || Nat.beq x 92 || Nat.beq x 93 || Nat.beq x 94 || Nat.beq x 95 || Nat.beq x 97 || Nat.beq x 101 || Nat.beq x 103 || Nat.beq x 105 || Nat.beq x 106 || Nat.beq x 107 || Nat.beq x 108 || Nat.beq x 109 || Nat.beq x 110 || Nat.beq x 111 || Nat.beq x 113 || Nat.beq x 115 || Nat.beq x 117 || Nat.beq x 121 || Nat.beq x 122 || Nat.beq x 124 || Nat.beq x 127 || Nat.beq x 129 || Nat.beq x 131 || Nat.beq x 133 || Nat.beq x 135 || Nat.beq x 137 || Nat.beq x 138 || Nat.beq x 139 || Nat.beq x 140 || Nat.beq x 141 || Nat.beq x 142 || Nat.beq x 143 || Nat.beq x 145 || Nat.beq x 149 || Nat.beq x 151 || Nat.beq x 153 || Nat.beq x 154 || Nat.beq x 155 || Nat.beq x 156 || Nat.beq x 157 || Nat.beq x 158 || Nat.beq x 159 || Nat.beq x 161 || Nat.beq x 163 || Nat.beq x 167 || Nat.beq x 169 || Nat.beq x 170 || Nat.beq x 172 || Nat.beq x 173 || Nat.beq x 177 || Nat.beq x 179 || Nat.beq x 181 || Nat.beq x 183 || Nat.beq x 185 || Nat.beq x 186 || Nat.beq x 187 || Nat.beq x 188 || Nat.beq x 189 || Nat.beq x 190 || Nat.beq x 191 || Nat.beq x 193 || Nat.beq x 197 || Nat.beq x 199 || Nat.beq x 201 || Nat.beq x 202 || Nat.beq x 203 || Nat.beq x 204 || Nat.beq x 206 || Nat.beq x 207
theorem opl {N n : Nat} (h : cop N n) : 8 * N + n = 9 ∨ 8 * N + n = 10 ∨ 8 * N + n = 11 ∨ 8 * N + n = 12 ∨ 8 * N + n = 13 ∨ 8 * N + n = 14 ∨ 8 * N + n = 15 ∨ 8 * N + n = 17 ∨ 8 * N + n = 19 ∨ 8 * N + n = 21 ∨ 8 * N + n = 23 ∨ 8 * N + n = 25 ∨ 8 * N + n = 26 ∨ 8 * N + n = 28 ∨ 8 * N + n = 29 ∨ 8 * N + n = 31 ∨ 8 * N + n = 33 ∨ 8 * N + n = 35 ∨ 8 * N + n = 37 ∨ 8 * N + n = 39 ∨ 8 * N + n = 41 ∨ 8 * N + n = 42 ∨ 8 * N + n = 43 ∨ 8 * N + n = 44 ∨ 8 * N + n = 46 ∨ 8 * N + n = 47 ∨ 8 * N + n = 49 ∨ 8 * N + n = 53 ∨ 8 * N + n = 55 ∨ 8 * N + n = 57 ∨ 8 * N + n = 58 ∨ 8 * N + n = 59 ∨ 8 * N + n = 60 ∨ 8 * N + n = 61 ∨ 8 * N + n = 62 ∨ 8 * N + n = 65 ∨ 8 * N + n = 67 ∨ 8 * N + n = 69 ∨ 8 * N + n = 71 ∨ 8 * N + n = 73 ∨ 8 * N + n = 74 ∨ 8 * N + n = 76 ∨ 8 * N + n = 77 ∨ 8 * N + n = 79 ∨ 8 * N + n = 81 ∨ 8 * N + n = 83 ∨ 8 * N + n = 87 ∨ 8 * N + n = 89 ∨ 8 * N + n = 90 ∨ 8 * N + n = 91 ∨ 8 * N + n = 92 ∨ 8 * N + n = 93 ∨ 8 * N + n = 94 ∨ 8 * N + n = 95 ∨ 8 * N + n = 97 ∨ 8 * N + n = 101 ∨ 8 * N + n = 103 ∨ 8 * N + n = 105 ∨ 8 * N + n = 106 ∨ 8 * N + n = 107 ∨ 8 * N + n = 108 ∨ 8 * N + n = 109 ∨ 8 * N + n = 110 ∨ 8 * N + n = 111 ∨ 8 * N + n = 113 ∨ 8 * N + n = 115 ∨ 8 * N + n = 117 ∨ 8 * N + n = 121 ∨ 8 * N + n = 122 ∨ 8 * N + n = 124 ∨ 8 * N + n = 127 ∨ 8 * N + n = 129 ∨ 8 * N + n = 131 ∨ 8 * N + n = 133 ∨ 8 * N + n = 135 ∨ 8 * N + n = 137 ∨ 8 * N + n = 138 ∨ 8 * N + n = 139 ∨ 8 * N + n = 140 ∨ 8 * N + n = 141 ∨ 8 * N + n = 142 ∨ 8 * N + n = 143 ∨ 8 * N + n = 145 ∨ 8 * N + n = 149 ∨ 8 * N + n = 151 ∨ 8 * N + n = 153 ∨ 8 * N + n = 154 ∨ 8 * N + n = 155 ∨ 8 * N + n = 156 ∨ 8 * N + n = 157 ∨ 8 * N + n = 158 ∨ 8 * N + n = 159 ∨ 8 * N + n = 161 ∨ 8 * N + n = 163 ∨ 8 * N + n = 167 ∨ 8 * N + n = 169 ∨ 8 * N + n = 170 ∨ 8 * N + n = 172 ∨ 8 * N + n = 173 ∨ 8 * N + n = 177 ∨ 8 * N + n = 179 ∨ 8 * N + n = 181 ∨ 8 * N + n = 183 ∨ 8 * N + n = 185 ∨ 8 * N + n = 186 ∨ 8 * N + n = 187 ∨ 8 * N + n = 188 ∨ 8 * N + n = 189 ∨ 8 * N + n = 190 ∨ 8 * N + n = 191 ∨ 8 * N + n = 193 ∨ 8 * N + n = 197 ∨ 8 * N + n = 199 ∨ 8 * N + n = 201 ∨ 8 * N + n = 202 ∨ 8 * N + n = 203 ∨ 8 * N + n = 204 ∨ 8 * N + n = 206 ∨ 8 * N + n = 207 := by
  obtain ⟨h1, h2, h3, h4, h5⟩ := h
  have key : allN 26 (fun N => allN 8 fun n => !(Nat.ble 1 N && (Nat.ble 1 n && Nat.beq (Nat.gcd n N) 1)) || allL_has (8 * N + n)) = true := by decide +kernel
  have k1 := allN_at (allN_at key N (by omega)) n (by omega)
  rw [Nat.ble_eq_true_of_le h1, Nat.ble_eq_true_of_le h3, h5] at k1
  have k2 : allL_has (8 * N + n) = true := k1
  unfold allL_has at k2
  simp only [Bool.or_eq_true, Nat.beq_eq, or_assoc] at k2
  exact k2
theorem lays_run {N : Nat} (h1 : 1 ≤ N) (h2 : N ≤ 25) : runB laysR (PMh N) (fun h => okL N h && okLf N h) = true := by
  rcases nle25 h1 h2 with rfl | rfl | rfl | rfl | rfl | rfl | rfl | rfl | rfl | rfl | rfl | rfl | rfl | rfl | rfl | rfl | rfl | rfl | rfl | rfl | rfl | rfl | rfl | rfl | rfl
  · exact lays_run1
  · exact lays_run2
  · exact lays_run3
  · exact lays_run4
  · exact lays_run5
  · exact lays_run6
  · exact lays_run7
  · exact lays_run8
  · exact lays_run9
  · exact lays_run10
  · exact lays_run11
  · exact lays_run12
  · exact lays_run13
  · exact lays_run14
  · exact lays_run15
  · exact lays_run16
  · exact lays_run17
  · exact lays_run18
  · exact lays_run19
  · exact lays_run20
  · exact lays_run21
  · exact lays_run22
  · exact lays_run23
  · exact lays_run24
  · exact lays_run25
theorem cus_run {N : Nat} (h1 : 1 ≤ N) (h2 : N ≤ 25) : runB (fX10_laysCuspidals 0) (QM N) (okC N) = true := by
  rcases nle25 h1 h2 with rfl | rfl | rfl | rfl | rfl | rfl | rfl | rfl | rfl | rfl | rfl | rfl | rfl | rfl | rfl | rfl | rfl | rfl | rfl | rfl | rfl | rfl | rfl | rfl | rfl
  · exact cus_run1
  · exact cus_run2
  · exact cus_run3
  · exact cus_run4
  · exact cus_run5
  · exact cus_run6
  · exact cus_run7
  · exact cus_run8
  · exact cus_run9
  · exact cus_run10
  · exact cus_run11
  · exact cus_run12
  · exact cus_run13
  · exact cus_run14
  · exact cus_run15
  · exact cus_run16
  · exact cus_run17
  · exact cus_run18
  · exact cus_run19
  · exact cus_run20
  · exact cus_run21
  · exact cus_run22
  · exact cus_run23
  · exact cus_run24
  · exact cus_run25
theorem tab_run {N n : Nat} (h : cop N n) : runB tabR (QT N n) (okT N n) = true := by
  have h7 := h.2.2.2.1
  rcases opl h with e | e | e | e | e | e | e | e | e | e | e | e | e | e | e | e | e | e | e | e | e | e | e | e | e | e | e | e | e | e | e | e | e | e | e | e | e | e | e | e | e | e | e | e | e | e | e | e | e | e | e | e | e | e | e | e | e | e | e | e | e | e | e | e | e | e | e | e | e | e | e | e | e | e | e | e | e | e | e | e | e | e | e | e | e | e | e | e | e | e | e | e | e | e | e | e | e | e | e | e | e | e | e | e | e | e | e | e | e | e | e | e | e | e | e | e | e | e | e
  · obtain ⟨rfl, rfl⟩ : N = 1 ∧ n = 1 := by omega
    exact tab_run1_1
  · obtain ⟨rfl, rfl⟩ : N = 1 ∧ n = 2 := by omega
    exact tab_run1_2
  · obtain ⟨rfl, rfl⟩ : N = 1 ∧ n = 3 := by omega
    exact tab_run1_3
  · obtain ⟨rfl, rfl⟩ : N = 1 ∧ n = 4 := by omega
    exact tab_run1_4
  · obtain ⟨rfl, rfl⟩ : N = 1 ∧ n = 5 := by omega
    exact tab_run1_5
  · obtain ⟨rfl, rfl⟩ : N = 1 ∧ n = 6 := by omega
    exact tab_run1_6
  · obtain ⟨rfl, rfl⟩ : N = 1 ∧ n = 7 := by omega
    exact tab_run1_7
  · obtain ⟨rfl, rfl⟩ : N = 2 ∧ n = 1 := by omega
    exact tab_run2_1
  · obtain ⟨rfl, rfl⟩ : N = 2 ∧ n = 3 := by omega
    exact tab_run2_3
  · obtain ⟨rfl, rfl⟩ : N = 2 ∧ n = 5 := by omega
    exact tab_run2_5
  · obtain ⟨rfl, rfl⟩ : N = 2 ∧ n = 7 := by omega
    exact tab_run2_7
  · obtain ⟨rfl, rfl⟩ : N = 3 ∧ n = 1 := by omega
    exact tab_run3_1
  · obtain ⟨rfl, rfl⟩ : N = 3 ∧ n = 2 := by omega
    exact tab_run3_2
  · obtain ⟨rfl, rfl⟩ : N = 3 ∧ n = 4 := by omega
    exact tab_run3_4
  · obtain ⟨rfl, rfl⟩ : N = 3 ∧ n = 5 := by omega
    exact tab_run3_5
  · obtain ⟨rfl, rfl⟩ : N = 3 ∧ n = 7 := by omega
    exact tab_run3_7
  · obtain ⟨rfl, rfl⟩ : N = 4 ∧ n = 1 := by omega
    exact tab_run4_1
  · obtain ⟨rfl, rfl⟩ : N = 4 ∧ n = 3 := by omega
    exact tab_run4_3
  · obtain ⟨rfl, rfl⟩ : N = 4 ∧ n = 5 := by omega
    exact tab_run4_5
  · obtain ⟨rfl, rfl⟩ : N = 4 ∧ n = 7 := by omega
    exact tab_run4_7
  · obtain ⟨rfl, rfl⟩ : N = 5 ∧ n = 1 := by omega
    exact tab_run5_1
  · obtain ⟨rfl, rfl⟩ : N = 5 ∧ n = 2 := by omega
    exact tab_run5_2
  · obtain ⟨rfl, rfl⟩ : N = 5 ∧ n = 3 := by omega
    exact tab_run5_3
  · obtain ⟨rfl, rfl⟩ : N = 5 ∧ n = 4 := by omega
    exact tab_run5_4
  · obtain ⟨rfl, rfl⟩ : N = 5 ∧ n = 6 := by omega
    exact tab_run5_6
  · obtain ⟨rfl, rfl⟩ : N = 5 ∧ n = 7 := by omega
    exact tab_run5_7
  · obtain ⟨rfl, rfl⟩ : N = 6 ∧ n = 1 := by omega
    exact tab_run6_1
  · obtain ⟨rfl, rfl⟩ : N = 6 ∧ n = 5 := by omega
    exact tab_run6_5
  · obtain ⟨rfl, rfl⟩ : N = 6 ∧ n = 7 := by omega
    exact tab_run6_7
  · obtain ⟨rfl, rfl⟩ : N = 7 ∧ n = 1 := by omega
    exact tab_run7_1
  · obtain ⟨rfl, rfl⟩ : N = 7 ∧ n = 2 := by omega
    exact tab_run7_2
  · obtain ⟨rfl, rfl⟩ : N = 7 ∧ n = 3 := by omega
    exact tab_run7_3
  · obtain ⟨rfl, rfl⟩ : N = 7 ∧ n = 4 := by omega
    exact tab_run7_4
  · obtain ⟨rfl, rfl⟩ : N = 7 ∧ n = 5 := by omega
    exact tab_run7_5
  · obtain ⟨rfl, rfl⟩ : N = 7 ∧ n = 6 := by omega
    exact tab_run7_6
  · obtain ⟨rfl, rfl⟩ : N = 8 ∧ n = 1 := by omega
    exact tab_run8_1
  · obtain ⟨rfl, rfl⟩ : N = 8 ∧ n = 3 := by omega
    exact tab_run8_3
  · obtain ⟨rfl, rfl⟩ : N = 8 ∧ n = 5 := by omega
    exact tab_run8_5
  · obtain ⟨rfl, rfl⟩ : N = 8 ∧ n = 7 := by omega
    exact tab_run8_7
  · obtain ⟨rfl, rfl⟩ : N = 9 ∧ n = 1 := by omega
    exact tab_run9_1
  · obtain ⟨rfl, rfl⟩ : N = 9 ∧ n = 2 := by omega
    exact tab_run9_2
  · obtain ⟨rfl, rfl⟩ : N = 9 ∧ n = 4 := by omega
    exact tab_run9_4
  · obtain ⟨rfl, rfl⟩ : N = 9 ∧ n = 5 := by omega
    exact tab_run9_5
  · obtain ⟨rfl, rfl⟩ : N = 9 ∧ n = 7 := by omega
    exact tab_run9_7
  · obtain ⟨rfl, rfl⟩ : N = 10 ∧ n = 1 := by omega
    exact tab_run10_1
  · obtain ⟨rfl, rfl⟩ : N = 10 ∧ n = 3 := by omega
    exact tab_run10_3
  · obtain ⟨rfl, rfl⟩ : N = 10 ∧ n = 7 := by omega
    exact tab_run10_7
  · obtain ⟨rfl, rfl⟩ : N = 11 ∧ n = 1 := by omega
    exact tab_run11_1
  · obtain ⟨rfl, rfl⟩ : N = 11 ∧ n = 2 := by omega
    exact tab_run11_2
  · obtain ⟨rfl, rfl⟩ : N = 11 ∧ n = 3 := by omega
    exact tab_run11_3
  · obtain ⟨rfl, rfl⟩ : N = 11 ∧ n = 4 := by omega
    exact tab_run11_4
  · obtain ⟨rfl, rfl⟩ : N = 11 ∧ n = 5 := by omega
    exact tab_run11_5
  · obtain ⟨rfl, rfl⟩ : N = 11 ∧ n = 6 := by omega
    exact tab_run11_6
  · obtain ⟨rfl, rfl⟩ : N = 11 ∧ n = 7 := by omega
    exact tab_run11_7
  · obtain ⟨rfl, rfl⟩ : N = 12 ∧ n = 1 := by omega
    exact tab_run12_1
  · obtain ⟨rfl, rfl⟩ : N = 12 ∧ n = 5 := by omega
    exact tab_run12_5
  · obtain ⟨rfl, rfl⟩ : N = 12 ∧ n = 7 := by omega
    exact tab_run12_7
  · obtain ⟨rfl, rfl⟩ : N = 13 ∧ n = 1 := by omega
    exact tab_run13_1
  · obtain ⟨rfl, rfl⟩ : N = 13 ∧ n = 2 := by omega
    exact tab_run13_2
  · obtain ⟨rfl, rfl⟩ : N = 13 ∧ n = 3 := by omega
    exact tab_run13_3
  · obtain ⟨rfl, rfl⟩ : N = 13 ∧ n = 4 := by omega
    exact tab_run13_4
  · obtain ⟨rfl, rfl⟩ : N = 13 ∧ n = 5 := by omega
    exact tab_run13_5
  · obtain ⟨rfl, rfl⟩ : N = 13 ∧ n = 6 := by omega
    exact tab_run13_6
  · obtain ⟨rfl, rfl⟩ : N = 13 ∧ n = 7 := by omega
    exact tab_run13_7
  · obtain ⟨rfl, rfl⟩ : N = 14 ∧ n = 1 := by omega
    exact tab_run14_1
  · obtain ⟨rfl, rfl⟩ : N = 14 ∧ n = 3 := by omega
    exact tab_run14_3
  · obtain ⟨rfl, rfl⟩ : N = 14 ∧ n = 5 := by omega
    exact tab_run14_5
  · obtain ⟨rfl, rfl⟩ : N = 15 ∧ n = 1 := by omega
    exact tab_run15_1
  · obtain ⟨rfl, rfl⟩ : N = 15 ∧ n = 2 := by omega
    exact tab_run15_2
  · obtain ⟨rfl, rfl⟩ : N = 15 ∧ n = 4 := by omega
    exact tab_run15_4
  · obtain ⟨rfl, rfl⟩ : N = 15 ∧ n = 7 := by omega
    exact tab_run15_7
  · obtain ⟨rfl, rfl⟩ : N = 16 ∧ n = 1 := by omega
    exact tab_run16_1
  · obtain ⟨rfl, rfl⟩ : N = 16 ∧ n = 3 := by omega
    exact tab_run16_3
  · obtain ⟨rfl, rfl⟩ : N = 16 ∧ n = 5 := by omega
    exact tab_run16_5
  · obtain ⟨rfl, rfl⟩ : N = 16 ∧ n = 7 := by omega
    exact tab_run16_7
  · obtain ⟨rfl, rfl⟩ : N = 17 ∧ n = 1 := by omega
    exact tab_run17_1
  · obtain ⟨rfl, rfl⟩ : N = 17 ∧ n = 2 := by omega
    exact tab_run17_2
  · obtain ⟨rfl, rfl⟩ : N = 17 ∧ n = 3 := by omega
    exact tab_run17_3
  · obtain ⟨rfl, rfl⟩ : N = 17 ∧ n = 4 := by omega
    exact tab_run17_4
  · obtain ⟨rfl, rfl⟩ : N = 17 ∧ n = 5 := by omega
    exact tab_run17_5
  · obtain ⟨rfl, rfl⟩ : N = 17 ∧ n = 6 := by omega
    exact tab_run17_6
  · obtain ⟨rfl, rfl⟩ : N = 17 ∧ n = 7 := by omega
    exact tab_run17_7
  · obtain ⟨rfl, rfl⟩ : N = 18 ∧ n = 1 := by omega
    exact tab_run18_1
  · obtain ⟨rfl, rfl⟩ : N = 18 ∧ n = 5 := by omega
    exact tab_run18_5
  · obtain ⟨rfl, rfl⟩ : N = 18 ∧ n = 7 := by omega
    exact tab_run18_7
  · obtain ⟨rfl, rfl⟩ : N = 19 ∧ n = 1 := by omega
    exact tab_run19_1
  · obtain ⟨rfl, rfl⟩ : N = 19 ∧ n = 2 := by omega
    exact tab_run19_2
  · obtain ⟨rfl, rfl⟩ : N = 19 ∧ n = 3 := by omega
    exact tab_run19_3
  · obtain ⟨rfl, rfl⟩ : N = 19 ∧ n = 4 := by omega
    exact tab_run19_4
  · obtain ⟨rfl, rfl⟩ : N = 19 ∧ n = 5 := by omega
    exact tab_run19_5
  · obtain ⟨rfl, rfl⟩ : N = 19 ∧ n = 6 := by omega
    exact tab_run19_6
  · obtain ⟨rfl, rfl⟩ : N = 19 ∧ n = 7 := by omega
    exact tab_run19_7
  · obtain ⟨rfl, rfl⟩ : N = 20 ∧ n = 1 := by omega
    exact tab_run20_1
  · obtain ⟨rfl, rfl⟩ : N = 20 ∧ n = 3 := by omega
    exact tab_run20_3
  · obtain ⟨rfl, rfl⟩ : N = 20 ∧ n = 7 := by omega
    exact tab_run20_7
  · obtain ⟨rfl, rfl⟩ : N = 21 ∧ n = 1 := by omega
    exact tab_run21_1
  · obtain ⟨rfl, rfl⟩ : N = 21 ∧ n = 2 := by omega
    exact tab_run21_2
  · obtain ⟨rfl, rfl⟩ : N = 21 ∧ n = 4 := by omega
    exact tab_run21_4
  · obtain ⟨rfl, rfl⟩ : N = 21 ∧ n = 5 := by omega
    exact tab_run21_5
  · obtain ⟨rfl, rfl⟩ : N = 22 ∧ n = 1 := by omega
    exact tab_run22_1
  · obtain ⟨rfl, rfl⟩ : N = 22 ∧ n = 3 := by omega
    exact tab_run22_3
  · obtain ⟨rfl, rfl⟩ : N = 22 ∧ n = 5 := by omega
    exact tab_run22_5
  · obtain ⟨rfl, rfl⟩ : N = 22 ∧ n = 7 := by omega
    exact tab_run22_7
  · obtain ⟨rfl, rfl⟩ : N = 23 ∧ n = 1 := by omega
    exact tab_run23_1
  · obtain ⟨rfl, rfl⟩ : N = 23 ∧ n = 2 := by omega
    exact tab_run23_2
  · obtain ⟨rfl, rfl⟩ : N = 23 ∧ n = 3 := by omega
    exact tab_run23_3
  · obtain ⟨rfl, rfl⟩ : N = 23 ∧ n = 4 := by omega
    exact tab_run23_4
  · obtain ⟨rfl, rfl⟩ : N = 23 ∧ n = 5 := by omega
    exact tab_run23_5
  · obtain ⟨rfl, rfl⟩ : N = 23 ∧ n = 6 := by omega
    exact tab_run23_6
  · obtain ⟨rfl, rfl⟩ : N = 23 ∧ n = 7 := by omega
    exact tab_run23_7
  · obtain ⟨rfl, rfl⟩ : N = 24 ∧ n = 1 := by omega
    exact tab_run24_1
  · obtain ⟨rfl, rfl⟩ : N = 24 ∧ n = 5 := by omega
    exact tab_run24_5
  · obtain ⟨rfl, rfl⟩ : N = 24 ∧ n = 7 := by omega
    exact tab_run24_7
  · obtain ⟨rfl, rfl⟩ : N = 25 ∧ n = 1 := by omega
    exact tab_run25_1
  · obtain ⟨rfl, rfl⟩ : N = 25 ∧ n = 2 := by omega
    exact tab_run25_2
  · obtain ⟨rfl, rfl⟩ : N = 25 ∧ n = 3 := by omega
    exact tab_run25_3
  · obtain ⟨rfl, rfl⟩ : N = 25 ∧ n = 4 := by omega
    exact tab_run25_4
  · obtain ⟨rfl, rfl⟩ : N = 25 ∧ n = 6 := by omega
    exact tab_run25_6
  · obtain ⟨rfl, rfl⟩ : N = 25 ∧ n = 7 := by omega
    exact tab_run25_7
theorem ops_run {N n : Nat} (h : cop N n) : runB (opsR (nI n)) (QM N) (okO N n) = true := by
  have h7 := h.2.2.2.1
  rcases opl h with e | e | e | e | e | e | e | e | e | e | e | e | e | e | e | e | e | e | e | e | e | e | e | e | e | e | e | e | e | e | e | e | e | e | e | e | e | e | e | e | e | e | e | e | e | e | e | e | e | e | e | e | e | e | e | e | e | e | e | e | e | e | e | e | e | e | e | e | e | e | e | e | e | e | e | e | e | e | e | e | e | e | e | e | e | e | e | e | e | e | e | e | e | e | e | e | e | e | e | e | e | e | e | e | e | e | e | e | e | e | e | e | e | e | e | e | e | e | e
  · obtain ⟨rfl, rfl⟩ : N = 1 ∧ n = 1 := by omega
    exact ops_run1_1
  · obtain ⟨rfl, rfl⟩ : N = 1 ∧ n = 2 := by omega
    exact ops_run1_2
  · obtain ⟨rfl, rfl⟩ : N = 1 ∧ n = 3 := by omega
    exact ops_run1_3
  · obtain ⟨rfl, rfl⟩ : N = 1 ∧ n = 4 := by omega
    exact ops_run1_4
  · obtain ⟨rfl, rfl⟩ : N = 1 ∧ n = 5 := by omega
    exact ops_run1_5
  · obtain ⟨rfl, rfl⟩ : N = 1 ∧ n = 6 := by omega
    exact ops_run1_6
  · obtain ⟨rfl, rfl⟩ : N = 1 ∧ n = 7 := by omega
    exact ops_run1_7
  · obtain ⟨rfl, rfl⟩ : N = 2 ∧ n = 1 := by omega
    exact ops_run2_1
  · obtain ⟨rfl, rfl⟩ : N = 2 ∧ n = 3 := by omega
    exact ops_run2_3
  · obtain ⟨rfl, rfl⟩ : N = 2 ∧ n = 5 := by omega
    exact ops_run2_5
  · obtain ⟨rfl, rfl⟩ : N = 2 ∧ n = 7 := by omega
    exact ops_run2_7
  · obtain ⟨rfl, rfl⟩ : N = 3 ∧ n = 1 := by omega
    exact ops_run3_1
  · obtain ⟨rfl, rfl⟩ : N = 3 ∧ n = 2 := by omega
    exact ops_run3_2
  · obtain ⟨rfl, rfl⟩ : N = 3 ∧ n = 4 := by omega
    exact ops_run3_4
  · obtain ⟨rfl, rfl⟩ : N = 3 ∧ n = 5 := by omega
    exact ops_run3_5
  · obtain ⟨rfl, rfl⟩ : N = 3 ∧ n = 7 := by omega
    exact ops_run3_7
  · obtain ⟨rfl, rfl⟩ : N = 4 ∧ n = 1 := by omega
    exact ops_run4_1
  · obtain ⟨rfl, rfl⟩ : N = 4 ∧ n = 3 := by omega
    exact ops_run4_3
  · obtain ⟨rfl, rfl⟩ : N = 4 ∧ n = 5 := by omega
    exact ops_run4_5
  · obtain ⟨rfl, rfl⟩ : N = 4 ∧ n = 7 := by omega
    exact ops_run4_7
  · obtain ⟨rfl, rfl⟩ : N = 5 ∧ n = 1 := by omega
    exact ops_run5_1
  · obtain ⟨rfl, rfl⟩ : N = 5 ∧ n = 2 := by omega
    exact ops_run5_2
  · obtain ⟨rfl, rfl⟩ : N = 5 ∧ n = 3 := by omega
    exact ops_run5_3
  · obtain ⟨rfl, rfl⟩ : N = 5 ∧ n = 4 := by omega
    exact ops_run5_4
  · obtain ⟨rfl, rfl⟩ : N = 5 ∧ n = 6 := by omega
    exact ops_run5_6
  · obtain ⟨rfl, rfl⟩ : N = 5 ∧ n = 7 := by omega
    exact ops_run5_7
  · obtain ⟨rfl, rfl⟩ : N = 6 ∧ n = 1 := by omega
    exact ops_run6_1
  · obtain ⟨rfl, rfl⟩ : N = 6 ∧ n = 5 := by omega
    exact ops_run6_5
  · obtain ⟨rfl, rfl⟩ : N = 6 ∧ n = 7 := by omega
    exact ops_run6_7
  · obtain ⟨rfl, rfl⟩ : N = 7 ∧ n = 1 := by omega
    exact ops_run7_1
  · obtain ⟨rfl, rfl⟩ : N = 7 ∧ n = 2 := by omega
    exact ops_run7_2
  · obtain ⟨rfl, rfl⟩ : N = 7 ∧ n = 3 := by omega
    exact ops_run7_3
  · obtain ⟨rfl, rfl⟩ : N = 7 ∧ n = 4 := by omega
    exact ops_run7_4
  · obtain ⟨rfl, rfl⟩ : N = 7 ∧ n = 5 := by omega
    exact ops_run7_5
  · obtain ⟨rfl, rfl⟩ : N = 7 ∧ n = 6 := by omega
    exact ops_run7_6
  · obtain ⟨rfl, rfl⟩ : N = 8 ∧ n = 1 := by omega
    exact ops_run8_1
  · obtain ⟨rfl, rfl⟩ : N = 8 ∧ n = 3 := by omega
    exact ops_run8_3
  · obtain ⟨rfl, rfl⟩ : N = 8 ∧ n = 5 := by omega
    exact ops_run8_5
  · obtain ⟨rfl, rfl⟩ : N = 8 ∧ n = 7 := by omega
    exact ops_run8_7
  · obtain ⟨rfl, rfl⟩ : N = 9 ∧ n = 1 := by omega
    exact ops_run9_1
  · obtain ⟨rfl, rfl⟩ : N = 9 ∧ n = 2 := by omega
    exact ops_run9_2
  · obtain ⟨rfl, rfl⟩ : N = 9 ∧ n = 4 := by omega
    exact ops_run9_4
  · obtain ⟨rfl, rfl⟩ : N = 9 ∧ n = 5 := by omega
    exact ops_run9_5
  · obtain ⟨rfl, rfl⟩ : N = 9 ∧ n = 7 := by omega
    exact ops_run9_7
  · obtain ⟨rfl, rfl⟩ : N = 10 ∧ n = 1 := by omega
    exact ops_run10_1
  · obtain ⟨rfl, rfl⟩ : N = 10 ∧ n = 3 := by omega
    exact ops_run10_3
  · obtain ⟨rfl, rfl⟩ : N = 10 ∧ n = 7 := by omega
    exact ops_run10_7
  · obtain ⟨rfl, rfl⟩ : N = 11 ∧ n = 1 := by omega
    exact ops_run11_1
  · obtain ⟨rfl, rfl⟩ : N = 11 ∧ n = 2 := by omega
    exact ops_run11_2
  · obtain ⟨rfl, rfl⟩ : N = 11 ∧ n = 3 := by omega
    exact ops_run11_3
  · obtain ⟨rfl, rfl⟩ : N = 11 ∧ n = 4 := by omega
    exact ops_run11_4
  · obtain ⟨rfl, rfl⟩ : N = 11 ∧ n = 5 := by omega
    exact ops_run11_5
  · obtain ⟨rfl, rfl⟩ : N = 11 ∧ n = 6 := by omega
    exact ops_run11_6
  · obtain ⟨rfl, rfl⟩ : N = 11 ∧ n = 7 := by omega
    exact ops_run11_7
  · obtain ⟨rfl, rfl⟩ : N = 12 ∧ n = 1 := by omega
    exact ops_run12_1
  · obtain ⟨rfl, rfl⟩ : N = 12 ∧ n = 5 := by omega
    exact ops_run12_5
  · obtain ⟨rfl, rfl⟩ : N = 12 ∧ n = 7 := by omega
    exact ops_run12_7
  · obtain ⟨rfl, rfl⟩ : N = 13 ∧ n = 1 := by omega
    exact ops_run13_1
  · obtain ⟨rfl, rfl⟩ : N = 13 ∧ n = 2 := by omega
    exact ops_run13_2
  · obtain ⟨rfl, rfl⟩ : N = 13 ∧ n = 3 := by omega
    exact ops_run13_3
  · obtain ⟨rfl, rfl⟩ : N = 13 ∧ n = 4 := by omega
    exact ops_run13_4
  · obtain ⟨rfl, rfl⟩ : N = 13 ∧ n = 5 := by omega
    exact ops_run13_5
  · obtain ⟨rfl, rfl⟩ : N = 13 ∧ n = 6 := by omega
    exact ops_run13_6
  · obtain ⟨rfl, rfl⟩ : N = 13 ∧ n = 7 := by omega
    exact ops_run13_7
  · obtain ⟨rfl, rfl⟩ : N = 14 ∧ n = 1 := by omega
    exact ops_run14_1
  · obtain ⟨rfl, rfl⟩ : N = 14 ∧ n = 3 := by omega
    exact ops_run14_3
  · obtain ⟨rfl, rfl⟩ : N = 14 ∧ n = 5 := by omega
    exact ops_run14_5
  · obtain ⟨rfl, rfl⟩ : N = 15 ∧ n = 1 := by omega
    exact ops_run15_1
  · obtain ⟨rfl, rfl⟩ : N = 15 ∧ n = 2 := by omega
    exact ops_run15_2
  · obtain ⟨rfl, rfl⟩ : N = 15 ∧ n = 4 := by omega
    exact ops_run15_4
  · obtain ⟨rfl, rfl⟩ : N = 15 ∧ n = 7 := by omega
    exact ops_run15_7
  · obtain ⟨rfl, rfl⟩ : N = 16 ∧ n = 1 := by omega
    exact ops_run16_1
  · obtain ⟨rfl, rfl⟩ : N = 16 ∧ n = 3 := by omega
    exact ops_run16_3
  · obtain ⟨rfl, rfl⟩ : N = 16 ∧ n = 5 := by omega
    exact ops_run16_5
  · obtain ⟨rfl, rfl⟩ : N = 16 ∧ n = 7 := by omega
    exact ops_run16_7
  · obtain ⟨rfl, rfl⟩ : N = 17 ∧ n = 1 := by omega
    exact ops_run17_1
  · obtain ⟨rfl, rfl⟩ : N = 17 ∧ n = 2 := by omega
    exact ops_run17_2
  · obtain ⟨rfl, rfl⟩ : N = 17 ∧ n = 3 := by omega
    exact ops_run17_3
  · obtain ⟨rfl, rfl⟩ : N = 17 ∧ n = 4 := by omega
    exact ops_run17_4
  · obtain ⟨rfl, rfl⟩ : N = 17 ∧ n = 5 := by omega
    exact ops_run17_5
  · obtain ⟨rfl, rfl⟩ : N = 17 ∧ n = 6 := by omega
    exact ops_run17_6
  · obtain ⟨rfl, rfl⟩ : N = 17 ∧ n = 7 := by omega
    exact ops_run17_7
  · obtain ⟨rfl, rfl⟩ : N = 18 ∧ n = 1 := by omega
    exact ops_run18_1
  · obtain ⟨rfl, rfl⟩ : N = 18 ∧ n = 5 := by omega
    exact ops_run18_5
  · obtain ⟨rfl, rfl⟩ : N = 18 ∧ n = 7 := by omega
    exact ops_run18_7
  · obtain ⟨rfl, rfl⟩ : N = 19 ∧ n = 1 := by omega
    exact ops_run19_1
  · obtain ⟨rfl, rfl⟩ : N = 19 ∧ n = 2 := by omega
    exact ops_run19_2
  · obtain ⟨rfl, rfl⟩ : N = 19 ∧ n = 3 := by omega
    exact ops_run19_3
  · obtain ⟨rfl, rfl⟩ : N = 19 ∧ n = 4 := by omega
    exact ops_run19_4
  · obtain ⟨rfl, rfl⟩ : N = 19 ∧ n = 5 := by omega
    exact ops_run19_5
  · obtain ⟨rfl, rfl⟩ : N = 19 ∧ n = 6 := by omega
    exact ops_run19_6
  · obtain ⟨rfl, rfl⟩ : N = 19 ∧ n = 7 := by omega
    exact ops_run19_7
  · obtain ⟨rfl, rfl⟩ : N = 20 ∧ n = 1 := by omega
    exact ops_run20_1
  · obtain ⟨rfl, rfl⟩ : N = 20 ∧ n = 3 := by omega
    exact ops_run20_3
  · obtain ⟨rfl, rfl⟩ : N = 20 ∧ n = 7 := by omega
    exact ops_run20_7
  · obtain ⟨rfl, rfl⟩ : N = 21 ∧ n = 1 := by omega
    exact ops_run21_1
  · obtain ⟨rfl, rfl⟩ : N = 21 ∧ n = 2 := by omega
    exact ops_run21_2
  · obtain ⟨rfl, rfl⟩ : N = 21 ∧ n = 4 := by omega
    exact ops_run21_4
  · obtain ⟨rfl, rfl⟩ : N = 21 ∧ n = 5 := by omega
    exact ops_run21_5
  · obtain ⟨rfl, rfl⟩ : N = 22 ∧ n = 1 := by omega
    exact ops_run22_1
  · obtain ⟨rfl, rfl⟩ : N = 22 ∧ n = 3 := by omega
    exact ops_run22_3
  · obtain ⟨rfl, rfl⟩ : N = 22 ∧ n = 5 := by omega
    exact ops_run22_5
  · obtain ⟨rfl, rfl⟩ : N = 22 ∧ n = 7 := by omega
    exact ops_run22_7
  · obtain ⟨rfl, rfl⟩ : N = 23 ∧ n = 1 := by omega
    exact ops_run23_1
  · obtain ⟨rfl, rfl⟩ : N = 23 ∧ n = 2 := by omega
    exact ops_run23_2
  · obtain ⟨rfl, rfl⟩ : N = 23 ∧ n = 3 := by omega
    exact ops_run23_3
  · obtain ⟨rfl, rfl⟩ : N = 23 ∧ n = 4 := by omega
    exact ops_run23_4
  · obtain ⟨rfl, rfl⟩ : N = 23 ∧ n = 5 := by omega
    exact ops_run23_5
  · obtain ⟨rfl, rfl⟩ : N = 23 ∧ n = 6 := by omega
    exact ops_run23_6
  · obtain ⟨rfl, rfl⟩ : N = 23 ∧ n = 7 := by omega
    exact ops_run23_7
  · obtain ⟨rfl, rfl⟩ : N = 24 ∧ n = 1 := by omega
    exact ops_run24_1
  · obtain ⟨rfl, rfl⟩ : N = 24 ∧ n = 5 := by omega
    exact ops_run24_5
  · obtain ⟨rfl, rfl⟩ : N = 24 ∧ n = 7 := by omega
    exact ops_run24_7
  · obtain ⟨rfl, rfl⟩ : N = 25 ∧ n = 1 := by omega
    exact ops_run25_1
  · obtain ⟨rfl, rfl⟩ : N = 25 ∧ n = 2 := by omega
    exact ops_run25_2
  · obtain ⟨rfl, rfl⟩ : N = 25 ∧ n = 3 := by omega
    exact ops_run25_3
  · obtain ⟨rfl, rfl⟩ : N = 25 ∧ n = 4 := by omega
    exact ops_run25_4
  · obtain ⟨rfl, rfl⟩ : N = 25 ∧ n = 6 := by omega
    exact ops_run25_6
  · obtain ⟨rfl, rfl⟩ : N = 25 ∧ n = 7 := by omega
    exact ops_run25_7
theorem pla_run {N : Nat} (h1 : 1 ≤ N) (h2 : N ≤ 25) : runW (fX10_plain 0) (QM N) (okP N) = true := by
  rcases nle25 h1 h2 with rfl | rfl | rfl | rfl | rfl | rfl | rfl | rfl | rfl | rfl | rfl | rfl | rfl | rfl | rfl | rfl | rfl | rfl | rfl | rfl | rfl | rfl | rfl | rfl | rfl
  · exact pla_run1
  · exact pla_run2
  · exact pla_run3
  · exact pla_run4
  · exact pla_run5
  · exact pla_run6
  · exact pla_run7
  · exact pla_run8
  · exact pla_run9
  · exact pla_run10
  · exact pla_run11
  · exact pla_run12
  · exact pla_run13
  · exact pla_run14
  · exact pla_run15
  · exact pla_run16
  · exact pla_run17
  · exact pla_run18
  · exact pla_run19
  · exact pla_run20
  · exact pla_run21
  · exact pla_run22
  · exact pla_run23
  · exact pla_run24
  · exact pla_run25
theorem rot_run {N n : Nat} (h : cop N n) : allN 17 (fun v => runW (fX10_rootOf 0 (vI v)) (QNb N n) (okN N n v)) = true := by
  have h7 := h.2.2.2.1
  rcases opl h with e | e | e | e | e | e | e | e | e | e | e | e | e | e | e | e | e | e | e | e | e | e | e | e | e | e | e | e | e | e | e | e | e | e | e | e | e | e | e | e | e | e | e | e | e | e | e | e | e | e | e | e | e | e | e | e | e | e | e | e | e | e | e | e | e | e | e | e | e | e | e | e | e | e | e | e | e | e | e | e | e | e | e | e | e | e | e | e | e | e | e | e | e | e | e | e | e | e | e | e | e | e | e | e | e | e | e | e | e | e | e | e | e | e | e | e | e | e | e
  · obtain ⟨rfl, rfl⟩ : N = 1 ∧ n = 1 := by omega
    exact rot_run1_1
  · obtain ⟨rfl, rfl⟩ : N = 1 ∧ n = 2 := by omega
    exact rot_run1_2
  · obtain ⟨rfl, rfl⟩ : N = 1 ∧ n = 3 := by omega
    exact rot_run1_3
  · obtain ⟨rfl, rfl⟩ : N = 1 ∧ n = 4 := by omega
    exact rot_run1_4
  · obtain ⟨rfl, rfl⟩ : N = 1 ∧ n = 5 := by omega
    exact rot_run1_5
  · obtain ⟨rfl, rfl⟩ : N = 1 ∧ n = 6 := by omega
    exact rot_run1_6
  · obtain ⟨rfl, rfl⟩ : N = 1 ∧ n = 7 := by omega
    exact rot_run1_7
  · obtain ⟨rfl, rfl⟩ : N = 2 ∧ n = 1 := by omega
    exact rot_run2_1
  · obtain ⟨rfl, rfl⟩ : N = 2 ∧ n = 3 := by omega
    exact rot_run2_3
  · obtain ⟨rfl, rfl⟩ : N = 2 ∧ n = 5 := by omega
    exact rot_run2_5
  · obtain ⟨rfl, rfl⟩ : N = 2 ∧ n = 7 := by omega
    exact rot_run2_7
  · obtain ⟨rfl, rfl⟩ : N = 3 ∧ n = 1 := by omega
    exact rot_run3_1
  · obtain ⟨rfl, rfl⟩ : N = 3 ∧ n = 2 := by omega
    exact rot_run3_2
  · obtain ⟨rfl, rfl⟩ : N = 3 ∧ n = 4 := by omega
    exact rot_run3_4
  · obtain ⟨rfl, rfl⟩ : N = 3 ∧ n = 5 := by omega
    exact rot_run3_5
  · obtain ⟨rfl, rfl⟩ : N = 3 ∧ n = 7 := by omega
    exact rot_run3_7
  · obtain ⟨rfl, rfl⟩ : N = 4 ∧ n = 1 := by omega
    exact rot_run4_1
  · obtain ⟨rfl, rfl⟩ : N = 4 ∧ n = 3 := by omega
    exact rot_run4_3
  · obtain ⟨rfl, rfl⟩ : N = 4 ∧ n = 5 := by omega
    exact rot_run4_5
  · obtain ⟨rfl, rfl⟩ : N = 4 ∧ n = 7 := by omega
    exact rot_run4_7
  · obtain ⟨rfl, rfl⟩ : N = 5 ∧ n = 1 := by omega
    exact rot_run5_1
  · obtain ⟨rfl, rfl⟩ : N = 5 ∧ n = 2 := by omega
    exact rot_run5_2
  · obtain ⟨rfl, rfl⟩ : N = 5 ∧ n = 3 := by omega
    exact rot_run5_3
  · obtain ⟨rfl, rfl⟩ : N = 5 ∧ n = 4 := by omega
    exact rot_run5_4
  · obtain ⟨rfl, rfl⟩ : N = 5 ∧ n = 6 := by omega
    exact rot_run5_6
  · obtain ⟨rfl, rfl⟩ : N = 5 ∧ n = 7 := by omega
    exact rot_run5_7
  · obtain ⟨rfl, rfl⟩ : N = 6 ∧ n = 1 := by omega
    exact rot_run6_1
  · obtain ⟨rfl, rfl⟩ : N = 6 ∧ n = 5 := by omega
    exact rot_run6_5
  · obtain ⟨rfl, rfl⟩ : N = 6 ∧ n = 7 := by omega
    exact rot_run6_7
  · obtain ⟨rfl, rfl⟩ : N = 7 ∧ n = 1 := by omega
    exact rot_run7_1
  · obtain ⟨rfl, rfl⟩ : N = 7 ∧ n = 2 := by omega
    exact rot_run7_2
  · obtain ⟨rfl, rfl⟩ : N = 7 ∧ n = 3 := by omega
    exact rot_run7_3
  · obtain ⟨rfl, rfl⟩ : N = 7 ∧ n = 4 := by omega
    exact rot_run7_4
  · obtain ⟨rfl, rfl⟩ : N = 7 ∧ n = 5 := by omega
    exact rot_run7_5
  · obtain ⟨rfl, rfl⟩ : N = 7 ∧ n = 6 := by omega
    exact rot_run7_6
  · obtain ⟨rfl, rfl⟩ : N = 8 ∧ n = 1 := by omega
    exact rot_run8_1
  · obtain ⟨rfl, rfl⟩ : N = 8 ∧ n = 3 := by omega
    exact rot_run8_3
  · obtain ⟨rfl, rfl⟩ : N = 8 ∧ n = 5 := by omega
    exact rot_run8_5
  · obtain ⟨rfl, rfl⟩ : N = 8 ∧ n = 7 := by omega
    exact rot_run8_7
  · obtain ⟨rfl, rfl⟩ : N = 9 ∧ n = 1 := by omega
    exact rot_run9_1
  · obtain ⟨rfl, rfl⟩ : N = 9 ∧ n = 2 := by omega
    exact rot_run9_2
  · obtain ⟨rfl, rfl⟩ : N = 9 ∧ n = 4 := by omega
    exact rot_run9_4
  · obtain ⟨rfl, rfl⟩ : N = 9 ∧ n = 5 := by omega
    exact rot_run9_5
  · obtain ⟨rfl, rfl⟩ : N = 9 ∧ n = 7 := by omega
    exact rot_run9_7
  · obtain ⟨rfl, rfl⟩ : N = 10 ∧ n = 1 := by omega
    exact rot_run10_1
  · obtain ⟨rfl, rfl⟩ : N = 10 ∧ n = 3 := by omega
    exact rot_run10_3
  · obtain ⟨rfl, rfl⟩ : N = 10 ∧ n = 7 := by omega
    exact rot_run10_7
  · obtain ⟨rfl, rfl⟩ : N = 11 ∧ n = 1 := by omega
    exact rot_run11_1
  · obtain ⟨rfl, rfl⟩ : N = 11 ∧ n = 2 := by omega
    exact rot_run11_2
  · obtain ⟨rfl, rfl⟩ : N = 11 ∧ n = 3 := by omega
    exact rot_run11_3
  · obtain ⟨rfl, rfl⟩ : N = 11 ∧ n = 4 := by omega
    exact rot_run11_4
  · obtain ⟨rfl, rfl⟩ : N = 11 ∧ n = 5 := by omega
    exact rot_run11_5
  · obtain ⟨rfl, rfl⟩ : N = 11 ∧ n = 6 := by omega
    exact rot_run11_6
  · obtain ⟨rfl, rfl⟩ : N = 11 ∧ n = 7 := by omega
    exact rot_run11_7
  · obtain ⟨rfl, rfl⟩ : N = 12 ∧ n = 1 := by omega
    exact rot_run12_1
  · obtain ⟨rfl, rfl⟩ : N = 12 ∧ n = 5 := by omega
    exact rot_run12_5
  · obtain ⟨rfl, rfl⟩ : N = 12 ∧ n = 7 := by omega
    exact rot_run12_7
  · obtain ⟨rfl, rfl⟩ : N = 13 ∧ n = 1 := by omega
    exact rot_run13_1
  · obtain ⟨rfl, rfl⟩ : N = 13 ∧ n = 2 := by omega
    exact rot_run13_2
  · obtain ⟨rfl, rfl⟩ : N = 13 ∧ n = 3 := by omega
    exact rot_run13_3
  · obtain ⟨rfl, rfl⟩ : N = 13 ∧ n = 4 := by omega
    exact rot_run13_4
  · obtain ⟨rfl, rfl⟩ : N = 13 ∧ n = 5 := by omega
    exact rot_run13_5
  · obtain ⟨rfl, rfl⟩ : N = 13 ∧ n = 6 := by omega
    exact rot_run13_6
  · obtain ⟨rfl, rfl⟩ : N = 13 ∧ n = 7 := by omega
    exact rot_run13_7
  · obtain ⟨rfl, rfl⟩ : N = 14 ∧ n = 1 := by omega
    exact rot_run14_1
  · obtain ⟨rfl, rfl⟩ : N = 14 ∧ n = 3 := by omega
    exact rot_run14_3
  · obtain ⟨rfl, rfl⟩ : N = 14 ∧ n = 5 := by omega
    exact rot_run14_5
  · obtain ⟨rfl, rfl⟩ : N = 15 ∧ n = 1 := by omega
    exact rot_run15_1
  · obtain ⟨rfl, rfl⟩ : N = 15 ∧ n = 2 := by omega
    exact rot_run15_2
  · obtain ⟨rfl, rfl⟩ : N = 15 ∧ n = 4 := by omega
    exact rot_run15_4
  · obtain ⟨rfl, rfl⟩ : N = 15 ∧ n = 7 := by omega
    exact rot_run15_7
  · obtain ⟨rfl, rfl⟩ : N = 16 ∧ n = 1 := by omega
    exact rot_run16_1
  · obtain ⟨rfl, rfl⟩ : N = 16 ∧ n = 3 := by omega
    exact rot_run16_3
  · obtain ⟨rfl, rfl⟩ : N = 16 ∧ n = 5 := by omega
    exact rot_run16_5
  · obtain ⟨rfl, rfl⟩ : N = 16 ∧ n = 7 := by omega
    exact rot_run16_7
  · obtain ⟨rfl, rfl⟩ : N = 17 ∧ n = 1 := by omega
    exact rot_run17_1
  · obtain ⟨rfl, rfl⟩ : N = 17 ∧ n = 2 := by omega
    exact rot_run17_2
  · obtain ⟨rfl, rfl⟩ : N = 17 ∧ n = 3 := by omega
    exact rot_run17_3
  · obtain ⟨rfl, rfl⟩ : N = 17 ∧ n = 4 := by omega
    exact rot_run17_4
  · obtain ⟨rfl, rfl⟩ : N = 17 ∧ n = 5 := by omega
    exact rot_run17_5
  · obtain ⟨rfl, rfl⟩ : N = 17 ∧ n = 6 := by omega
    exact rot_run17_6
  · obtain ⟨rfl, rfl⟩ : N = 17 ∧ n = 7 := by omega
    exact rot_run17_7
  · obtain ⟨rfl, rfl⟩ : N = 18 ∧ n = 1 := by omega
    exact rot_run18_1
  · obtain ⟨rfl, rfl⟩ : N = 18 ∧ n = 5 := by omega
    exact rot_run18_5
  · obtain ⟨rfl, rfl⟩ : N = 18 ∧ n = 7 := by omega
    exact rot_run18_7
  · obtain ⟨rfl, rfl⟩ : N = 19 ∧ n = 1 := by omega
    exact rot_run19_1
  · obtain ⟨rfl, rfl⟩ : N = 19 ∧ n = 2 := by omega
    exact rot_run19_2
  · obtain ⟨rfl, rfl⟩ : N = 19 ∧ n = 3 := by omega
    exact rot_run19_3
  · obtain ⟨rfl, rfl⟩ : N = 19 ∧ n = 4 := by omega
    exact rot_run19_4
  · obtain ⟨rfl, rfl⟩ : N = 19 ∧ n = 5 := by omega
    exact rot_run19_5
  · obtain ⟨rfl, rfl⟩ : N = 19 ∧ n = 6 := by omega
    exact rot_run19_6
  · obtain ⟨rfl, rfl⟩ : N = 19 ∧ n = 7 := by omega
    exact rot_run19_7
  · obtain ⟨rfl, rfl⟩ : N = 20 ∧ n = 1 := by omega
    exact rot_run20_1
  · obtain ⟨rfl, rfl⟩ : N = 20 ∧ n = 3 := by omega
    exact rot_run20_3
  · obtain ⟨rfl, rfl⟩ : N = 20 ∧ n = 7 := by omega
    exact rot_run20_7
  · obtain ⟨rfl, rfl⟩ : N = 21 ∧ n = 1 := by omega
    exact rot_run21_1
  · obtain ⟨rfl, rfl⟩ : N = 21 ∧ n = 2 := by omega
    exact rot_run21_2
  · obtain ⟨rfl, rfl⟩ : N = 21 ∧ n = 4 := by omega
    exact rot_run21_4
  · obtain ⟨rfl, rfl⟩ : N = 21 ∧ n = 5 := by omega
    exact rot_run21_5
  · obtain ⟨rfl, rfl⟩ : N = 22 ∧ n = 1 := by omega
    exact rot_run22_1
  · obtain ⟨rfl, rfl⟩ : N = 22 ∧ n = 3 := by omega
    exact rot_run22_3
  · obtain ⟨rfl, rfl⟩ : N = 22 ∧ n = 5 := by omega
    exact rot_run22_5
  · obtain ⟨rfl, rfl⟩ : N = 22 ∧ n = 7 := by omega
    exact rot_run22_7
  · obtain ⟨rfl, rfl⟩ : N = 23 ∧ n = 1 := by omega
    exact rot_run23_1
  · obtain ⟨rfl, rfl⟩ : N = 23 ∧ n = 2 := by omega
    exact rot_run23_2
  · obtain ⟨rfl, rfl⟩ : N = 23 ∧ n = 3 := by omega
    exact rot_run23_3
  · obtain ⟨rfl, rfl⟩ : N = 23 ∧ n = 4 := by omega
    exact rot_run23_4
  · obtain ⟨rfl, rfl⟩ : N = 23 ∧ n = 5 := by omega
    exact rot_run23_5
  · obtain ⟨rfl, rfl⟩ : N = 23 ∧ n = 6 := by omega
    exact rot_run23_6
  · obtain ⟨rfl, rfl⟩ : N = 23 ∧ n = 7 := by omega
    exact rot_run23_7
  · obtain ⟨rfl, rfl⟩ : N = 24 ∧ n = 1 := by omega
    exact rot_run24_1
  · obtain ⟨rfl, rfl⟩ : N = 24 ∧ n = 5 := by omega
    exact rot_run24_5
  · obtain ⟨rfl, rfl⟩ : N = 24 ∧ n = 7 := by omega
    exact rot_run24_7
  · obtain ⟨rfl, rfl⟩ : N = 25 ∧ n = 1 := by omega
    exact rot_run25_1
  · obtain ⟨rfl, rfl⟩ : N = 25 ∧ n = 2 := by omega
    exact rot_run25_2
  · obtain ⟨rfl, rfl⟩ : N = 25 ∧ n = 3 := by omega
    exact rot_run25_3
  · obtain ⟨rfl, rfl⟩ : N = 25 ∧ n = 4 := by omega
    exact rot_run25_4
  · obtain ⟨rfl, rfl⟩ : N = 25 ∧ n = 6 := by omega
    exact rot_run25_6
  · obtain ⟨rfl, rfl⟩ : N = 25 ∧ n = 7 := by omega
    exact rot_run25_7
