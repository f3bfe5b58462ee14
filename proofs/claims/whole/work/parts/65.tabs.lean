/-! what the tables promise -/
noncomputable def tbOK (N : Nat) : Bool :=
  (Nat.ble 1 (cnt N) && (Nat.ble (cnt N) 48 && (Nat.ble (dim N) 9 && (Nat.ble (cus N) 8 && Nat.ble (cyc N) 4)))) &&
  (allN (cnt N) (fun s => (Nat.ble (tC N s + 1) N && Nat.ble (tD N s + 1) N) && ((Nat.ble (tS N s + 1) (cnt N) && (Nat.ble (tR N s + 1) (cnt N) && Nat.ble (tU N s + 1) (cnt N))) && ((Nat.ble (tK N s + 1) (cus N) && Nat.ble (tG N s) (dim N)) &&
    (Nat.beq (tP N ((N - tD N s) % N) (tC N s)) (tS N s + 1) && (Nat.beq (tP N ((tC N s + tD N s) % N) ((N - tC N s) % N)) (tR N s + 1) && Nat.beq (tP N (tC N s) ((tC N s + tD N s) % N)) (tU N s + 1)))))) &&
  (allN (dim N) (fun i => Nat.ble (tF N i + 1) (cnt N)) &&
  (allN N (fun c => allN N fun d => Nat.ble (tP N c d) (cnt N)) &&
  allN (cnt N) (fun s => allN (dim N) fun i => Nat.ble (tX N s i) 2))))
theorem tb_all : allN 26 (fun N => Nat.beq N 0 || tbOK N) = true := by decide +kernel
section S5
variable {h h' : PH} {N : Nat}
theorem tb_ok (h1 : 1 ≤ N) (h2 : N ≤ 25) : tbOK N = true := by
  have := allN_at tb_all N (by omega)
  rw [Bool.or_eq_true] at this
  rcases this with e | e
  · have := Nat.eq_of_beq_eq_true e
    omega
  · exact e
theorem tb_n (h1 : 1 ≤ N) (h2 : N ≤ 25) : 1 ≤ cnt N ∧ cnt N ≤ 48 ∧ dim N ≤ 9 ∧ cus N ≤ 8 ∧ cyc N ≤ 4 := by
  have := tb_ok h1 h2
  unfold tbOK at this
  simp only [Bool.and_eq_true] at this
  obtain ⟨⟨a1, a2, a3, a4, a5⟩, -⟩ := this
  exact ⟨Nat.le_of_ble_eq_true a1, Nat.le_of_ble_eq_true a2, Nat.le_of_ble_eq_true a3, Nat.le_of_ble_eq_true a4, Nat.le_of_ble_eq_true a5⟩
theorem tb_s (h1 : 1 ≤ N) (h2 : N ≤ 25) {s : Nat} (hs : s < cnt N) : tC N s < N ∧ tD N s < N ∧ tS N s < cnt N ∧ tR N s < cnt N ∧ tU N s < cnt N ∧ tK N s < cus N ∧ tG N s ≤ dim N ∧ tP N ((N - tD N s) % N) (tC N s) = tS N s + 1 ∧ tP N ((tC N s + tD N s) % N) ((N - tC N s) % N) = tR N s + 1 ∧ tP N (tC N s) ((tC N s + tD N s) % N) = tU N s + 1 := by
  have := tb_ok h1 h2
  unfold tbOK at this
  simp only [Bool.and_eq_true] at this
  obtain ⟨-, a, -⟩ := this
  have := allN_at a s hs
  simp only [Bool.and_eq_true] at this
  obtain ⟨⟨b1, b2⟩, ⟨b3, b4, b5⟩, ⟨b6, b7⟩, b8, b9, b10⟩ := this
  exact ⟨Nat.le_of_ble_eq_true (n := tC N s + 1) b1, Nat.le_of_ble_eq_true (n := tD N s + 1) b2, Nat.le_of_ble_eq_true (n := tS N s + 1) b3, Nat.le_of_ble_eq_true (n := tR N s + 1) b4, Nat.le_of_ble_eq_true (n := tU N s + 1) b5, Nat.le_of_ble_eq_true (n := tK N s + 1) b6, Nat.le_of_ble_eq_true b7, Nat.eq_of_beq_eq_true b8, Nat.eq_of_beq_eq_true b9, Nat.eq_of_beq_eq_true b10⟩
theorem tb_f (h1 : 1 ≤ N) (h2 : N ≤ 25) {i : Nat} (hi : i < dim N) : tF N i < cnt N := by
  have := tb_ok h1 h2
  unfold tbOK at this
  simp only [Bool.and_eq_true] at this
  exact Nat.le_of_ble_eq_true (n := tF N i + 1) (allN_at this.2.2.1 i hi)
theorem tb_p (h1 : 1 ≤ N) (h2 : N ≤ 25) {c d : Nat} (hc : c < N) (hd : d < N) : tP N c d ≤ cnt N := by
  have := tb_ok h1 h2
  unfold tbOK at this
  simp only [Bool.and_eq_true] at this
  exact Nat.le_of_ble_eq_true (allN_at (allN_at this.2.2.2.1 c hc) d hd)
theorem tb_x (h1 : 1 ≤ N) (h2 : N ≤ 25) {s i : Nat} (hs : s < cnt N) (hi : i < dim N) : tX N s i ≤ 2 := by
  have := tb_ok h1 h2
  unfold tbOK at this
  simp only [Bool.and_eq_true] at this
  exact Nat.le_of_ble_eq_true (allN_at (allN_at this.2.2.2.2 s hs) i hi)
noncomputable def pI (N a b : Nat) : Int32 := Int32.ofNat (dgI 1 (tP N a b) - 1)
noncomputable def gI' (N s : Nat) : Int32 := Int32.ofNat (dgI 1 (tG N s) - 1)
noncomputable def xJ (N s i : Nat) : Int64 := Int64.ofNat (dgJ 1 (tX N s i) - 1)
noncomputable def em (x : Int32) (N : Nat) : Nat := (x.toInt % N).toNat
theorem em_lt (x : Int32) (h1 : 1 ≤ N) : em x N < N := by
  unfold em
  have := Int.emod_lt_of_pos x.toInt (show (0 : Int) < N by omega)
  have := Int.emod_nonneg x.toInt (show (N : Int) ≠ 0 by omega)
  omega
theorem pI_of {a b s : Nat} (e : tP N a b = s + 1) (hs : s < 100) : pI N a b = nI s := by
  unfold pI dgI
  rw [e]
  have : (s + 1 + 4294967296 - 1) % 4294967296 + 1 - 1 = s := by omega
  rw [this]
  rfl
theorem pI_0 {a b : Nat} (e : tP N a b = 0) : pI N a b = -1 := by
  unfold pI dgI
  rw [e]
  decide
theorem pI_cases (h1 : 1 ≤ N) (h2 : N ≤ 25) {a b : Nat} (ha : a < N) (hb : b < N) : (tP N a b = 0 ∧ pI N a b = -1) ∨ ∃ s, s < cnt N ∧ tP N a b = s + 1 ∧ pI N a b = nI s := by
  have h3 := tb_p h1 h2 ha hb
  have h4 := (tb_n h1 h2).2.1
  by_cases c : tP N a b = 0
  · exact Or.inl ⟨c, pI_0 c⟩
  · exact Or.inr ⟨tP N a b - 1, by omega, by omega, pI_of (by omega) (by omega)⟩
theorem dig_pI {a k c d : Nat} (e : dig h a k = dgI 1 (tP N c d)) : gi h a k = pI N c d := by unfold gi pI; rw [e]
theorem dig_gI' {a k s : Nat} (e : dig h a k = dgI 1 (tG N s)) : gi h a k = gI' N s := by unfold gi gI'; rw [e]
theorem dig_xJ {a k s i : Nat} (e : dig h a k = dgJ 1 (tX N s i)) : gj h a k = xJ N s i := by unfold gj xJ; rw [e]
theorem em_nat {k : Nat} (hk : k < 2147483648) : em (nI k) N = k % N := by
  unfold em
  rw [nI_toInt hk]
  omega
theorem em_neg {k : Nat} (h1 : 1 ≤ N) (hk : k < N) (hN : N ≤ 25) : em (-nI k) N = (N - k) % N := by
  unfold em
  rw [sb_negT (by omega)]
  by_cases c : k = 0
  · subst c
    simp
  · have e : (-(k : Int)) % (N : Int) = (N : Int) - k := by
      rw [← Int.add_emod_right, Int.emod_eq_of_lt (by omega) (by omega)]
      omega
    rw [e, Nat.mod_eq_of_lt (by omega)]
    omega
theorem m_over {x : Int32} (h1 : 1 ≤ N) (h2 : N ≤ 25) : T (fX10_over x (nI N)) h (fun v h' => h' = h ∧ v = nI (em x N)) := by
  unfold fX10_over
  rw [T_ifn (nI_ne0 (by omega) (by omega))]
  have e := rem_toInt x (nI N)
  rw [nI_toInt (by omega)] at e
  have b := tmod_bounds (a := x.toInt) (M := N) (by omega)
  have hm : x.toInt.tmod N = if 0 ≤ x.toInt ∨ x.toInt % N = 0 then x.toInt % N else x.toInt % N - N := by
    rw [Int.tmod_eq_emod]
    split
    · rename_i c
      rw [if_pos (by
        rcases c with c | c
        · exact Or.inl c
        · exact Or.inr (Int.emod_eq_zero_of_dvd c))]
      omega
    · rename_i c
      rw [if_neg (by
        intro z
        rcases z with z | z
        · exact c (Or.inl z)
        · exact c (Or.inr (Int.dvd_of_emod_eq_zero z)))]
      simp
  have l1 := Int.emod_lt_of_pos x.toInt (show (0 : Int) < N by omega)
  have l2 := Int.emod_nonneg x.toInt (show (N : Int) ≠ 0 by omega)
  rw [T_ite, T_pp, T_pp]
  refine ⟨fun c => ⟨rfl, ?_⟩, fun c => ⟨rfl, ?_⟩⟩
  · rw [Int32.le_iff_toInt_le, e] at c
    refine Int32.toInt_inj.mp ?_
    rw [e, nI_toInt (by have := em_lt x h1; omega)]
    unfold em
    have c' : 0 ≤ x.toInt.tmod N := c
    split at hm <;> omega
  · rw [Int32.le_iff_toInt_le, e] at c
    refine Int32.toInt_inj.mp ?_
    have c' : ¬ 0 ≤ x.toInt.tmod N := c
    rw [Int32.toInt_add, e, nI_toInt (by omega), nI_toInt (by have := em_lt x h1; omega)]
    unfold em
    rw [Int.bmod_eq_of_le (by omega) (by omega)]
    split at hm <;> omega
end S5
