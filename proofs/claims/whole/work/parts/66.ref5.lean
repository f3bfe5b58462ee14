section S6
variable {h h' : PH} {N : Nat}
theorem m_of (hM : MW h) (h1 : 1 ≤ N) (h2 : N ≤ 25) (h11 : dig h 11 0 = N + 1) (ok : okL N h = true) (c d : Int32) : T (fX10_of 0 c d) h (fun v h' => h' = h ∧ v = pI N (em c N) (em d N)) := by
  unfold fX10_of
  rw [m_chk hM]
  refine T_call (m_levelHere hM h11) fun v ha p => ?_
  obtain ⟨rfl, rfl⟩ := p
  rw [m_gA hM (by decide) (by decide), mr_9]
  refine T_call (m_over h1 h2) fun v hb p => ?_
  obtain ⟨rfl, rfl⟩ := p
  refine T_call (m_over h1 h2) fun v hc p => ?_
  obtain ⟨rfl, rfl⟩ := p
  have l1 := em_lt c h1
  have l2 := em_lt d h1
  have g := dig_pI ((okL_at ok).2.2.2.2.1 _ _ l1 l2)
  simp (disch := first | assumption | decide | omega | (simp only [ml_0, ml_1, ml_2, ml_3, ml_4, ml_5, ml_6, ml_7, ml_8, ml_9, ml_10, ml_11, ml_12, ml_13, ml_14, ml_15, ml_16, ml_17, ml_18, ml_19, ml_20, ml_21, ml_22, ml_23, ml_24, ml_25, ml_26, ml_27, ml_28, ml_29, ml_30, ml_31, ml_32, ml_33, ml_34, ml_35, ml_36]; omega) | (simp only [ml_0, ml_1, ml_2, ml_3, ml_4, ml_5, ml_6, ml_7, ml_8, ml_9, ml_10, ml_11, ml_12, ml_13, ml_14, ml_15, ml_16, ml_17, ml_18, ml_19, ml_20, ml_21, ml_22, ml_23, ml_24, ml_25, ml_26, ml_27, ml_28, ml_29, ml_30, ml_31, ml_32, ml_33, ml_34, ml_35, ml_36]; decide) | (apply MW_wIr (by decide); (repeat' (first | assumption | apply MW_wIr (by decide) | apply MW_wJr (by decide) | apply MW_wI0 rfl | apply MW_wJ0 rfl)); done) | (apply MW_wJr (by decide); (repeat' (first | assumption | apply MW_wIr (by decide) | apply MW_wJr (by decide) | apply MW_wI0 rfl | apply MW_wJ0 rfl)); done) | (apply MW_wI0 rfl; (repeat' (first | assumption | apply MW_wIr (by decide) | apply MW_wJr (by decide) | apply MW_wI0 rfl | apply MW_wJ0 rfl)); done) | (apply MW_wJ0 rfl; (repeat' (first | assumption | apply MW_wIr (by decide) | apply MW_wJr (by decide) | apply MW_wI0 rfl | apply MW_wJ0 rfl)); done)) only [T_fr, T_frJ, li_0, li_1, li_2, li_3, li_4, li_5, li_6, li_7, li_8, li_9, li_10, li_11, li_12, li_13, li_14, li_15, li_16, li_17, li_25, li_30, li_31, li_32, li_33, li_43, li_45, li_48, li_57, li_59, li_60, li_61, li_99, li_110, li_116, li_119, li_120, li_122, li_127, li_165, li_198, li_256, pk_mul, nI_add, m_chk, m_gA, mr_0, mr_1, mr_2, mr_4, mr_9, mr_10, mr_11, mr_12, mr_15, mr_16, mr_17, mr_18, mr_19, mr_20, mr_21, mr_22, mr_23, mr_24, mr_25, mr_27, mr_28, mr_29, mr_30, mr_31, mr_32, mr_33, mr_34, mr_36, mr_37, mr_38, mr_39, mr_40, mr_41, mr_42, mr_43, mr_44, m_gI, m_gJ, m_lI, m_lJ, m_tI, m_tJ, m_sI, m_sJ, T_pp, T_ifn, T_ifp, not_false_eq_true, not_true_eq_false, gi_wI_ne, gi_wJ_ne, gj_wI_ne, gj_wJ_ne, gi_wI_nk, gi_wJ_nk, gj_wI_nk, gj_wJ_nk, g]
  exact ⟨trivial, trivial⟩
theorem m_s (hM : MW h) (h1 : 1 ≤ N) (h2 : N ≤ 25) (h11 : dig h 11 0 = N + 1) (ok : okL N h = true) {s : Nat} (hs : s < cnt N) : T (fX10_s 0 (nI s)) h (fun v h' => h' = h ∧ v = nI (tS N s)) := by
  unfold fX10_s
  have t := tb_s h1 h2 hs
  have n := tb_n h1 h2
  have o := (okL_at ok).2.2.2.2.2.1 s hs
  have gC := dig_gi o.1
  have gD := dig_gi o.2.1
  simp (disch := first | assumption | decide | omega | (simp only [ml_0, ml_1, ml_2, ml_3, ml_4, ml_5, ml_6, ml_7, ml_8, ml_9, ml_10, ml_11, ml_12, ml_13, ml_14, ml_15, ml_16, ml_17, ml_18, ml_19, ml_20, ml_21, ml_22, ml_23, ml_24, ml_25, ml_26, ml_27, ml_28, ml_29, ml_30, ml_31, ml_32, ml_33, ml_34, ml_35, ml_36]; omega) | (simp only [ml_0, ml_1, ml_2, ml_3, ml_4, ml_5, ml_6, ml_7, ml_8, ml_9, ml_10, ml_11, ml_12, ml_13, ml_14, ml_15, ml_16, ml_17, ml_18, ml_19, ml_20, ml_21, ml_22, ml_23, ml_24, ml_25, ml_26, ml_27, ml_28, ml_29, ml_30, ml_31, ml_32, ml_33, ml_34, ml_35, ml_36]; decide) | (apply MW_wIr (by decide); (repeat' (first | assumption | apply MW_wIr (by decide) | apply MW_wJr (by decide) | apply MW_wI0 rfl | apply MW_wJ0 rfl)); done) | (apply MW_wJr (by decide); (repeat' (first | assumption | apply MW_wIr (by decide) | apply MW_wJr (by decide) | apply MW_wI0 rfl | apply MW_wJ0 rfl)); done) | (apply MW_wI0 rfl; (repeat' (first | assumption | apply MW_wIr (by decide) | apply MW_wJr (by decide) | apply MW_wI0 rfl | apply MW_wJ0 rfl)); done) | (apply MW_wJ0 rfl; (repeat' (first | assumption | apply MW_wIr (by decide) | apply MW_wJr (by decide) | apply MW_wI0 rfl | apply MW_wJ0 rfl)); done)) only [T_fr, T_frJ, li_0, li_1, li_2, li_3, li_4, li_5, li_6, li_7, li_8, li_9, li_10, li_11, li_12, li_13, li_14, li_15, li_16, li_17, li_25, li_30, li_31, li_32, li_33, li_43, li_45, li_48, li_57, li_59, li_60, li_61, li_99, li_110, li_116, li_119, li_120, li_122, li_127, li_165, li_198, li_256, pk_mul, nI_add, m_chk, m_gA, mr_0, mr_1, mr_2, mr_4, mr_9, mr_10, mr_11, mr_12, mr_15, mr_16, mr_17, mr_18, mr_19, mr_20, mr_21, mr_22, mr_23, mr_24, mr_25, mr_27, mr_28, mr_29, mr_30, mr_31, mr_32, mr_33, mr_34, mr_36, mr_37, mr_38, mr_39, mr_40, mr_41, mr_42, mr_43, mr_44, m_gI, m_gJ, m_lI, m_lJ, m_tI, m_tJ, m_sI, m_sJ, T_pp, T_ifn, T_ifp, not_false_eq_true, not_true_eq_false, gi_wI_ne, gi_wJ_ne, gj_wI_ne, gj_wJ_ne, gi_wI_nk, gi_wJ_nk, gj_wI_nk, gj_wJ_nk, gC, gD]
  refine T_call (m_of hM h1 h2 h11 ok _ _) fun v ha p => ?_
  obtain ⟨rfl, rfl⟩ := p
  rw [T_pp]
  refine ⟨rfl, ?_⟩
  rw [em_neg h1 t.2.1 h2, em_nat (by omega), Nat.mod_eq_of_lt t.1]
  exact pI_of t.2.2.2.2.2.2.2.1 (by omega)
theorem m_r (hM : MW h) (h1 : 1 ≤ N) (h2 : N ≤ 25) (h11 : dig h 11 0 = N + 1) (ok : okL N h = true) {s : Nat} (hs : s < cnt N) : T (fX10_r 0 (nI s)) h (fun v h' => h' = h ∧ v = nI (tR N s)) := by
  unfold fX10_r
  have t := tb_s h1 h2 hs
  have n := tb_n h1 h2
  have o := (okL_at ok).2.2.2.2.2.1 s hs
  have gC := dig_gi o.1
  have gD := dig_gi o.2.1
  simp (disch := first | assumption | decide | omega | (simp only [ml_0, ml_1, ml_2, ml_3, ml_4, ml_5, ml_6, ml_7, ml_8, ml_9, ml_10, ml_11, ml_12, ml_13, ml_14, ml_15, ml_16, ml_17, ml_18, ml_19, ml_20, ml_21, ml_22, ml_23, ml_24, ml_25, ml_26, ml_27, ml_28, ml_29, ml_30, ml_31, ml_32, ml_33, ml_34, ml_35, ml_36]; omega) | (simp only [ml_0, ml_1, ml_2, ml_3, ml_4, ml_5, ml_6, ml_7, ml_8, ml_9, ml_10, ml_11, ml_12, ml_13, ml_14, ml_15, ml_16, ml_17, ml_18, ml_19, ml_20, ml_21, ml_22, ml_23, ml_24, ml_25, ml_26, ml_27, ml_28, ml_29, ml_30, ml_31, ml_32, ml_33, ml_34, ml_35, ml_36]; decide) | (apply MW_wIr (by decide); (repeat' (first | assumption | apply MW_wIr (by decide) | apply MW_wJr (by decide) | apply MW_wI0 rfl | apply MW_wJ0 rfl)); done) | (apply MW_wJr (by decide); (repeat' (first | assumption | apply MW_wIr (by decide) | apply MW_wJr (by decide) | apply MW_wI0 rfl | apply MW_wJ0 rfl)); done) | (apply MW_wI0 rfl; (repeat' (first | assumption | apply MW_wIr (by decide) | apply MW_wJr (by decide) | apply MW_wI0 rfl | apply MW_wJ0 rfl)); done) | (apply MW_wJ0 rfl; (repeat' (first | assumption | apply MW_wIr (by decide) | apply MW_wJr (by decide) | apply MW_wI0 rfl | apply MW_wJ0 rfl)); done)) only [T_fr, T_frJ, li_0, li_1, li_2, li_3, li_4, li_5, li_6, li_7, li_8, li_9, li_10, li_11, li_12, li_13, li_14, li_15, li_16, li_17, li_25, li_30, li_31, li_32, li_33, li_43, li_45, li_48, li_57, li_59, li_60, li_61, li_99, li_110, li_116, li_119, li_120, li_122, li_127, li_165, li_198, li_256, pk_mul, nI_add, m_chk, m_gA, mr_0, mr_1, mr_2, mr_4, mr_9, mr_10, mr_11, mr_12, mr_15, mr_16, mr_17, mr_18, mr_19, mr_20, mr_21, mr_22, mr_23, mr_24, mr_25, mr_27, mr_28, mr_29, mr_30, mr_31, mr_32, mr_33, mr_34, mr_36, mr_37, mr_38, mr_39, mr_40, mr_41, mr_42, mr_43, mr_44, m_gI, m_gJ, m_lI, m_lJ, m_tI, m_tJ, m_sI, m_sJ, T_pp, T_ifn, T_ifp, not_false_eq_true, not_true_eq_false, gi_wI_ne, gi_wJ_ne, gj_wI_ne, gj_wJ_ne, gi_wI_nk, gi_wJ_nk, gj_wI_nk, gj_wJ_nk, gC, gD]
  refine T_call (m_of hM h1 h2 h11 ok _ _) fun v ha p => ?_
  obtain ⟨rfl, rfl⟩ := p
  rw [T_pp]
  refine ⟨rfl, ?_⟩
  rw [em_neg h1 t.1 h2, em_nat (by omega)]
  exact pI_of t.2.2.2.2.2.2.2.2.1 (by omega)
theorem m_u (hM : MW h) (h1 : 1 ≤ N) (h2 : N ≤ 25) (h11 : dig h 11 0 = N + 1) (ok : okL N h = true) {s : Nat} (hs : s < cnt N) : T (fX10_u 0 (nI s)) h (fun v h' => h' = h ∧ v = nI (tU N s)) := by
  unfold fX10_u
  have t := tb_s h1 h2 hs
  have n := tb_n h1 h2
  have o := (okL_at ok).2.2.2.2.2.1 s hs
  have gC := dig_gi o.1
  have gD := dig_gi o.2.1
  simp (disch := first | assumption | decide | omega | (simp only [ml_0, ml_1, ml_2, ml_3, ml_4, ml_5, ml_6, ml_7, ml_8, ml_9, ml_10, ml_11, ml_12, ml_13, ml_14, ml_15, ml_16, ml_17, ml_18, ml_19, ml_20, ml_21, ml_22, ml_23, ml_24, ml_25, ml_26, ml_27, ml_28, ml_29, ml_30, ml_31, ml_32, ml_33, ml_34, ml_35, ml_36]; omega) | (simp only [ml_0, ml_1, ml_2, ml_3, ml_4, ml_5, ml_6, ml_7, ml_8, ml_9, ml_10, ml_11, ml_12, ml_13, ml_14, ml_15, ml_16, ml_17, ml_18, ml_19, ml_20, ml_21, ml_22, ml_23, ml_24, ml_25, ml_26, ml_27, ml_28, ml_29, ml_30, ml_31, ml_32, ml_33, ml_34, ml_35, ml_36]; decide) | (apply MW_wIr (by decide); (repeat' (first | assumption | apply MW_wIr (by decide) | apply MW_wJr (by decide) | apply MW_wI0 rfl | apply MW_wJ0 rfl)); done) | (apply MW_wJr (by decide); (repeat' (first | assumption | apply MW_wIr (by decide) | apply MW_wJr (by decide) | apply MW_wI0 rfl | apply MW_wJ0 rfl)); done) | (apply MW_wI0 rfl; (repeat' (first | assumption | apply MW_wIr (by decide) | apply MW_wJr (by decide) | apply MW_wI0 rfl | apply MW_wJ0 rfl)); done) | (apply MW_wJ0 rfl; (repeat' (first | assumption | apply MW_wIr (by decide) | apply MW_wJr (by decide) | apply MW_wI0 rfl | apply MW_wJ0 rfl)); done)) only [T_fr, T_frJ, li_0, li_1, li_2, li_3, li_4, li_5, li_6, li_7, li_8, li_9, li_10, li_11, li_12, li_13, li_14, li_15, li_16, li_17, li_25, li_30, li_31, li_32, li_33, li_43, li_45, li_48, li_57, li_59, li_60, li_61, li_99, li_110, li_116, li_119, li_120, li_122, li_127, li_165, li_198, li_256, pk_mul, nI_add, m_chk, m_gA, mr_0, mr_1, mr_2, mr_4, mr_9, mr_10, mr_11, mr_12, mr_15, mr_16, mr_17, mr_18, mr_19, mr_20, mr_21, mr_22, mr_23, mr_24, mr_25, mr_27, mr_28, mr_29, mr_30, mr_31, mr_32, mr_33, mr_34, mr_36, mr_37, mr_38, mr_39, mr_40, mr_41, mr_42, mr_43, mr_44, m_gI, m_gJ, m_lI, m_lJ, m_tI, m_tJ, m_sI, m_sJ, T_pp, T_ifn, T_ifp, not_false_eq_true, not_true_eq_false, gi_wI_ne, gi_wJ_ne, gj_wI_ne, gj_wJ_ne, gi_wI_nk, gi_wJ_nk, gj_wI_nk, gj_wJ_nk, gC, gD]
  refine T_call (m_of hM h1 h2 h11 ok _ _) fun v ha p => ?_
  obtain ⟨rfl, rfl⟩ := p
  rw [T_pp]
  refine ⟨rfl, ?_⟩
  rw [em_nat (by omega), em_nat (by omega), Nat.mod_eq_of_lt t.1]
  exact pI_of t.2.2.2.2.2.2.2.2.2 (by omega)
/-! symbols, symbol, pair, fraction, sum -/
noncomputable def q_symbols (st : St) : Int32 × St := (nI (cnt st.1.1), st)
theorem M_symbols {st : St} (q : MR h st) : T (fX10_symbols 0) h (fun v h' => v = (q_symbols st).1 ∧ MR h' (q_symbols st).2) := by
  unfold fX10_symbols
  have hM := q.1
  rw [m_chk hM]
  refine T_call (M_lays q) fun _ h1 p => ?_
  obtain ⟨q1, ok, f⟩ := p
  have hM1 := q1.1
  have g8 := dig_gi (okL_at ok).2.1
  simp (disch := first | assumption | decide | omega | (simp only [ml_0, ml_1, ml_2, ml_3, ml_4, ml_5, ml_6, ml_7, ml_8, ml_9, ml_10, ml_11, ml_12, ml_13, ml_14, ml_15, ml_16, ml_17, ml_18, ml_19, ml_20, ml_21, ml_22, ml_23, ml_24, ml_25, ml_26, ml_27, ml_28, ml_29, ml_30, ml_31, ml_32, ml_33, ml_34, ml_35, ml_36]; omega) | (simp only [ml_0, ml_1, ml_2, ml_3, ml_4, ml_5, ml_6, ml_7, ml_8, ml_9, ml_10, ml_11, ml_12, ml_13, ml_14, ml_15, ml_16, ml_17, ml_18, ml_19, ml_20, ml_21, ml_22, ml_23, ml_24, ml_25, ml_26, ml_27, ml_28, ml_29, ml_30, ml_31, ml_32, ml_33, ml_34, ml_35, ml_36]; decide) | (apply MW_wIr (by decide); (repeat' (first | assumption | apply MW_wIr (by decide) | apply MW_wJr (by decide) | apply MW_wI0 rfl | apply MW_wJ0 rfl)); done) | (apply MW_wJr (by decide); (repeat' (first | assumption | apply MW_wIr (by decide) | apply MW_wJr (by decide) | apply MW_wI0 rfl | apply MW_wJ0 rfl)); done) | (apply MW_wI0 rfl; (repeat' (first | assumption | apply MW_wIr (by decide) | apply MW_wJr (by decide) | apply MW_wI0 rfl | apply MW_wJ0 rfl)); done) | (apply MW_wJ0 rfl; (repeat' (first | assumption | apply MW_wIr (by decide) | apply MW_wJr (by decide) | apply MW_wI0 rfl | apply MW_wJ0 rfl)); done)) only [T_fr, T_frJ, li_0, li_1, li_2, li_3, li_4, li_5, li_6, li_7, li_8, li_9, li_10, li_11, li_12, li_13, li_14, li_15, li_16, li_17, li_25, li_30, li_31, li_32, li_33, li_43, li_45, li_48, li_57, li_59, li_60, li_61, li_99, li_110, li_116, li_119, li_120, li_122, li_127, li_165, li_198, li_256, pk_mul, nI_add, m_chk, m_gA, mr_0, mr_1, mr_2, mr_4, mr_9, mr_10, mr_11, mr_12, mr_15, mr_16, mr_17, mr_18, mr_19, mr_20, mr_21, mr_22, mr_23, mr_24, mr_25, mr_27, mr_28, mr_29, mr_30, mr_31, mr_32, mr_33, mr_34, mr_36, mr_37, mr_38, mr_39, mr_40, mr_41, mr_42, mr_43, mr_44, m_gI, m_gJ, m_lI, m_lJ, m_tI, m_tJ, m_sI, m_sJ, T_pp, T_ifn, T_ifp, not_false_eq_true, not_true_eq_false, gi_wI_ne, gi_wJ_ne, gj_wI_ne, gj_wJ_ne, gi_wI_nk, gi_wJ_nk, gj_wI_nk, gj_wJ_nk, g8]
  exact ⟨rfl, q1⟩
theorem rg_nat {x : Int32} {a b : Int} (q : rg x a b) (ha : 0 ≤ a) (hb : b < 2147483648) : ∃ k : Nat, x = nI k ∧ ti (nI k) = k ∧ a ≤ (k : Int) ∧ (k : Int) ≤ b := by
  obtain ⟨e, e1, e2⟩ := rg_nI q ha
  refine ⟨ti x, e, ?_, e1, e2⟩
  rw [← e]
theorem sub1_toInt {n : Nat} (hn : n < 1000) : ((nI n - 1).toInt64).toInt = (n : Int) - 1 := by
  rw [Int32.toInt_toInt64, li_1, pk_sub_toInt (by omega) (by decide)]
  rfl
theorem M_isSymbol {st : St} (s : Int32) (q : MR h st) : T (fX10_isSymbol 0 s) h (fun v h' => v = (if rg s 0 ((cnt st.1.1 : Int) - 1) then 1 else 0) ∧ MR h' st ∧ okL st.1.1 h' = true ∧ Fr SL h h') := by
  unfold fX10_isSymbol
  have hM := q.1
  have n := tb_n q.2.1.1 q.2.1.2.1
  rw [m_chk hM]
  refine T_call (M_lays q) fun _ h1 p => ?_
  obtain ⟨q1, ok, f⟩ := p
  have hM1 := q1.1
  rw [m_gI hM1 (by decide), dig_gi (okL_at ok).2.1]
  refine T_call (m_inR (a := 0) (b := (cnt st.1.1 : Int) - 1) (by decide) (sub1_toInt (by omega))) fun v h2 p => ?_
  obtain ⟨rfl, rfl⟩ := p
  rw [t_pz (by split <;> simp), T_pp]
  exact ⟨rfl, q1, ok, f⟩
noncomputable def sy (N s w : Nat) : Int32 := if w = 0 then nI (tC N s) else if w = 1 then nI (tD N s) else if w = 2 then nI (tS N s) else if w = 3 then nI (tR N s) else if w = 4 then nI (tU N s) else if w = 5 then nI (tK N s) else gI' N s
noncomputable def q_symbol (s w : Int32) (st : St) : Int32 × St := if rg s 0 ((cnt st.1.1 : Int) - 1) ∧ rg w 0 6 then (sy st.1.1 (ti s) (ti w), st) else (-2, rf2 st)
theorem m_symbolNow (hM : MW h) (h1 : 1 ≤ N) (h2 : N ≤ 25) (h11 : dig h 11 0 = N + 1) (ok : okL N h = true) {s w : Nat} (hs : s < cnt N) (hw : w < 7) : T (fX10_symbolNow 0 (nI s) (nI w)) h (fun v h' => h' = h ∧ v = sy N s w) := by
  unfold fX10_symbolNow
  have o := (okL_at ok).2.2.2.2.2.1 s hs
  have gC := dig_gi o.1
  have gD := dig_gi o.2.1
  have gK := dig_gi o.2.2.1
  have gG := dig_gI' o.2.2.2
  have n := tb_n h1 h2
  rw [m_chk hM]
  rcases (show w = 0 ∨ w = 1 ∨ w = 2 ∨ w = 3 ∨ w = 4 ∨ w = 5 ∨ w = 6 by omega) with rfl | rfl | rfl | rfl | rfl | rfl | rfl
  · rw [T_ifp (by decide)]
    simp (disch := first | assumption | decide | omega | (simp only [ml_0, ml_1, ml_2, ml_3, ml_4, ml_5, ml_6, ml_7, ml_8, ml_9, ml_10, ml_11, ml_12, ml_13, ml_14, ml_15, ml_16, ml_17, ml_18, ml_19, ml_20, ml_21, ml_22, ml_23, ml_24, ml_25, ml_26, ml_27, ml_28, ml_29, ml_30, ml_31, ml_32, ml_33, ml_34, ml_35, ml_36]; omega) | (simp only [ml_0, ml_1, ml_2, ml_3, ml_4, ml_5, ml_6, ml_7, ml_8, ml_9, ml_10, ml_11, ml_12, ml_13, ml_14, ml_15, ml_16, ml_17, ml_18, ml_19, ml_20, ml_21, ml_22, ml_23, ml_24, ml_25, ml_26, ml_27, ml_28, ml_29, ml_30, ml_31, ml_32, ml_33, ml_34, ml_35, ml_36]; decide) | (apply MW_wIr (by decide); (repeat' (first | assumption | apply MW_wIr (by decide) | apply MW_wJr (by decide) | apply MW_wI0 rfl | apply MW_wJ0 rfl)); done) | (apply MW_wJr (by decide); (repeat' (first | assumption | apply MW_wIr (by decide) | apply MW_wJr (by decide) | apply MW_wI0 rfl | apply MW_wJ0 rfl)); done) | (apply MW_wI0 rfl; (repeat' (first | assumption | apply MW_wIr (by decide) | apply MW_wJr (by decide) | apply MW_wI0 rfl | apply MW_wJ0 rfl)); done) | (apply MW_wJ0 rfl; (repeat' (first | assumption | apply MW_wIr (by decide) | apply MW_wJr (by decide) | apply MW_wI0 rfl | apply MW_wJ0 rfl)); done)) only [T_fr, T_frJ, li_0, li_1, li_2, li_3, li_4, li_5, li_6, li_7, li_8, li_9, li_10, li_11, li_12, li_13, li_14, li_15, li_16, li_17, li_25, li_30, li_31, li_32, li_33, li_43, li_45, li_48, li_57, li_59, li_60, li_61, li_99, li_110, li_116, li_119, li_120, li_122, li_127, li_165, li_198, li_256, pk_mul, nI_add, m_chk, m_gA, mr_0, mr_1, mr_2, mr_4, mr_9, mr_10, mr_11, mr_12, mr_15, mr_16, mr_17, mr_18, mr_19, mr_20, mr_21, mr_22, mr_23, mr_24, mr_25, mr_27, mr_28, mr_29, mr_30, mr_31, mr_32, mr_33, mr_34, mr_36, mr_37, mr_38, mr_39, mr_40, mr_41, mr_42, mr_43, mr_44, m_gI, m_gJ, m_lI, m_lJ, m_tI, m_tJ, m_sI, m_sJ, T_pp, T_ifn, T_ifp, not_false_eq_true, not_true_eq_false, gi_wI_ne, gi_wJ_ne, gj_wI_ne, gj_wJ_ne, gi_wI_nk, gi_wJ_nk, gj_wI_nk, gj_wJ_nk, gC]
    exact ⟨trivial, rfl⟩
  · rw [T_ifn (by decide), T_ifp (by decide)]
    simp (disch := first | assumption | decide | omega | (simp only [ml_0, ml_1, ml_2, ml_3, ml_4, ml_5, ml_6, ml_7, ml_8, ml_9, ml_10, ml_11, ml_12, ml_13, ml_14, ml_15, ml_16, ml_17, ml_18, ml_19, ml_20, ml_21, ml_22, ml_23, ml_24, ml_25, ml_26, ml_27, ml_28, ml_29, ml_30, ml_31, ml_32, ml_33, ml_34, ml_35, ml_36]; omega) | (simp only [ml_0, ml_1, ml_2, ml_3, ml_4, ml_5, ml_6, ml_7, ml_8, ml_9, ml_10, ml_11, ml_12, ml_13, ml_14, ml_15, ml_16, ml_17, ml_18, ml_19, ml_20, ml_21, ml_22, ml_23, ml_24, ml_25, ml_26, ml_27, ml_28, ml_29, ml_30, ml_31, ml_32, ml_33, ml_34, ml_35, ml_36]; decide) | (apply MW_wIr (by decide); (repeat' (first | assumption | apply MW_wIr (by decide) | apply MW_wJr (by decide) | apply MW_wI0 rfl | apply MW_wJ0 rfl)); done) | (apply MW_wJr (by decide); (repeat' (first | assumption | apply MW_wIr (by decide) | apply MW_wJr (by decide) | apply MW_wI0 rfl | apply MW_wJ0 rfl)); done) | (apply MW_wI0 rfl; (repeat' (first | assumption | apply MW_wIr (by decide) | apply MW_wJr (by decide) | apply MW_wI0 rfl | apply MW_wJ0 rfl)); done) | (apply MW_wJ0 rfl; (repeat' (first | assumption | apply MW_wIr (by decide) | apply MW_wJr (by decide) | apply MW_wI0 rfl | apply MW_wJ0 rfl)); done)) only [T_fr, T_frJ, li_0, li_1, li_2, li_3, li_4, li_5, li_6, li_7, li_8, li_9, li_10, li_11, li_12, li_13, li_14, li_15, li_16, li_17, li_25, li_30, li_31, li_32, li_33, li_43, li_45, li_48, li_57, li_59, li_60, li_61, li_99, li_110, li_116, li_119, li_120, li_122, li_127, li_165, li_198, li_256, pk_mul, nI_add, m_chk, m_gA, mr_0, mr_1, mr_2, mr_4, mr_9, mr_10, mr_11, mr_12, mr_15, mr_16, mr_17, mr_18, mr_19, mr_20, mr_21, mr_22, mr_23, mr_24, mr_25, mr_27, mr_28, mr_29, mr_30, mr_31, mr_32, mr_33, mr_34, mr_36, mr_37, mr_38, mr_39, mr_40, mr_41, mr_42, mr_43, mr_44, m_gI, m_gJ, m_lI, m_lJ, m_tI, m_tJ, m_sI, m_sJ, T_pp, T_ifn, T_ifp, not_false_eq_true, not_true_eq_false, gi_wI_ne, gi_wJ_ne, gj_wI_ne, gj_wJ_ne, gi_wI_nk, gi_wJ_nk, gj_wI_nk, gj_wJ_nk, gD]
    exact ⟨trivial, rfl⟩
  · rw [T_ifn (by decide), T_ifn (by decide), T_ifp (by decide)]
    refine T_call (m_s hM h1 h2 h11 ok hs) fun v ha p => ?_
    rw [T_pp]
    exact p
  · rw [T_ifn (by decide), T_ifn (by decide), T_ifn (by decide), T_ifp (by decide)]
    refine T_call (m_r hM h1 h2 h11 ok hs) fun v ha p => ?_
    rw [T_pp]
    exact p
  · rw [T_ifn (by decide), T_ifn (by decide), T_ifn (by decide), T_ifn (by decide), T_ifp (by decide)]
    refine T_call (m_u hM h1 h2 h11 ok hs) fun v ha p => ?_
    rw [T_pp]
    exact p
  · rw [T_ifn (by decide), T_ifn (by decide), T_ifn (by decide), T_ifn (by decide), T_ifn (by decide), T_ifp (by decide)]
    simp (disch := first | assumption | decide | omega | (simp only [ml_0, ml_1, ml_2, ml_3, ml_4, ml_5, ml_6, ml_7, ml_8, ml_9, ml_10, ml_11, ml_12, ml_13, ml_14, ml_15, ml_16, ml_17, ml_18, ml_19, ml_20, ml_21, ml_22, ml_23, ml_24, ml_25, ml_26, ml_27, ml_28, ml_29, ml_30, ml_31, ml_32, ml_33, ml_34, ml_35, ml_36]; omega) | (simp only [ml_0, ml_1, ml_2, ml_3, ml_4, ml_5, ml_6, ml_7, ml_8, ml_9, ml_10, ml_11, ml_12, ml_13, ml_14, ml_15, ml_16, ml_17, ml_18, ml_19, ml_20, ml_21, ml_22, ml_23, ml_24, ml_25, ml_26, ml_27, ml_28, ml_29, ml_30, ml_31, ml_32, ml_33, ml_34, ml_35, ml_36]; decide) | (apply MW_wIr (by decide); (repeat' (first | assumption | apply MW_wIr (by decide) | apply MW_wJr (by decide) | apply MW_wI0 rfl | apply MW_wJ0 rfl)); done) | (apply MW_wJr (by decide); (repeat' (first | assumption | apply MW_wIr (by decide) | apply MW_wJr (by decide) | apply MW_wI0 rfl | apply MW_wJ0 rfl)); done) | (apply MW_wI0 rfl; (repeat' (first | assumption | apply MW_wIr (by decide) | apply MW_wJr (by decide) | apply MW_wI0 rfl | apply MW_wJ0 rfl)); done) | (apply MW_wJ0 rfl; (repeat' (first | assumption | apply MW_wIr (by decide) | apply MW_wJr (by decide) | apply MW_wI0 rfl | apply MW_wJ0 rfl)); done)) only [T_fr, T_frJ, li_0, li_1, li_2, li_3, li_4, li_5, li_6, li_7, li_8, li_9, li_10, li_11, li_12, li_13, li_14, li_15, li_16, li_17, li_25, li_30, li_31, li_32, li_33, li_43, li_45, li_48, li_57, li_59, li_60, li_61, li_99, li_110, li_116, li_119, li_120, li_122, li_127, li_165, li_198, li_256, pk_mul, nI_add, m_chk, m_gA, mr_0, mr_1, mr_2, mr_4, mr_9, mr_10, mr_11, mr_12, mr_15, mr_16, mr_17, mr_18, mr_19, mr_20, mr_21, mr_22, mr_23, mr_24, mr_25, mr_27, mr_28, mr_29, mr_30, mr_31, mr_32, mr_33, mr_34, mr_36, mr_37, mr_38, mr_39, mr_40, mr_41, mr_42, mr_43, mr_44, m_gI, m_gJ, m_lI, m_lJ, m_tI, m_tJ, m_sI, m_sJ, T_pp, T_ifn, T_ifp, not_false_eq_true, not_true_eq_false, gi_wI_ne, gi_wJ_ne, gj_wI_ne, gj_wJ_ne, gi_wI_nk, gi_wJ_nk, gj_wI_nk, gj_wJ_nk, gK]
    exact ⟨trivial, rfl⟩
  · rw [T_ifn (by decide), T_ifn (by decide), T_ifn (by decide), T_ifn (by decide), T_ifn (by decide), T_ifn (by decide)]
    simp (disch := first | assumption | decide | omega | (simp only [ml_0, ml_1, ml_2, ml_3, ml_4, ml_5, ml_6, ml_7, ml_8, ml_9, ml_10, ml_11, ml_12, ml_13, ml_14, ml_15, ml_16, ml_17, ml_18, ml_19, ml_20, ml_21, ml_22, ml_23, ml_24, ml_25, ml_26, ml_27, ml_28, ml_29, ml_30, ml_31, ml_32, ml_33, ml_34, ml_35, ml_36]; omega) | (simp only [ml_0, ml_1, ml_2, ml_3, ml_4, ml_5, ml_6, ml_7, ml_8, ml_9, ml_10, ml_11, ml_12, ml_13, ml_14, ml_15, ml_16, ml_17, ml_18, ml_19, ml_20, ml_21, ml_22, ml_23, ml_24, ml_25, ml_26, ml_27, ml_28, ml_29, ml_30, ml_31, ml_32, ml_33, ml_34, ml_35, ml_36]; decide) | (apply MW_wIr (by decide); (repeat' (first | assumption | apply MW_wIr (by decide) | apply MW_wJr (by decide) | apply MW_wI0 rfl | apply MW_wJ0 rfl)); done) | (apply MW_wJr (by decide); (repeat' (first | assumption | apply MW_wIr (by decide) | apply MW_wJr (by decide) | apply MW_wI0 rfl | apply MW_wJ0 rfl)); done) | (apply MW_wI0 rfl; (repeat' (first | assumption | apply MW_wIr (by decide) | apply MW_wJr (by decide) | apply MW_wI0 rfl | apply MW_wJ0 rfl)); done) | (apply MW_wJ0 rfl; (repeat' (first | assumption | apply MW_wIr (by decide) | apply MW_wJr (by decide) | apply MW_wI0 rfl | apply MW_wJ0 rfl)); done)) only [T_fr, T_frJ, li_0, li_1, li_2, li_3, li_4, li_5, li_6, li_7, li_8, li_9, li_10, li_11, li_12, li_13, li_14, li_15, li_16, li_17, li_25, li_30, li_31, li_32, li_33, li_43, li_45, li_48, li_57, li_59, li_60, li_61, li_99, li_110, li_116, li_119, li_120, li_122, li_127, li_165, li_198, li_256, pk_mul, nI_add, m_chk, m_gA, mr_0, mr_1, mr_2, mr_4, mr_9, mr_10, mr_11, mr_12, mr_15, mr_16, mr_17, mr_18, mr_19, mr_20, mr_21, mr_22, mr_23, mr_24, mr_25, mr_27, mr_28, mr_29, mr_30, mr_31, mr_32, mr_33, mr_34, mr_36, mr_37, mr_38, mr_39, mr_40, mr_41, mr_42, mr_43, mr_44, m_gI, m_gJ, m_lI, m_lJ, m_tI, m_tJ, m_sI, m_sJ, T_pp, T_ifn, T_ifp, not_false_eq_true, not_true_eq_false, gi_wI_ne, gi_wJ_ne, gj_wI_ne, gj_wJ_ne, gi_wI_nk, gi_wJ_nk, gj_wI_nk, gj_wJ_nk, gG]
    exact ⟨trivial, rfl⟩
theorem M_symbol {st : St} (s w : Int32) (q : MR h st) : T (fX10_symbol 0 s w) h (fun v h' => v = (q_symbol s w st).1 ∧ MR h' (q_symbol s w st).2) := by
  unfold fX10_symbol
  have hM := q.1
  have n := tb_n q.2.1.1 q.2.1.2.1
  rw [m_chk hM]
  refine T_call (M_isSymbol s q) fun v h1 p => ?_
  obtain ⟨rfl, q1, ok, f⟩ := p
  unfold q_symbol
  by_cases c : rg s 0 ((cnt st.1.1 : Int) - 1)
  · rw [if_pos c, T_ifn (by decide)]
    obtain ⟨e, e1, e2⟩ := rg_nI c (by decide)
    refine T_call (m_inR (a := 0) (b := 6) (by decide) (by decide)) fun v h2 p => ?_
    obtain ⟨rfl, rfl⟩ := p
    by_cases c2 : rg w 0 6
    · rw [if_pos c2, T_ifn (by decide), if_pos ⟨c, c2⟩]
      obtain ⟨g, g1, g2⟩ := rg_nI c2 (by decide)
      have := m_symbolNow q1.1 q1.2.1.1 q1.2.1.2.1 q1.2.2.1.1 ok (s := ti s) (w := ti w) (by omega) (by omega)
      rw [← e, ← g] at this
      refine T_call this fun v h3 p => ?_
      obtain ⟨rfl, rfl⟩ := p
      rw [T_pp]
      exact ⟨rfl, q1⟩
    · rw [if_neg c2, T_ifp rfl, if_neg (fun z => c2 z.2)]
      refine T_call (M_ref2 q1) fun v h3 p => ?_
      rw [T_pp]
      exact p
  · rw [if_neg c, T_ifp rfl, if_neg (fun z => c z.1)]
    refine T_call (M_ref2 q1) fun v h3 p => ?_
    rw [T_pp]
    exact p
noncomputable def q_pair (c d : Int32) (st : St) : Int32 × St := if rg c (-9999) 9999 ∧ rg d (-9999) 9999 then (pI st.1.1 (em c st.1.1) (em d st.1.1), st) else (-2, rf2 st)
theorem M_pair {st : St} (c d : Int32) (q : MR h st) : T (fX10_pair 0 c d) h (fun v h' => v = (q_pair c d st).1 ∧ MR h' (q_pair c d st).2) := by
  unfold fX10_pair
  have hM := q.1
  rw [m_chk hM]
  refine T_call (m_inR (a := -9999) (b := 9999) (by decide) (by decide)) fun v h1 p => ?_
  obtain ⟨rfl, rfl⟩ := p
  unfold q_pair
  by_cases c1 : rg c (-9999) 9999
  · rw [if_pos c1, T_ifn (by decide)]
    refine T_call (m_inR (a := -9999) (b := 9999) (by decide) (by decide)) fun v h2 p => ?_
    obtain ⟨rfl, rfl⟩ := p
    by_cases c2 : rg d (-9999) 9999
    · rw [if_pos c2, T_ifn (by decide), if_pos ⟨c1, c2⟩]
      refine T_call (M_lays q) fun _ h3 p => ?_
      obtain ⟨q1, ok, f⟩ := p
      refine T_call (m_of q1.1 q1.2.1.1 q1.2.1.2.1 q1.2.2.1.1 ok c d) fun v h4 p => ?_
      obtain ⟨rfl, rfl⟩ := p
      rw [T_pp]
      exact ⟨rfl, q1⟩
    · rw [if_neg c2, T_ifp rfl, if_neg (fun z => c2 z.2)]
      refine T_call (M_ref2 q) fun v h3 p => ?_
      rw [T_pp]
      exact p
  · rw [if_neg c1, T_ifp rfl, if_neg (fun z => c1 z.1)]
    refine T_call (M_ref2 q) fun v h3 p => ?_
    rw [T_pp]
    exact p
noncomputable def q_fraction (s i w : Int32) (st : St) : Int64 × St := if rg s 0 ((cnt st.1.1 : Int) - 1) ∧ rg i 0 ((dim st.1.1 : Int) - 1) ∧ rg w 0 1 then (if ti w = 0 then xJ st.1.1 (ti s) (ti i) else 1, st) else (-2, rf2 st)
theorem M_fraction {st : St} (s i w : Int32) (q : MR h st) : T (fX10_fraction 0 s i w) h (fun v h' => v = (q_fraction s i w st).1 ∧ MR h' (q_fraction s i w st).2) := by
  unfold fX10_fraction
  have hM := q.1
  have n := tb_n q.2.1.1 q.2.1.2.1
  rw [m_chk hM]
  refine T_call (M_isSymbol s q) fun v h1 p => ?_
  obtain ⟨rfl, q1, ok, f⟩ := p
  have hM1 := q1.1
  unfold q_fraction
  by_cases c : rg s 0 ((cnt st.1.1 : Int) - 1)
  · rw [if_pos c, T_ifn (by decide)]
    obtain ⟨s, rfl, e, e1, e2⟩ := rg_nat c (by decide) (by omega)
    rw [m_gI hM1 (by decide), dig_gi (okL_at ok).2.2.2.1]
    refine T_call (m_inR (a := 0) (b := (dim st.1.1 : Int) - 1) (by decide) (sub1_toInt (by omega))) fun v h2 p => ?_
    obtain ⟨rfl, rfl⟩ := p
    by_cases c2 : rg i 0 ((dim st.1.1 : Int) - 1)
    · rw [if_pos c2, T_ifn (by decide)]
      obtain ⟨i, rfl, g, g1, g2⟩ := rg_nat c2 (by decide) (by omega)
      refine T_call (m_inR (a := 0) (b := 1) (by decide) (by decide)) fun v h3 p => ?_
      obtain ⟨rfl, rfl⟩ := p
      by_cases c3 : rg w 0 1
      · have cc := And.intro c (And.intro c2 c3)
        rw [if_pos c3, T_ifn (by decide), if_pos cc]
        obtain ⟨w, rfl, k, k1, k2⟩ := rg_nat c3 (by decide) (by decide)
        have hs : s < cnt st.1.1 := by omega
        have hi : i < dim st.1.1 := by omega
        have o := (okL_at ok).2.2.2.2.2.2.2 s i hs hi
        have gX := dig_xJ o.1
        have g1' := dig_gl (n := 1) o.2
        rw [e, g, k]
        by_cases c4 : w = 0
        · have cw : nI w = 0 := by rw [c4]; rfl
          rw [if_pos c4, T_ifp cw]
          simp (disch := first | assumption | decide | omega | (simp only [ml_0, ml_1, ml_2, ml_3, ml_4, ml_5, ml_6, ml_7, ml_8, ml_9, ml_10, ml_11, ml_12, ml_13, ml_14, ml_15, ml_16, ml_17, ml_18, ml_19, ml_20, ml_21, ml_22, ml_23, ml_24, ml_25, ml_26, ml_27, ml_28, ml_29, ml_30, ml_31, ml_32, ml_33, ml_34, ml_35, ml_36]; omega) | (simp only [ml_0, ml_1, ml_2, ml_3, ml_4, ml_5, ml_6, ml_7, ml_8, ml_9, ml_10, ml_11, ml_12, ml_13, ml_14, ml_15, ml_16, ml_17, ml_18, ml_19, ml_20, ml_21, ml_22, ml_23, ml_24, ml_25, ml_26, ml_27, ml_28, ml_29, ml_30, ml_31, ml_32, ml_33, ml_34, ml_35, ml_36]; decide) | (apply MW_wIr (by decide); (repeat' (first | assumption | apply MW_wIr (by decide) | apply MW_wJr (by decide) | apply MW_wI0 rfl | apply MW_wJ0 rfl)); done) | (apply MW_wJr (by decide); (repeat' (first | assumption | apply MW_wIr (by decide) | apply MW_wJr (by decide) | apply MW_wI0 rfl | apply MW_wJ0 rfl)); done) | (apply MW_wI0 rfl; (repeat' (first | assumption | apply MW_wIr (by decide) | apply MW_wJr (by decide) | apply MW_wI0 rfl | apply MW_wJ0 rfl)); done) | (apply MW_wJ0 rfl; (repeat' (first | assumption | apply MW_wIr (by decide) | apply MW_wJr (by decide) | apply MW_wI0 rfl | apply MW_wJ0 rfl)); done)) only [T_fr, T_frJ, li_0, li_1, li_2, li_3, li_4, li_5, li_6, li_7, li_8, li_9, li_10, li_11, li_12, li_13, li_14, li_15, li_16, li_17, li_25, li_30, li_31, li_32, li_33, li_43, li_45, li_48, li_57, li_59, li_60, li_61, li_99, li_110, li_116, li_119, li_120, li_122, li_127, li_165, li_198, li_256, pk_mul, nI_add, m_chk, m_gA, mr_0, mr_1, mr_2, mr_4, mr_9, mr_10, mr_11, mr_12, mr_15, mr_16, mr_17, mr_18, mr_19, mr_20, mr_21, mr_22, mr_23, mr_24, mr_25, mr_27, mr_28, mr_29, mr_30, mr_31, mr_32, mr_33, mr_34, mr_36, mr_37, mr_38, mr_39, mr_40, mr_41, mr_42, mr_43, mr_44, m_gI, m_gJ, m_lI, m_lJ, m_tI, m_tJ, m_sI, m_sJ, T_pp, T_ifn, T_ifp, not_false_eq_true, not_true_eq_false, gi_wI_ne, gi_wJ_ne, gj_wI_ne, gj_wJ_ne, gi_wI_nk, gi_wJ_nk, gj_wI_nk, gj_wJ_nk, gX]
          exact ⟨trivial, q1⟩
        · have cw : ¬ nI w = 0 := nI_ne0 (by omega) (by omega)
          rw [if_neg c4, T_ifn cw]
          simp (disch := first | assumption | decide | omega | (simp only [ml_0, ml_1, ml_2, ml_3, ml_4, ml_5, ml_6, ml_7, ml_8, ml_9, ml_10, ml_11, ml_12, ml_13, ml_14, ml_15, ml_16, ml_17, ml_18, ml_19, ml_20, ml_21, ml_22, ml_23, ml_24, ml_25, ml_26, ml_27, ml_28, ml_29, ml_30, ml_31, ml_32, ml_33, ml_34, ml_35, ml_36]; omega) | (simp only [ml_0, ml_1, ml_2, ml_3, ml_4, ml_5, ml_6, ml_7, ml_8, ml_9, ml_10, ml_11, ml_12, ml_13, ml_14, ml_15, ml_16, ml_17, ml_18, ml_19, ml_20, ml_21, ml_22, ml_23, ml_24, ml_25, ml_26, ml_27, ml_28, ml_29, ml_30, ml_31, ml_32, ml_33, ml_34, ml_35, ml_36]; decide) | (apply MW_wIr (by decide); (repeat' (first | assumption | apply MW_wIr (by decide) | apply MW_wJr (by decide) | apply MW_wI0 rfl | apply MW_wJ0 rfl)); done) | (apply MW_wJr (by decide); (repeat' (first | assumption | apply MW_wIr (by decide) | apply MW_wJr (by decide) | apply MW_wI0 rfl | apply MW_wJ0 rfl)); done) | (apply MW_wI0 rfl; (repeat' (first | assumption | apply MW_wIr (by decide) | apply MW_wJr (by decide) | apply MW_wI0 rfl | apply MW_wJ0 rfl)); done) | (apply MW_wJ0 rfl; (repeat' (first | assumption | apply MW_wIr (by decide) | apply MW_wJr (by decide) | apply MW_wI0 rfl | apply MW_wJ0 rfl)); done)) only [T_fr, T_frJ, li_0, li_1, li_2, li_3, li_4, li_5, li_6, li_7, li_8, li_9, li_10, li_11, li_12, li_13, li_14, li_15, li_16, li_17, li_25, li_30, li_31, li_32, li_33, li_43, li_45, li_48, li_57, li_59, li_60, li_61, li_99, li_110, li_116, li_119, li_120, li_122, li_127, li_165, li_198, li_256, pk_mul, nI_add, m_chk, m_gA, mr_0, mr_1, mr_2, mr_4, mr_9, mr_10, mr_11, mr_12, mr_15, mr_16, mr_17, mr_18, mr_19, mr_20, mr_21, mr_22, mr_23, mr_24, mr_25, mr_27, mr_28, mr_29, mr_30, mr_31, mr_32, mr_33, mr_34, mr_36, mr_37, mr_38, mr_39, mr_40, mr_41, mr_42, mr_43, mr_44, m_gI, m_gJ, m_lI, m_lJ, m_tI, m_tJ, m_sI, m_sJ, T_pp, T_ifn, T_ifp, not_false_eq_true, not_true_eq_false, gi_wI_ne, gi_wJ_ne, gj_wI_ne, gj_wJ_ne, gi_wI_nk, gi_wJ_nk, gj_wI_nk, gj_wJ_nk, g1']
          exact ⟨rfl, q1⟩
      · rw [if_neg c3, T_ifp rfl, if_neg (fun z => c3 z.2.2)]
        refine T_call (M_ref2 q1) fun v h4 p => ?_
        rw [T_pp]
        exact ⟨by rw [p.1]; rfl, p.2⟩
    · rw [if_neg c2, T_ifp rfl, if_neg (fun z => c2 z.2.1)]
      refine T_call (M_ref2 q1) fun v h4 p => ?_
      rw [T_pp]
      exact ⟨by rw [p.1]; rfl, p.2⟩
  · rw [if_neg c, T_ifp rfl, if_neg (fun z => c z.1)]
    refine T_call (M_ref2 q1) fun v h4 p => ?_
    rw [T_pp]
    exact ⟨by rw [p.1]; rfl, p.2⟩
def bL : Int64 := -9223372036854775808
noncomputable def q_sum (i w : Int32) (st : St) : Int64 × St := if rg i 0 ((dim st.1.1 : Int) - 1) ∧ rg w 0 1 then (if ti w = 0 then st.1.2 (ti i) else 1, st) else (bL, rf2 st)
theorem M_sum {st : St} (i w : Int32) (q : MR h st) : T (fX10_sum 0 i w) h (fun v h' => v = (q_sum i w st).1 ∧ MR h' (q_sum i w st).2) := by
  unfold fX10_sum
  have hM := q.1
  have n := tb_n q.2.1.1 q.2.1.2.1
  rw [m_chk hM]
  refine T_call (M_lays q) fun _ h1 p => ?_
  obtain ⟨q1, ok, f⟩ := p
  have hM1 := q1.1
  unfold q_sum
  rw [m_gI hM1 (by decide), dig_gi (okL_at ok).2.2.2.1]
  refine T_call (m_inR (a := 0) (b := (dim st.1.1 : Int) - 1) (by decide) (sub1_toInt (by omega))) fun v h2 p => ?_
  obtain ⟨rfl, rfl⟩ := p
  by_cases c2 : rg i 0 ((dim st.1.1 : Int) - 1)
  · rw [if_pos c2, T_ifn (by decide)]
    obtain ⟨i, rfl, g, g1, g2⟩ := rg_nat c2 (by decide) (by omega)
    refine T_call (m_inR (a := 0) (b := 1) (by decide) (by decide)) fun v h3 p => ?_
    obtain ⟨rfl, rfl⟩ := p
    by_cases c3 : rg w 0 1
    · rw [if_pos c3, T_ifn (by decide), if_pos ⟨c2, c3⟩]
      obtain ⟨w, rfl, k, k1, k2⟩ := rg_nat c3 (by decide) (by decide)
      have s := q1.2.2.1.2 i (by omega)
      rw [Nat.zero_add, Nat.zero_add] at s
      rw [k, g]
      by_cases c4 : w = 0
      · rw [if_pos c4, c4]
        have s1 := s.1
        have e0 : 1 + 2 * i + 0 = 1 + 2 * i := rfl
        simp (disch := first | assumption | decide | omega | (simp only [ml_0, ml_1, ml_2, ml_3, ml_4, ml_5, ml_6, ml_7, ml_8, ml_9, ml_10, ml_11, ml_12, ml_13, ml_14, ml_15, ml_16, ml_17, ml_18, ml_19, ml_20, ml_21, ml_22, ml_23, ml_24, ml_25, ml_26, ml_27, ml_28, ml_29, ml_30, ml_31, ml_32, ml_33, ml_34, ml_35, ml_36]; omega) | (simp only [ml_0, ml_1, ml_2, ml_3, ml_4, ml_5, ml_6, ml_7, ml_8, ml_9, ml_10, ml_11, ml_12, ml_13, ml_14, ml_15, ml_16, ml_17, ml_18, ml_19, ml_20, ml_21, ml_22, ml_23, ml_24, ml_25, ml_26, ml_27, ml_28, ml_29, ml_30, ml_31, ml_32, ml_33, ml_34, ml_35, ml_36]; decide) | (apply MW_wIr (by decide); (repeat' (first | assumption | apply MW_wIr (by decide) | apply MW_wJr (by decide) | apply MW_wI0 rfl | apply MW_wJ0 rfl)); done) | (apply MW_wJr (by decide); (repeat' (first | assumption | apply MW_wIr (by decide) | apply MW_wJr (by decide) | apply MW_wI0 rfl | apply MW_wJ0 rfl)); done) | (apply MW_wI0 rfl; (repeat' (first | assumption | apply MW_wIr (by decide) | apply MW_wJr (by decide) | apply MW_wI0 rfl | apply MW_wJ0 rfl)); done) | (apply MW_wJ0 rfl; (repeat' (first | assumption | apply MW_wIr (by decide) | apply MW_wJr (by decide) | apply MW_wI0 rfl | apply MW_wJ0 rfl)); done)) only [T_fr, T_frJ, li_0, li_1, li_2, li_3, li_4, li_5, li_6, li_7, li_8, li_9, li_10, li_11, li_12, li_13, li_14, li_15, li_16, li_17, li_25, li_30, li_31, li_32, li_33, li_43, li_45, li_48, li_57, li_59, li_60, li_61, li_99, li_110, li_116, li_119, li_120, li_122, li_127, li_165, li_198, li_256, pk_mul, nI_add, m_chk, m_gA, mr_0, mr_1, mr_2, mr_4, mr_9, mr_10, mr_11, mr_12, mr_15, mr_16, mr_17, mr_18, mr_19, mr_20, mr_21, mr_22, mr_23, mr_24, mr_25, mr_27, mr_28, mr_29, mr_30, mr_31, mr_32, mr_33, mr_34, mr_36, mr_37, mr_38, mr_39, mr_40, mr_41, mr_42, mr_43, mr_44, m_gI, m_gJ, m_lI, m_lJ, m_tI, m_tJ, m_sI, m_sJ, T_pp, T_ifn, T_ifp, not_false_eq_true, not_true_eq_false, gi_wI_ne, gi_wJ_ne, gj_wI_ne, gj_wJ_ne, gi_wI_nk, gi_wJ_nk, gj_wI_nk, gj_wJ_nk, e0, s1]
        exact ⟨trivial, q1⟩
      · have c5 : w = 1 := by omega
        rw [if_neg c4, c5]
        have s2 := s.2
        have e0 : 1 + 2 * i + 1 = 2 + 2 * i := by omega
        simp (disch := first | assumption | decide | omega | (simp only [ml_0, ml_1, ml_2, ml_3, ml_4, ml_5, ml_6, ml_7, ml_8, ml_9, ml_10, ml_11, ml_12, ml_13, ml_14, ml_15, ml_16, ml_17, ml_18, ml_19, ml_20, ml_21, ml_22, ml_23, ml_24, ml_25, ml_26, ml_27, ml_28, ml_29, ml_30, ml_31, ml_32, ml_33, ml_34, ml_35, ml_36]; omega) | (simp only [ml_0, ml_1, ml_2, ml_3, ml_4, ml_5, ml_6, ml_7, ml_8, ml_9, ml_10, ml_11, ml_12, ml_13, ml_14, ml_15, ml_16, ml_17, ml_18, ml_19, ml_20, ml_21, ml_22, ml_23, ml_24, ml_25, ml_26, ml_27, ml_28, ml_29, ml_30, ml_31, ml_32, ml_33, ml_34, ml_35, ml_36]; decide) | (apply MW_wIr (by decide); (repeat' (first | assumption | apply MW_wIr (by decide) | apply MW_wJr (by decide) | apply MW_wI0 rfl | apply MW_wJ0 rfl)); done) | (apply MW_wJr (by decide); (repeat' (first | assumption | apply MW_wIr (by decide) | apply MW_wJr (by decide) | apply MW_wI0 rfl | apply MW_wJ0 rfl)); done) | (apply MW_wI0 rfl; (repeat' (first | assumption | apply MW_wIr (by decide) | apply MW_wJr (by decide) | apply MW_wI0 rfl | apply MW_wJ0 rfl)); done) | (apply MW_wJ0 rfl; (repeat' (first | assumption | apply MW_wIr (by decide) | apply MW_wJr (by decide) | apply MW_wI0 rfl | apply MW_wJ0 rfl)); done)) only [T_fr, T_frJ, li_0, li_1, li_2, li_3, li_4, li_5, li_6, li_7, li_8, li_9, li_10, li_11, li_12, li_13, li_14, li_15, li_16, li_17, li_25, li_30, li_31, li_32, li_33, li_43, li_45, li_48, li_57, li_59, li_60, li_61, li_99, li_110, li_116, li_119, li_120, li_122, li_127, li_165, li_198, li_256, pk_mul, nI_add, m_chk, m_gA, mr_0, mr_1, mr_2, mr_4, mr_9, mr_10, mr_11, mr_12, mr_15, mr_16, mr_17, mr_18, mr_19, mr_20, mr_21, mr_22, mr_23, mr_24, mr_25, mr_27, mr_28, mr_29, mr_30, mr_31, mr_32, mr_33, mr_34, mr_36, mr_37, mr_38, mr_39, mr_40, mr_41, mr_42, mr_43, mr_44, m_gI, m_gJ, m_lI, m_lJ, m_tI, m_tJ, m_sI, m_sJ, T_pp, T_ifn, T_ifp, not_false_eq_true, not_true_eq_false, gi_wI_ne, gi_wJ_ne, gj_wI_ne, gj_wJ_ne, gi_wI_nk, gi_wJ_nk, gj_wI_nk, gj_wJ_nk, e0, s2]
        exact ⟨trivial, q1⟩
    · rw [if_neg c3, T_ifp rfl, if_neg (fun z => c3 z.2)]
      refine T_call (M_refBy2 q1 _) fun v h4 p => ?_
      rw [T_pp]
      exact p
  · rw [if_neg c2, T_ifp rfl, if_neg (fun z => c2 z.1)]
    refine T_call (M_refBy2 q1 _) fun v h4 p => ?_
    rw [T_pp]
    exact p
end S6
