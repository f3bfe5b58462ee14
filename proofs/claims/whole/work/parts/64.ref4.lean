section S4
variable {h h' : PH}
abbrev rg (x : Int32) (a b : Int) : Prop := a ≤ x.toInt ∧ x.toInt ≤ b
abbrev ti (x : Int32) : Nat := x.toInt.toNat
theorem nI_ti {x : Int32} (h0 : 0 ≤ x.toInt) : x = nI (ti x) := by
  have h1 := x.toInt_lt
  refine Int32.toInt_inj.mp ?_
  rw [nI_toInt (by unfold ti; omega)]
  unfold ti
  omega
theorem rg_nI {x : Int32} {a b : Int} (q : rg x a b) (ha : 0 ≤ a) : x = nI (ti x) ∧ a ≤ (ti x : Int) ∧ (ti x : Int) ≤ b := by
  refine ⟨nI_ti (by have := q.1; omega), ?_, ?_⟩
  · have := q.1
    unfold ti
    omega
  · have := q.1
    have := q.2
    unfold ti
    omega
theorem m_inR {x : Int32} {lo hi : Int64} {a b : Int} (ha : lo.toInt = a) (hb : hi.toInt = b) : T (fX10_in x.toInt64 lo hi) h (fun v h' => h' = h ∧ v = if rg x a b then 1 else 0) := by
  refine T_mono m_in fun v h' p => ⟨p.1, ?_⟩
  rw [p.2]
  simp only [Int64.le_iff_toInt_le, Int32.toInt_toInt64, ha, hb]
theorem MR.ld {S : List Nat} {st : St} (q : MR h st) (f : Fr S h h') (hl : LdAt h') (hs : ∀ x, x ∈ [11, 15, 17, 36, 103, 145] → x ∉ S) : MR h' st := by
  obtain ⟨a1, a2, a3, a4, a5, a6, a7, a8⟩ := q
  exact ⟨f.1, a2, a3.fr f (by decide) (hs 11 (by decide)), a4.fr f (hs 15 (by decide)) (hs 103 (by decide)), a5, a6.fr f (hs 36 (by decide)) (hs 145 (by decide)), a7.fr f (hs 17 (by decide)), hl⟩
theorem M_lays {st : St} (q : MR h st) : T (fX10_lays 0) h (fun _ h' => MR h' st ∧ okL st.1.1 h' = true ∧ Fr SL h h') := by
  have w := q.2.1
  refine T_mono (m_lays q.1 w.1 w.2.1 q.2.2.1.1 q.2.2.2.2.2.2.2) fun _ h' p => ?_
  exact ⟨q.ld p.2 (Or.inr ⟨_, w.1, w.2.1, p.1⟩) (by decide), p.1, p.2⟩
/-! level -/
def q_level (n : Int32) (st : St) : Int32 × St := if rg n 1 25 then (nI st.1.1, ((ti n, fun _ => 0), kpp st.2.1 st.1, st.2.2)) else (-2, rf2 st)
theorem m_levelNow (hM : MW h) {N n : Nat} (hn : n ≤ 25) (h11 : dig h 11 0 = N + 1) : T (fX10_levelNow 0 (nI n)) h (fun v h' => v = nI N ∧ Fr [11] h h' ∧ SgAt h' 11 0 (n, fun _ => 0)) := by
  unfold fX10_levelNow
  rw [m_chk hM]
  refine T_call (m_levelHere hM h11) fun v h1 p => ?_
  obtain ⟨rfl, rfl⟩ := p
  simp (disch := first | assumption | decide | omega | (simp only [ml_0, ml_1, ml_2, ml_3, ml_4, ml_5, ml_6, ml_7, ml_8, ml_9, ml_10, ml_11, ml_12, ml_13, ml_14, ml_15, ml_16, ml_17, ml_18, ml_19, ml_20, ml_21, ml_22, ml_23, ml_24, ml_25, ml_26, ml_27, ml_28, ml_29, ml_30, ml_31, ml_32, ml_33, ml_34, ml_35, ml_36]; omega) | (simp only [ml_0, ml_1, ml_2, ml_3, ml_4, ml_5, ml_6, ml_7, ml_8, ml_9, ml_10, ml_11, ml_12, ml_13, ml_14, ml_15, ml_16, ml_17, ml_18, ml_19, ml_20, ml_21, ml_22, ml_23, ml_24, ml_25, ml_26, ml_27, ml_28, ml_29, ml_30, ml_31, ml_32, ml_33, ml_34, ml_35, ml_36]; decide) | (apply MW_wIr (by decide); (repeat' (first | assumption | apply MW_wIr (by decide) | apply MW_wJr (by decide) | apply MW_wI0 rfl | apply MW_wJ0 rfl)); done) | (apply MW_wJr (by decide); (repeat' (first | assumption | apply MW_wIr (by decide) | apply MW_wJr (by decide) | apply MW_wI0 rfl | apply MW_wJ0 rfl)); done) | (apply MW_wI0 rfl; (repeat' (first | assumption | apply MW_wIr (by decide) | apply MW_wJr (by decide) | apply MW_wI0 rfl | apply MW_wJ0 rfl)); done) | (apply MW_wJ0 rfl; (repeat' (first | assumption | apply MW_wIr (by decide) | apply MW_wJr (by decide) | apply MW_wI0 rfl | apply MW_wJ0 rfl)); done)) only [T_fr, T_frJ, li_0, li_1, li_2, li_3, li_4, li_5, li_6, li_7, li_8, li_9, li_10, li_11, li_12, li_13, li_14, li_15, li_16, li_17, li_25, li_30, li_31, li_32, li_33, li_43, li_45, li_48, li_57, li_59, li_60, li_61, li_99, li_110, li_116, li_119, li_120, li_122, li_127, li_165, li_198, li_256, pk_mul, nI_add, m_chk, m_gA, mr_0, mr_1, mr_2, mr_4, mr_9, mr_10, mr_11, mr_12, mr_15, mr_16, mr_17, mr_18, mr_19, mr_20, mr_21, mr_22, mr_23, mr_24, mr_25, mr_27, mr_28, mr_29, mr_30, mr_31, mr_32, mr_33, mr_34, mr_36, mr_37, mr_38, mr_39, mr_40, mr_41, mr_42, mr_43, mr_44, m_gI, m_gJ, m_lI, m_lJ, m_tI, m_tJ, m_sI, m_sJ, T_pp, T_ifn, T_ifp, not_false_eq_true, not_true_eq_false, gi_wI_ne, gi_wJ_ne, gj_wI_ne, gj_wJ_ne, gi_wI_nk, gi_wJ_nk, gj_wI_nk, gj_wJ_nk]
  refine T_call (m_zeroes (MW_wJr (by decide) hM)) fun _ h2 p => ?_
  obtain ⟨f, p1, p2⟩ := p
  rw [T_pp]
  refine ⟨rfl, ((Fr.rf hM [11]).J (by decide) (by decide)).tr f, ?_, fun i hi => ?_⟩
  · rw [p1, dig_wJm hM (by decide), if_pos ⟨rfl, rfl⟩, nI_l (by omega), eJ_lN (by omega)]
  · rw [Nat.zero_add, Nat.zero_add]
    exact p2 i hi
theorem WS_kpp {l : List Sg} {s : Sg} (hl : ∀ u ∈ l, WS u) (hs : WS s) : ∀ u ∈ kpp l s, WS u := by
  intro u hu
  unfold kpp at hu
  rcases List.mem_append.mp hu with z | z
  · split at z
    · exact hl u (List.mem_of_mem_tail z)
    · exact hl u z
  · rw [List.mem_singleton.mp z]
    exact hs
theorem WS_zero {n : Nat} (h1 : 1 ≤ n) (h2 : n ≤ 25) : WS (n, fun _ => 0) := ⟨h1, h2, fun _ _ => rfl⟩
theorem M_level {st : St} (n : Int32) (q : MR h st) : T (fX10_level 0 n) h (fun v h' => v = (q_level n st).1 ∧ MR h' (q_level n st).2) := by
  unfold fX10_level
  have hM := q.1
  rw [m_chk hM]
  refine T_call (m_inR (a := 1) (b := 25) (by decide) (by decide)) fun v h1 p => ?_
  obtain ⟨rfl, rfl⟩ := p
  unfold q_level
  by_cases c : rg n 1 25
  · rw [if_pos c, if_pos c, T_ifn (by decide)]
    obtain ⟨e, e1, e2⟩ := rg_nI c (by decide)
    obtain ⟨a1, a2, a3, a4, a5, a6, a7, a8⟩ := q
    refine T_call (m_keep hM a4 a3 a2.2.1) fun _ h2 p => ?_
    obtain ⟨f1, k1⟩ := p
    rw [e]
    refine T_call (m_levelNow f1.1 (N := st.1.1) (n := ti n) (by omega) (by rw [fr_dr f1 (by decide) (by decide)]; exact a3.1)) fun v h3 p => ?_
    obtain ⟨rfl, f2, s2⟩ := p
    rw [T_pp, ← e]
    have f := (f1.sub (S' := [11, 15, 103]) (by decide)).seq f2 (by decide)
    exact ⟨rfl, f.1, WS_zero (by omega) (by omega), s2, k1.fr f2 (by decide) (by decide), WS_kpp a5 a2, a6.fr f (by decide) (by decide), a7.fr f (by decide), a8.fr f (by decide)⟩
  · rw [if_neg c, if_neg c, T_ifp rfl]
    refine T_call (M_ref2 q) fun v h2 p => ?_
    rw [T_pp]
    exact p
/-! told, clear, type -/
def q_told (w : Int32) (st : St) : Int32 × St := if rg w 0 5 then ((if ti w = 0 then st.2.2.2.1 else if ti w = 1 then st.2.2.2.2.1 else if ti w = 2 then st.2.2.2.2.2 else if ti w = 3 then nI st.2.2.1.length else if ti w = 4 then nI st.1.1 else nI st.2.1.length), st) else (-2, rf2 st)
theorem m_toldOf {st : St} {w : Nat} (hw : w < 6) (q : MR h st) : T (fX10_toldOf 0 (nI w)) h (fun v h' => h' = h ∧ v = if w = 0 then st.2.2.2.1 else if w = 1 then st.2.2.2.2.1 else if w = 2 then st.2.2.2.2.2 else if w = 3 then nI st.2.2.1.length else if w = 4 then nI st.1.1 else nI st.2.1.length) := by
  unfold fX10_toldOf
  obtain ⟨hM, a2, a3, a4, a5, a6, a7, a8⟩ := q
  rw [m_chk hM]
  have h3 : gi h 0 3 = nI st.2.1.length := dig_gi a4.2.1
  have h45 : gi h 0 45 = nI st.2.2.1.length := dig_gi a6.2.1
  obtain ⟨c0, c1, c2⟩ := a7
  rcases (show w = 0 ∨ w = 1 ∨ w = 2 ∨ w = 3 ∨ w = 4 ∨ w = 5 by omega) with rfl | rfl | rfl | rfl | rfl | rfl
  · rw [T_ifn (by decide)]
    simp (disch := first | assumption | decide | omega | (simp only [ml_0, ml_1, ml_2, ml_3, ml_4, ml_5, ml_6, ml_7, ml_8, ml_9, ml_10, ml_11, ml_12, ml_13, ml_14, ml_15, ml_16, ml_17, ml_18, ml_19, ml_20, ml_21, ml_22, ml_23, ml_24, ml_25, ml_26, ml_27, ml_28, ml_29, ml_30, ml_31, ml_32, ml_33, ml_34, ml_35, ml_36]; omega) | (simp only [ml_0, ml_1, ml_2, ml_3, ml_4, ml_5, ml_6, ml_7, ml_8, ml_9, ml_10, ml_11, ml_12, ml_13, ml_14, ml_15, ml_16, ml_17, ml_18, ml_19, ml_20, ml_21, ml_22, ml_23, ml_24, ml_25, ml_26, ml_27, ml_28, ml_29, ml_30, ml_31, ml_32, ml_33, ml_34, ml_35, ml_36]; decide) | (apply MW_wIr (by decide); (repeat' (first | assumption | apply MW_wIr (by decide) | apply MW_wJr (by decide) | apply MW_wI0 rfl | apply MW_wJ0 rfl)); done) | (apply MW_wJr (by decide); (repeat' (first | assumption | apply MW_wIr (by decide) | apply MW_wJr (by decide) | apply MW_wI0 rfl | apply MW_wJ0 rfl)); done) | (apply MW_wI0 rfl; (repeat' (first | assumption | apply MW_wIr (by decide) | apply MW_wJr (by decide) | apply MW_wI0 rfl | apply MW_wJ0 rfl)); done) | (apply MW_wJ0 rfl; (repeat' (first | assumption | apply MW_wIr (by decide) | apply MW_wJr (by decide) | apply MW_wI0 rfl | apply MW_wJ0 rfl)); done)) only [T_fr, T_frJ, li_0, li_1, li_2, li_3, li_4, li_5, li_6, li_7, li_8, li_9, li_10, li_11, li_12, li_13, li_14, li_15, li_16, li_17, li_25, li_30, li_31, li_32, li_33, li_43, li_45, li_48, li_57, li_59, li_60, li_61, li_99, li_110, li_116, li_119, li_120, li_122, li_127, li_165, li_198, li_256, pk_mul, nI_add, m_chk, m_gA, mr_0, mr_1, mr_2, mr_4, mr_9, mr_10, mr_11, mr_12, mr_15, mr_16, mr_17, mr_18, mr_19, mr_20, mr_21, mr_22, mr_23, mr_24, mr_25, mr_27, mr_28, mr_29, mr_30, mr_31, mr_32, mr_33, mr_34, mr_36, mr_37, mr_38, mr_39, mr_40, mr_41, mr_42, mr_43, mr_44, m_gI, m_gJ, m_lI, m_lJ, m_tI, m_tJ, m_sI, m_sJ, T_pp, T_ifn, T_ifp, not_false_eq_true, not_true_eq_false, gi_wI_ne, gi_wJ_ne, gj_wI_ne, gj_wJ_ne, gi_wI_nk, gi_wJ_nk, gj_wI_nk, gj_wJ_nk, c0]
    exact ⟨trivial, rfl⟩
  · rw [T_ifn (by decide)]
    simp (disch := first | assumption | decide | omega | (simp only [ml_0, ml_1, ml_2, ml_3, ml_4, ml_5, ml_6, ml_7, ml_8, ml_9, ml_10, ml_11, ml_12, ml_13, ml_14, ml_15, ml_16, ml_17, ml_18, ml_19, ml_20, ml_21, ml_22, ml_23, ml_24, ml_25, ml_26, ml_27, ml_28, ml_29, ml_30, ml_31, ml_32, ml_33, ml_34, ml_35, ml_36]; omega) | (simp only [ml_0, ml_1, ml_2, ml_3, ml_4, ml_5, ml_6, ml_7, ml_8, ml_9, ml_10, ml_11, ml_12, ml_13, ml_14, ml_15, ml_16, ml_17, ml_18, ml_19, ml_20, ml_21, ml_22, ml_23, ml_24, ml_25, ml_26, ml_27, ml_28, ml_29, ml_30, ml_31, ml_32, ml_33, ml_34, ml_35, ml_36]; decide) | (apply MW_wIr (by decide); (repeat' (first | assumption | apply MW_wIr (by decide) | apply MW_wJr (by decide) | apply MW_wI0 rfl | apply MW_wJ0 rfl)); done) | (apply MW_wJr (by decide); (repeat' (first | assumption | apply MW_wIr (by decide) | apply MW_wJr (by decide) | apply MW_wI0 rfl | apply MW_wJ0 rfl)); done) | (apply MW_wI0 rfl; (repeat' (first | assumption | apply MW_wIr (by decide) | apply MW_wJr (by decide) | apply MW_wI0 rfl | apply MW_wJ0 rfl)); done) | (apply MW_wJ0 rfl; (repeat' (first | assumption | apply MW_wIr (by decide) | apply MW_wJr (by decide) | apply MW_wI0 rfl | apply MW_wJ0 rfl)); done)) only [T_fr, T_frJ, li_0, li_1, li_2, li_3, li_4, li_5, li_6, li_7, li_8, li_9, li_10, li_11, li_12, li_13, li_14, li_15, li_16, li_17, li_25, li_30, li_31, li_32, li_33, li_43, li_45, li_48, li_57, li_59, li_60, li_61, li_99, li_110, li_116, li_119, li_120, li_122, li_127, li_165, li_198, li_256, pk_mul, nI_add, m_chk, m_gA, mr_0, mr_1, mr_2, mr_4, mr_9, mr_10, mr_11, mr_12, mr_15, mr_16, mr_17, mr_18, mr_19, mr_20, mr_21, mr_22, mr_23, mr_24, mr_25, mr_27, mr_28, mr_29, mr_30, mr_31, mr_32, mr_33, mr_34, mr_36, mr_37, mr_38, mr_39, mr_40, mr_41, mr_42, mr_43, mr_44, m_gI, m_gJ, m_lI, m_lJ, m_tI, m_tJ, m_sI, m_sJ, T_pp, T_ifn, T_ifp, not_false_eq_true, not_true_eq_false, gi_wI_ne, gi_wJ_ne, gj_wI_ne, gj_wJ_ne, gi_wI_nk, gi_wJ_nk, gj_wI_nk, gj_wJ_nk, c1]
    exact ⟨trivial, rfl⟩
  · rw [T_ifn (by decide)]
    simp (disch := first | assumption | decide | omega | (simp only [ml_0, ml_1, ml_2, ml_3, ml_4, ml_5, ml_6, ml_7, ml_8, ml_9, ml_10, ml_11, ml_12, ml_13, ml_14, ml_15, ml_16, ml_17, ml_18, ml_19, ml_20, ml_21, ml_22, ml_23, ml_24, ml_25, ml_26, ml_27, ml_28, ml_29, ml_30, ml_31, ml_32, ml_33, ml_34, ml_35, ml_36]; omega) | (simp only [ml_0, ml_1, ml_2, ml_3, ml_4, ml_5, ml_6, ml_7, ml_8, ml_9, ml_10, ml_11, ml_12, ml_13, ml_14, ml_15, ml_16, ml_17, ml_18, ml_19, ml_20, ml_21, ml_22, ml_23, ml_24, ml_25, ml_26, ml_27, ml_28, ml_29, ml_30, ml_31, ml_32, ml_33, ml_34, ml_35, ml_36]; decide) | (apply MW_wIr (by decide); (repeat' (first | assumption | apply MW_wIr (by decide) | apply MW_wJr (by decide) | apply MW_wI0 rfl | apply MW_wJ0 rfl)); done) | (apply MW_wJr (by decide); (repeat' (first | assumption | apply MW_wIr (by decide) | apply MW_wJr (by decide) | apply MW_wI0 rfl | apply MW_wJ0 rfl)); done) | (apply MW_wI0 rfl; (repeat' (first | assumption | apply MW_wIr (by decide) | apply MW_wJr (by decide) | apply MW_wI0 rfl | apply MW_wJ0 rfl)); done) | (apply MW_wJ0 rfl; (repeat' (first | assumption | apply MW_wIr (by decide) | apply MW_wJr (by decide) | apply MW_wI0 rfl | apply MW_wJ0 rfl)); done)) only [T_fr, T_frJ, li_0, li_1, li_2, li_3, li_4, li_5, li_6, li_7, li_8, li_9, li_10, li_11, li_12, li_13, li_14, li_15, li_16, li_17, li_25, li_30, li_31, li_32, li_33, li_43, li_45, li_48, li_57, li_59, li_60, li_61, li_99, li_110, li_116, li_119, li_120, li_122, li_127, li_165, li_198, li_256, pk_mul, nI_add, m_chk, m_gA, mr_0, mr_1, mr_2, mr_4, mr_9, mr_10, mr_11, mr_12, mr_15, mr_16, mr_17, mr_18, mr_19, mr_20, mr_21, mr_22, mr_23, mr_24, mr_25, mr_27, mr_28, mr_29, mr_30, mr_31, mr_32, mr_33, mr_34, mr_36, mr_37, mr_38, mr_39, mr_40, mr_41, mr_42, mr_43, mr_44, m_gI, m_gJ, m_lI, m_lJ, m_tI, m_tJ, m_sI, m_sJ, T_pp, T_ifn, T_ifp, not_false_eq_true, not_true_eq_false, gi_wI_ne, gi_wJ_ne, gj_wI_ne, gj_wJ_ne, gi_wI_nk, gi_wJ_nk, gj_wI_nk, gj_wJ_nk, c2]
    exact ⟨trivial, rfl⟩
  · rw [T_ifp (by decide), T_ifp (by decide)]
    simp (disch := first | assumption | decide | omega | (simp only [ml_0, ml_1, ml_2, ml_3, ml_4, ml_5, ml_6, ml_7, ml_8, ml_9, ml_10, ml_11, ml_12, ml_13, ml_14, ml_15, ml_16, ml_17, ml_18, ml_19, ml_20, ml_21, ml_22, ml_23, ml_24, ml_25, ml_26, ml_27, ml_28, ml_29, ml_30, ml_31, ml_32, ml_33, ml_34, ml_35, ml_36]; omega) | (simp only [ml_0, ml_1, ml_2, ml_3, ml_4, ml_5, ml_6, ml_7, ml_8, ml_9, ml_10, ml_11, ml_12, ml_13, ml_14, ml_15, ml_16, ml_17, ml_18, ml_19, ml_20, ml_21, ml_22, ml_23, ml_24, ml_25, ml_26, ml_27, ml_28, ml_29, ml_30, ml_31, ml_32, ml_33, ml_34, ml_35, ml_36]; decide) | (apply MW_wIr (by decide); (repeat' (first | assumption | apply MW_wIr (by decide) | apply MW_wJr (by decide) | apply MW_wI0 rfl | apply MW_wJ0 rfl)); done) | (apply MW_wJr (by decide); (repeat' (first | assumption | apply MW_wIr (by decide) | apply MW_wJr (by decide) | apply MW_wI0 rfl | apply MW_wJ0 rfl)); done) | (apply MW_wI0 rfl; (repeat' (first | assumption | apply MW_wIr (by decide) | apply MW_wJr (by decide) | apply MW_wI0 rfl | apply MW_wJ0 rfl)); done) | (apply MW_wJ0 rfl; (repeat' (first | assumption | apply MW_wIr (by decide) | apply MW_wJr (by decide) | apply MW_wI0 rfl | apply MW_wJ0 rfl)); done)) only [T_fr, T_frJ, li_0, li_1, li_2, li_3, li_4, li_5, li_6, li_7, li_8, li_9, li_10, li_11, li_12, li_13, li_14, li_15, li_16, li_17, li_25, li_30, li_31, li_32, li_33, li_43, li_45, li_48, li_57, li_59, li_60, li_61, li_99, li_110, li_116, li_119, li_120, li_122, li_127, li_165, li_198, li_256, pk_mul, nI_add, m_chk, m_gA, mr_0, mr_1, mr_2, mr_4, mr_9, mr_10, mr_11, mr_12, mr_15, mr_16, mr_17, mr_18, mr_19, mr_20, mr_21, mr_22, mr_23, mr_24, mr_25, mr_27, mr_28, mr_29, mr_30, mr_31, mr_32, mr_33, mr_34, mr_36, mr_37, mr_38, mr_39, mr_40, mr_41, mr_42, mr_43, mr_44, m_gI, m_gJ, m_lI, m_lJ, m_tI, m_tJ, m_sI, m_sJ, T_pp, T_ifn, T_ifp, not_false_eq_true, not_true_eq_false, gi_wI_ne, gi_wJ_ne, gj_wI_ne, gj_wJ_ne, gi_wI_nk, gi_wJ_nk, gj_wI_nk, gj_wJ_nk, h45]
    exact ⟨trivial, rfl⟩
  · rw [T_ifp (by decide), T_ifn (by decide), T_ifp (by decide)]
    refine T_call (m_levelHere hM a3.1) fun v h1 p => ?_
    rw [T_pp]
    exact ⟨p.1, p.2⟩
  · rw [T_ifp (by decide), T_ifn (by decide), T_ifn (by decide)]
    simp (disch := first | assumption | decide | omega | (simp only [ml_0, ml_1, ml_2, ml_3, ml_4, ml_5, ml_6, ml_7, ml_8, ml_9, ml_10, ml_11, ml_12, ml_13, ml_14, ml_15, ml_16, ml_17, ml_18, ml_19, ml_20, ml_21, ml_22, ml_23, ml_24, ml_25, ml_26, ml_27, ml_28, ml_29, ml_30, ml_31, ml_32, ml_33, ml_34, ml_35, ml_36]; omega) | (simp only [ml_0, ml_1, ml_2, ml_3, ml_4, ml_5, ml_6, ml_7, ml_8, ml_9, ml_10, ml_11, ml_12, ml_13, ml_14, ml_15, ml_16, ml_17, ml_18, ml_19, ml_20, ml_21, ml_22, ml_23, ml_24, ml_25, ml_26, ml_27, ml_28, ml_29, ml_30, ml_31, ml_32, ml_33, ml_34, ml_35, ml_36]; decide) | (apply MW_wIr (by decide); (repeat' (first | assumption | apply MW_wIr (by decide) | apply MW_wJr (by decide) | apply MW_wI0 rfl | apply MW_wJ0 rfl)); done) | (apply MW_wJr (by decide); (repeat' (first | assumption | apply MW_wIr (by decide) | apply MW_wJr (by decide) | apply MW_wI0 rfl | apply MW_wJ0 rfl)); done) | (apply MW_wI0 rfl; (repeat' (first | assumption | apply MW_wIr (by decide) | apply MW_wJr (by decide) | apply MW_wI0 rfl | apply MW_wJ0 rfl)); done) | (apply MW_wJ0 rfl; (repeat' (first | assumption | apply MW_wIr (by decide) | apply MW_wJr (by decide) | apply MW_wI0 rfl | apply MW_wJ0 rfl)); done)) only [T_fr, T_frJ, li_0, li_1, li_2, li_3, li_4, li_5, li_6, li_7, li_8, li_9, li_10, li_11, li_12, li_13, li_14, li_15, li_16, li_17, li_25, li_30, li_31, li_32, li_33, li_43, li_45, li_48, li_57, li_59, li_60, li_61, li_99, li_110, li_116, li_119, li_120, li_122, li_127, li_165, li_198, li_256, pk_mul, nI_add, m_chk, m_gA, mr_0, mr_1, mr_2, mr_4, mr_9, mr_10, mr_11, mr_12, mr_15, mr_16, mr_17, mr_18, mr_19, mr_20, mr_21, mr_22, mr_23, mr_24, mr_25, mr_27, mr_28, mr_29, mr_30, mr_31, mr_32, mr_33, mr_34, mr_36, mr_37, mr_38, mr_39, mr_40, mr_41, mr_42, mr_43, mr_44, m_gI, m_gJ, m_lI, m_lJ, m_tI, m_tJ, m_sI, m_sJ, T_pp, T_ifn, T_ifp, not_false_eq_true, not_true_eq_false, gi_wI_ne, gi_wJ_ne, gj_wI_ne, gj_wJ_ne, gi_wI_nk, gi_wJ_nk, gj_wI_nk, gj_wJ_nk, h3]
    exact ⟨trivial, rfl⟩
theorem M_told {st : St} (w : Int32) (q : MR h st) : T (fX10_told 0 w) h (fun v h' => v = (q_told w st).1 ∧ MR h' (q_told w st).2) := by
  unfold fX10_told
  have hM := q.1
  rw [m_chk hM]
  refine T_call (m_inR (a := 0) (b := 5) (by decide) (by decide)) fun v h1 p => ?_
  obtain ⟨rfl, rfl⟩ := p
  unfold q_told
  by_cases c : rg w 0 5
  · rw [if_pos c, if_pos c, T_ifn (by decide)]
    obtain ⟨e, e1, e2⟩ := rg_nI c (by decide)
    have := m_toldOf (h := h1) (st := st) (w := ti w) (by omega) q
    rw [← e] at this
    refine T_call this fun v h2 p => ?_
    obtain ⟨rfl, rfl⟩ := p
    rw [T_pp]
    exact ⟨rfl, q⟩
  · rw [if_neg c, if_neg c, T_ifp rfl]
    refine T_call (M_ref2 q) fun v h2 p => ?_
    rw [T_pp]
    exact p
def q_clear (st : St) : Int32 × St := (nI st.2.2.1.length, (st.1, st.2.1, [], st.2.2.2))
theorem M_clear {st : St} (q : MR h st) : T (fX10_clear 0) h (fun v h' => v = (q_clear st).1 ∧ MR h' (q_clear st).2) := by
  unfold fX10_clear q_clear
  obtain ⟨hM, a2, a3, a4, a5, a6, a7, a8⟩ := q
  have h45 : gi h 0 45 = nI st.2.2.1.length := dig_gi a6.2.1
  simp (disch := first | assumption | decide | omega | (simp only [ml_0, ml_1, ml_2, ml_3, ml_4, ml_5, ml_6, ml_7, ml_8, ml_9, ml_10, ml_11, ml_12, ml_13, ml_14, ml_15, ml_16, ml_17, ml_18, ml_19, ml_20, ml_21, ml_22, ml_23, ml_24, ml_25, ml_26, ml_27, ml_28, ml_29, ml_30, ml_31, ml_32, ml_33, ml_34, ml_35, ml_36]; omega) | (simp only [ml_0, ml_1, ml_2, ml_3, ml_4, ml_5, ml_6, ml_7, ml_8, ml_9, ml_10, ml_11, ml_12, ml_13, ml_14, ml_15, ml_16, ml_17, ml_18, ml_19, ml_20, ml_21, ml_22, ml_23, ml_24, ml_25, ml_26, ml_27, ml_28, ml_29, ml_30, ml_31, ml_32, ml_33, ml_34, ml_35, ml_36]; decide) | (apply MW_wIr (by decide); (repeat' (first | assumption | apply MW_wIr (by decide) | apply MW_wJr (by decide) | apply MW_wI0 rfl | apply MW_wJ0 rfl)); done) | (apply MW_wJr (by decide); (repeat' (first | assumption | apply MW_wIr (by decide) | apply MW_wJr (by decide) | apply MW_wI0 rfl | apply MW_wJ0 rfl)); done) | (apply MW_wI0 rfl; (repeat' (first | assumption | apply MW_wIr (by decide) | apply MW_wJr (by decide) | apply MW_wI0 rfl | apply MW_wJ0 rfl)); done) | (apply MW_wJ0 rfl; (repeat' (first | assumption | apply MW_wIr (by decide) | apply MW_wJr (by decide) | apply MW_wI0 rfl | apply MW_wJ0 rfl)); done)) only [T_fr, T_frJ, li_0, li_1, li_2, li_3, li_4, li_5, li_6, li_7, li_8, li_9, li_10, li_11, li_12, li_13, li_14, li_15, li_16, li_17, li_25, li_30, li_31, li_32, li_33, li_43, li_45, li_48, li_57, li_59, li_60, li_61, li_99, li_110, li_116, li_119, li_120, li_122, li_127, li_165, li_198, li_256, pk_mul, nI_add, m_chk, m_gA, mr_0, mr_1, mr_2, mr_4, mr_9, mr_10, mr_11, mr_12, mr_15, mr_16, mr_17, mr_18, mr_19, mr_20, mr_21, mr_22, mr_23, mr_24, mr_25, mr_27, mr_28, mr_29, mr_30, mr_31, mr_32, mr_33, mr_34, mr_36, mr_37, mr_38, mr_39, mr_40, mr_41, mr_42, mr_43, mr_44, m_gI, m_gJ, m_lI, m_lJ, m_tI, m_tJ, m_sI, m_sJ, T_pp, T_ifn, T_ifp, not_false_eq_true, not_true_eq_false, gi_wI_ne, gi_wJ_ne, gj_wI_ne, gj_wJ_ne, gi_wI_nk, gi_wJ_nk, gj_wI_nk, gj_wJ_nk, h45]
  have f : Fr [145] h (wI h 0 45 (nI 0)) := (Fr.rf hM [145]).I0 rfl (by decide)
  refine ⟨trivial, f.1, a2, a3.fr f (by decide) (by decide), a4.fr f (by decide) (by decide), a5, ⟨Nat.zero_le _, ?_, fun i c hc => by cases hc⟩, a7.fr f (by decide), a8.fr f (by decide)⟩
  rw [dig_wIm hM (by decide), if_pos ⟨rfl, rfl⟩]
  rfl
def q_type (c : Int32) (st : St) : Int32 × St := if rg c 0 127 then (if st.2.2.1.length = 120 then (-4, rf4 st) else (nI (st.2.2.1.length + 1), (st.1, st.2.1, st.2.2.1 ++ [c], st.2.2.2))) else (-2, rf2 st)
theorem M_type {st : St} (c : Int32) (q : MR h st) : T (fX10_type 0 c) h (fun v h' => v = (q_type c st).1 ∧ MR h' (q_type c st).2) := by
  unfold fX10_type
  have hM := q.1
  rw [m_chk hM]
  refine T_call (m_inR (a := 0) (b := 127) (by decide) (by decide)) fun v h1 p => ?_
  obtain ⟨rfl, rfl⟩ := p
  unfold q_type
  by_cases c1 : rg c 0 127
  · rw [if_pos c1, if_pos c1, T_ifn (by decide)]
    have q0 := q
    obtain ⟨hM, a2, a3, a4, a5, a6, a7, a8⟩ := q
    have h45 : gi h1 0 45 = nI st.2.2.1.length := dig_gi a6.2.1
    rw [m_gI hM (by decide), h45]
    by_cases c2 : st.2.2.1.length = 120
    · rw [if_pos c2, T_ifp (by rw [c2]; rfl)]
      refine T_call (M_ref4 q0) fun v h2 p => ?_
      rw [T_pp]
      exact p
    · rw [if_neg c2, T_ifn (by rw [li_120, nI_eq (by have := a6.1; omega) (by decide)]; exact c2)]
      have l6 := a6.1
      have hM2 : MW (wI h1 36 st.2.2.1.length c) := MW_wIr (by decide) hM
      simp (disch := first | assumption | decide | omega | (simp only [ml_0, ml_1, ml_2, ml_3, ml_4, ml_5, ml_6, ml_7, ml_8, ml_9, ml_10, ml_11, ml_12, ml_13, ml_14, ml_15, ml_16, ml_17, ml_18, ml_19, ml_20, ml_21, ml_22, ml_23, ml_24, ml_25, ml_26, ml_27, ml_28, ml_29, ml_30, ml_31, ml_32, ml_33, ml_34, ml_35, ml_36]; omega) | (simp only [ml_0, ml_1, ml_2, ml_3, ml_4, ml_5, ml_6, ml_7, ml_8, ml_9, ml_10, ml_11, ml_12, ml_13, ml_14, ml_15, ml_16, ml_17, ml_18, ml_19, ml_20, ml_21, ml_22, ml_23, ml_24, ml_25, ml_26, ml_27, ml_28, ml_29, ml_30, ml_31, ml_32, ml_33, ml_34, ml_35, ml_36]; decide) | (apply MW_wIr (by decide); (repeat' (first | assumption | apply MW_wIr (by decide) | apply MW_wJr (by decide) | apply MW_wI0 rfl | apply MW_wJ0 rfl)); done) | (apply MW_wJr (by decide); (repeat' (first | assumption | apply MW_wIr (by decide) | apply MW_wJr (by decide) | apply MW_wI0 rfl | apply MW_wJ0 rfl)); done) | (apply MW_wI0 rfl; (repeat' (first | assumption | apply MW_wIr (by decide) | apply MW_wJr (by decide) | apply MW_wI0 rfl | apply MW_wJ0 rfl)); done) | (apply MW_wJ0 rfl; (repeat' (first | assumption | apply MW_wIr (by decide) | apply MW_wJr (by decide) | apply MW_wI0 rfl | apply MW_wJ0 rfl)); done)) only [T_fr, T_frJ, li_0, li_1, li_2, li_3, li_4, li_5, li_6, li_7, li_8, li_9, li_10, li_11, li_12, li_13, li_14, li_15, li_16, li_17, li_25, li_30, li_31, li_32, li_33, li_43, li_45, li_48, li_57, li_59, li_60, li_61, li_99, li_110, li_116, li_119, li_120, li_122, li_127, li_165, li_198, li_256, pk_mul, nI_add, m_chk, m_gA, mr_0, mr_1, mr_2, mr_4, mr_9, mr_10, mr_11, mr_12, mr_15, mr_16, mr_17, mr_18, mr_19, mr_20, mr_21, mr_22, mr_23, mr_24, mr_25, mr_27, mr_28, mr_29, mr_30, mr_31, mr_32, mr_33, mr_34, mr_36, mr_37, mr_38, mr_39, mr_40, mr_41, mr_42, mr_43, mr_44, m_gI, m_gJ, m_lI, m_lJ, m_tI, m_tJ, m_sI, m_sJ, T_pp, T_ifn, T_ifp, not_false_eq_true, not_true_eq_false, gi_wI_ne, gi_wJ_ne, gj_wI_ne, gj_wJ_ne, gi_wI_nk, gi_wJ_nk, gj_wI_nk, gj_wJ_nk, h45]
      have f : Fr [36, 145] h1 (wI (wI h1 36 st.2.2.1.length c) 0 45 (nI (st.2.2.1.length + 1))) := ((Fr.rf hM [36, 145]).I (by decide) (by decide)).I0 rfl (by decide)
      have hl : (st.2.2.1 ++ [c]).length = st.2.2.1.length + 1 := by simp
      have e45 : gi (wI (wI h1 36 st.2.2.1.length c) 0 45 (nI (st.2.2.1.length + 1))) 0 45 = nI (st.2.2.1.length + 1) := by rw [gi_wIm hM2 (by decide), if_pos ⟨rfl, rfl⟩]
      refine ⟨e45, f.1, a2, a3.fr f (by decide) (by decide), a4.fr f (by decide) (by decide), a5, ⟨by rw [hl]; omega, ?_, fun i d hd => ?_⟩, a7.fr f (by decide), a8.fr f (by decide)⟩
      · rw [hl, dig_wIm hM2 (by decide), if_pos ⟨rfl, rfl⟩, eI_nI (by omega)]
      · rw [gi_wI_ne (by decide), gi_wIm hM (by decide)]
        by_cases ci : i = st.2.2.1.length
        · rw [if_pos ⟨rfl, ci⟩]
          rw [ci, List.getElem?_append_right (Nat.le_refl _), Nat.sub_self] at hd
          exact Option.some.inj hd
        · rw [if_neg (fun z => ci z.2)]
          have : i < st.2.2.1.length := by
            have := (List.getElem?_eq_some_iff.mp hd).1
            rw [hl] at this
            omega
          rw [List.getElem?_append_left this] at hd
          exact a6.2.2 i d hd
  · rw [if_neg c1, if_neg c1, T_ifp rfl]
    refine T_call (M_ref2 q) fun v h2 p => ?_
    rw [T_pp]
    exact p
/-! back -/
def q_back (st : St) : Int32 × St := if st.2.1.length = 0 then (-3, rf3 st) else (nI (st.2.1.length - 1), (st.2.1.getLastD st.1, st.2.1.dropLast, st.2.2))
theorem m_backLoop (hM : MW h) {s : Nat} (hs : s < 6) (h3 : gi h 0 3 = nI s) : T (plo (fX10_back_B26 0) fu (nI 0)) h (fun _ h' => Fr [11] h h' ∧ ∀ k, k < 33 → dig h' 11 k = eJ (gj h 15 (33 * s + k))) := by
  refine T_for 33 (fun n h' => Fr [11] h h' ∧ ∀ k, k < n → dig h' 11 k = eJ (gj h 15 (33 * s + k))) (fun i h1 hi hI => ?_) (fun h1 hI => ?_) (by decide) (i0 := 0) (by decide) ⟨Fr.rf hM _, fun k hk => by omega⟩
  · obtain ⟨hF, hI⟩ := hI
    have hM1 := hF.1
    have c1 : ¬ nI 33 ≤ nI i := nI_ge hi (by decide)
    have e3 : gi h1 0 3 = nI s := by rw [fr_gi0 hF (by decide)]; exact h3
    unfold fX10_back_B26 fX10_back_b26
    simp (disch := first | assumption | decide | omega | (simp only [ml_0, ml_1, ml_2, ml_3, ml_4, ml_5, ml_6, ml_7, ml_8, ml_9, ml_10, ml_11, ml_12, ml_13, ml_14, ml_15, ml_16, ml_17, ml_18, ml_19, ml_20, ml_21, ml_22, ml_23, ml_24, ml_25, ml_26, ml_27, ml_28, ml_29, ml_30, ml_31, ml_32, ml_33, ml_34, ml_35, ml_36]; omega) | (simp only [ml_0, ml_1, ml_2, ml_3, ml_4, ml_5, ml_6, ml_7, ml_8, ml_9, ml_10, ml_11, ml_12, ml_13, ml_14, ml_15, ml_16, ml_17, ml_18, ml_19, ml_20, ml_21, ml_22, ml_23, ml_24, ml_25, ml_26, ml_27, ml_28, ml_29, ml_30, ml_31, ml_32, ml_33, ml_34, ml_35, ml_36]; decide) | (apply MW_wIr (by decide); (repeat' (first | assumption | apply MW_wIr (by decide) | apply MW_wJr (by decide) | apply MW_wI0 rfl | apply MW_wJ0 rfl)); done) | (apply MW_wJr (by decide); (repeat' (first | assumption | apply MW_wIr (by decide) | apply MW_wJr (by decide) | apply MW_wI0 rfl | apply MW_wJ0 rfl)); done) | (apply MW_wI0 rfl; (repeat' (first | assumption | apply MW_wIr (by decide) | apply MW_wJr (by decide) | apply MW_wI0 rfl | apply MW_wJ0 rfl)); done) | (apply MW_wJ0 rfl; (repeat' (first | assumption | apply MW_wIr (by decide) | apply MW_wJr (by decide) | apply MW_wI0 rfl | apply MW_wJ0 rfl)); done)) only [T_fr, T_frJ, li_0, li_1, li_2, li_3, li_4, li_5, li_6, li_7, li_8, li_9, li_10, li_11, li_12, li_13, li_14, li_15, li_16, li_17, li_25, li_30, li_31, li_32, li_33, li_43, li_45, li_48, li_57, li_59, li_60, li_61, li_99, li_110, li_116, li_119, li_120, li_122, li_127, li_165, li_198, li_256, pk_mul, nI_add, m_chk, m_gA, mr_0, mr_1, mr_2, mr_4, mr_9, mr_10, mr_11, mr_12, mr_15, mr_16, mr_17, mr_18, mr_19, mr_20, mr_21, mr_22, mr_23, mr_24, mr_25, mr_27, mr_28, mr_29, mr_30, mr_31, mr_32, mr_33, mr_34, mr_36, mr_37, mr_38, mr_39, mr_40, mr_41, mr_42, mr_43, mr_44, m_gI, m_gJ, m_lI, m_lJ, m_tI, m_tJ, m_sI, m_sJ, T_pp, T_ifn, T_ifp, not_false_eq_true, not_true_eq_false, gi_wI_ne, gi_wJ_ne, gj_wI_ne, gj_wJ_ne, gi_wI_nk, gi_wJ_nk, gj_wI_nk, gj_wJ_nk, e3]
    refine ⟨trivial, hF.J (by decide) (by decide), fun k hk => ?_⟩
    rw [dig_wJm hM1 (by decide)]
    by_cases c : k = i
    · rw [if_pos ⟨rfl, c⟩, fr_gjr hF (by decide) (by decide), c]
    · rw [if_neg (fun q => c q.2), hI k (by omega)]
  · have hM1 := hI.1.1
    unfold fX10_back_B26 fX10_back_b26
    have c1 : nI 33 ≤ nI 33 := by decide
    simp (disch := first | assumption | decide | omega | (simp only [ml_0, ml_1, ml_2, ml_3, ml_4, ml_5, ml_6, ml_7, ml_8, ml_9, ml_10, ml_11, ml_12, ml_13, ml_14, ml_15, ml_16, ml_17, ml_18, ml_19, ml_20, ml_21, ml_22, ml_23, ml_24, ml_25, ml_26, ml_27, ml_28, ml_29, ml_30, ml_31, ml_32, ml_33, ml_34, ml_35, ml_36]; omega) | (simp only [ml_0, ml_1, ml_2, ml_3, ml_4, ml_5, ml_6, ml_7, ml_8, ml_9, ml_10, ml_11, ml_12, ml_13, ml_14, ml_15, ml_16, ml_17, ml_18, ml_19, ml_20, ml_21, ml_22, ml_23, ml_24, ml_25, ml_26, ml_27, ml_28, ml_29, ml_30, ml_31, ml_32, ml_33, ml_34, ml_35, ml_36]; decide) | (apply MW_wIr (by decide); (repeat' (first | assumption | apply MW_wIr (by decide) | apply MW_wJr (by decide) | apply MW_wI0 rfl | apply MW_wJ0 rfl)); done) | (apply MW_wJr (by decide); (repeat' (first | assumption | apply MW_wIr (by decide) | apply MW_wJr (by decide) | apply MW_wI0 rfl | apply MW_wJ0 rfl)); done) | (apply MW_wI0 rfl; (repeat' (first | assumption | apply MW_wIr (by decide) | apply MW_wJr (by decide) | apply MW_wI0 rfl | apply MW_wJ0 rfl)); done) | (apply MW_wJ0 rfl; (repeat' (first | assumption | apply MW_wIr (by decide) | apply MW_wJr (by decide) | apply MW_wI0 rfl | apply MW_wJ0 rfl)); done)) only [T_fr, T_frJ, li_0, li_1, li_2, li_3, li_4, li_5, li_6, li_7, li_8, li_9, li_10, li_11, li_12, li_13, li_14, li_15, li_16, li_17, li_25, li_30, li_31, li_32, li_33, li_43, li_45, li_48, li_57, li_59, li_60, li_61, li_99, li_110, li_116, li_119, li_120, li_122, li_127, li_165, li_198, li_256, pk_mul, nI_add, m_chk, m_gA, mr_0, mr_1, mr_2, mr_4, mr_9, mr_10, mr_11, mr_12, mr_15, mr_16, mr_17, mr_18, mr_19, mr_20, mr_21, mr_22, mr_23, mr_24, mr_25, mr_27, mr_28, mr_29, mr_30, mr_31, mr_32, mr_33, mr_34, mr_36, mr_37, mr_38, mr_39, mr_40, mr_41, mr_42, mr_43, mr_44, m_gI, m_gJ, m_lI, m_lJ, m_tI, m_tJ, m_sI, m_sJ, T_pp, T_ifn, T_ifp, not_false_eq_true, not_true_eq_false, gi_wI_ne, gi_wJ_ne, gj_wI_ne, gj_wJ_ne, gi_wI_nk, gi_wJ_nk, gj_wI_nk, gj_wJ_nk]
    exact ⟨(), trivial, hI⟩
theorem M_back {st : St} (q : MR h st) : T (fX10_back 0) h (fun v h' => v = (q_back st).1 ∧ MR h' (q_back st).2) := by
  unfold fX10_back q_back
  have q0 := q
  obtain ⟨hM, a2, a3, a4, a5, a6, a7, a8⟩ := q
  have h3 : gi h 0 3 = nI st.2.1.length := dig_gi a4.2.1
  have l6 := a4.1
  rw [m_chk hM, m_gI hM (by decide), h3]
  by_cases c : st.2.1.length = 0
  · rw [if_pos c, T_ifp (by rw [c]; rfl)]
    refine T_call (M_ref3 q0) fun v h2 p => ?_
    rw [T_pp]
    exact p
  · rw [if_neg c, T_ifn (nI_ne0 (by omega) (by omega))]
    have e1 : nI st.2.1.length - nI 1 = nI (st.2.1.length - 1) := pk_sub (by omega)
    simp (disch := first | assumption | decide | omega | (simp only [ml_0, ml_1, ml_2, ml_3, ml_4, ml_5, ml_6, ml_7, ml_8, ml_9, ml_10, ml_11, ml_12, ml_13, ml_14, ml_15, ml_16, ml_17, ml_18, ml_19, ml_20, ml_21, ml_22, ml_23, ml_24, ml_25, ml_26, ml_27, ml_28, ml_29, ml_30, ml_31, ml_32, ml_33, ml_34, ml_35, ml_36]; omega) | (simp only [ml_0, ml_1, ml_2, ml_3, ml_4, ml_5, ml_6, ml_7, ml_8, ml_9, ml_10, ml_11, ml_12, ml_13, ml_14, ml_15, ml_16, ml_17, ml_18, ml_19, ml_20, ml_21, ml_22, ml_23, ml_24, ml_25, ml_26, ml_27, ml_28, ml_29, ml_30, ml_31, ml_32, ml_33, ml_34, ml_35, ml_36]; decide) | (apply MW_wIr (by decide); (repeat' (first | assumption | apply MW_wIr (by decide) | apply MW_wJr (by decide) | apply MW_wI0 rfl | apply MW_wJ0 rfl)); done) | (apply MW_wJr (by decide); (repeat' (first | assumption | apply MW_wIr (by decide) | apply MW_wJr (by decide) | apply MW_wI0 rfl | apply MW_wJ0 rfl)); done) | (apply MW_wI0 rfl; (repeat' (first | assumption | apply MW_wIr (by decide) | apply MW_wJr (by decide) | apply MW_wI0 rfl | apply MW_wJ0 rfl)); done) | (apply MW_wJ0 rfl; (repeat' (first | assumption | apply MW_wIr (by decide) | apply MW_wJr (by decide) | apply MW_wI0 rfl | apply MW_wJ0 rfl)); done)) only [T_fr, T_frJ, li_0, li_1, li_2, li_3, li_4, li_5, li_6, li_7, li_8, li_9, li_10, li_11, li_12, li_13, li_14, li_15, li_16, li_17, li_25, li_30, li_31, li_32, li_33, li_43, li_45, li_48, li_57, li_59, li_60, li_61, li_99, li_110, li_116, li_119, li_120, li_122, li_127, li_165, li_198, li_256, pk_mul, nI_add, m_chk, m_gA, mr_0, mr_1, mr_2, mr_4, mr_9, mr_10, mr_11, mr_12, mr_15, mr_16, mr_17, mr_18, mr_19, mr_20, mr_21, mr_22, mr_23, mr_24, mr_25, mr_27, mr_28, mr_29, mr_30, mr_31, mr_32, mr_33, mr_34, mr_36, mr_37, mr_38, mr_39, mr_40, mr_41, mr_42, mr_43, mr_44, m_gI, m_gJ, m_lI, m_lJ, m_tI, m_tJ, m_sI, m_sJ, T_pp, T_ifn, T_ifp, not_false_eq_true, not_true_eq_false, gi_wI_ne, gi_wJ_ne, gj_wI_ne, gj_wJ_ne, gi_wI_nk, gi_wJ_nk, gj_wI_nk, gj_wJ_nk, h3, e1]
    have hM1 : MW (wI h 0 3 (nI (st.2.1.length - 1))) := MW_wI0 rfl hM
    refine T_call (m_backLoop hM1 (s := st.2.1.length - 1) (by omega) (by rw [gi_wIm hM (by decide), if_pos ⟨rfl, rfl⟩])) fun _ h2 p => ?_
    obtain ⟨f2, p2⟩ := p
    have f1 : Fr [103] h (wI h 0 3 (nI (st.2.1.length - 1))) := (Fr.rf hM [103]).I0 rfl (by decide)
    have f : Fr [11, 103] h h2 := (f1.sub (by decide)).seq f2 (by decide)
    have g3 : gi h2 0 3 = nI (st.2.1.length - 1) := by rw [fr_gi0 f2 (by decide), gi_wIm hM (by decide), if_pos ⟨rfl, rfl⟩]
    have hM2 := f.1
    simp (disch := first | assumption | decide | omega | (simp only [ml_0, ml_1, ml_2, ml_3, ml_4, ml_5, ml_6, ml_7, ml_8, ml_9, ml_10, ml_11, ml_12, ml_13, ml_14, ml_15, ml_16, ml_17, ml_18, ml_19, ml_20, ml_21, ml_22, ml_23, ml_24, ml_25, ml_26, ml_27, ml_28, ml_29, ml_30, ml_31, ml_32, ml_33, ml_34, ml_35, ml_36]; omega) | (simp only [ml_0, ml_1, ml_2, ml_3, ml_4, ml_5, ml_6, ml_7, ml_8, ml_9, ml_10, ml_11, ml_12, ml_13, ml_14, ml_15, ml_16, ml_17, ml_18, ml_19, ml_20, ml_21, ml_22, ml_23, ml_24, ml_25, ml_26, ml_27, ml_28, ml_29, ml_30, ml_31, ml_32, ml_33, ml_34, ml_35, ml_36]; decide) | (apply MW_wIr (by decide); (repeat' (first | assumption | apply MW_wIr (by decide) | apply MW_wJr (by decide) | apply MW_wI0 rfl | apply MW_wJ0 rfl)); done) | (apply MW_wJr (by decide); (repeat' (first | assumption | apply MW_wIr (by decide) | apply MW_wJr (by decide) | apply MW_wI0 rfl | apply MW_wJ0 rfl)); done) | (apply MW_wI0 rfl; (repeat' (first | assumption | apply MW_wIr (by decide) | apply MW_wJr (by decide) | apply MW_wI0 rfl | apply MW_wJ0 rfl)); done) | (apply MW_wJ0 rfl; (repeat' (first | assumption | apply MW_wIr (by decide) | apply MW_wJr (by decide) | apply MW_wI0 rfl | apply MW_wJ0 rfl)); done)) only [T_fr, T_frJ, li_0, li_1, li_2, li_3, li_4, li_5, li_6, li_7, li_8, li_9, li_10, li_11, li_12, li_13, li_14, li_15, li_16, li_17, li_25, li_30, li_31, li_32, li_33, li_43, li_45, li_48, li_57, li_59, li_60, li_61, li_99, li_110, li_116, li_119, li_120, li_122, li_127, li_165, li_198, li_256, pk_mul, nI_add, m_chk, m_gA, mr_0, mr_1, mr_2, mr_4, mr_9, mr_10, mr_11, mr_12, mr_15, mr_16, mr_17, mr_18, mr_19, mr_20, mr_21, mr_22, mr_23, mr_24, mr_25, mr_27, mr_28, mr_29, mr_30, mr_31, mr_32, mr_33, mr_34, mr_36, mr_37, mr_38, mr_39, mr_40, mr_41, mr_42, mr_43, mr_44, m_gI, m_gJ, m_lI, m_lJ, m_tI, m_tJ, m_sI, m_sJ, T_pp, T_ifn, T_ifp, not_false_eq_true, not_true_eq_false, gi_wI_ne, gi_wJ_ne, gj_wI_ne, gj_wJ_ne, gi_wI_nk, gi_wJ_nk, gj_wI_nk, gj_wJ_nk, g3]
    have hlast : st.2.1[st.2.1.length - 1]? = some (st.2.1.getLastD st.1) := by
      have hne : st.2.1 ≠ [] := fun e => c (by rw [e]; rfl)
      rw [← List.getLast?_eq_getElem?, List.getLast?_eq_some_getLast hne]
      congr 1
      rw [List.getLastD_eq_getLast?, List.getLast?_eq_some_getLast hne]
      rfl
    obtain ⟨s1, s2⟩ := a4.2.2 _ _ hlast
    have hdl : st.2.1.dropLast.length = st.2.1.length - 1 := List.length_dropLast
    refine ⟨trivial, f.1, a5 _ (List.mem_of_getElem? hlast), ?_, ⟨by rw [hdl]; omega, ?_, fun k s hk => ?_⟩, fun s hs => a5 s ((List.dropLast_sublist _).subset hs), a6.fr f (by decide) (by decide), a7.fr f (by decide), a8.fr f (by decide)⟩
    · refine s1.cp s2 fun j hj => ?_
      rw [Nat.zero_add, p2 j hj, gj_wI_ne (by decide)]
    · rw [fr_d0 f2 (by decide), dig_wIm hM (by decide), if_pos ⟨rfl, rfl⟩, eI_nI (by omega), hdl]
    · have hk2 : st.2.1[k]? = some s := by
        rw [List.getElem?_dropLast] at hk
        split at hk
        · exact hk
        · cases hk
      exact ⟨(a4.2.2 k s hk2).1.fr f (by decide) (by decide), (a4.2.2 k s hk2).2⟩
end S4
