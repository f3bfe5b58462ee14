section S10
variable {h h' : PH} {N : Nat}
/-! space -/
def SC : List Nat := [18, 19, 20, 21, 22, 23, 105, 106, 126]
def CuAt (h : PH) (N : Nat) : Prop := dig h 0 26 = cyc N + 1 ∧ ∀ k, k < cyc N → dig h 20 k = tZr N k + 1 ∧ ∀ i, i < dim N → dig h 21 (16 * k + i) = dgJ 1 (tBr N i k) ∧ dig h 22 (16 * k + i) = 2
theorem m_laysCuspidals (hM : MW h) (h1 : 1 ≤ N) (h2 : N ≤ 25) (h11 : dig h 11 0 = N + 1) (ok : okL N h = true) : T (fX10_laysCuspidals 0) h (fun _ h' => Fr SC h h' ∧ CuAt h' N) := by
  have r0 := QM_ref h1 h2 hM h11 ok
  refine T_mono (T_ext (T_closed r0 (cus_run h1 h2))) fun _ h' p => ?_
  obtain ⟨hx, g, pg, rg', u⟩ := p
  unfold okC at pg
  rw [Bool.and_eq_true, Bool.and_eq_true] at pg
  refine ⟨kp_fr hM r0 rg' hx u pg.2.2 (by decide) (by decide), dq_at.mp (dq_ref rg' (Nat.succ_ne_zero _) pg.1), fun k hk => ?_⟩
  have := allN_at pg.2.1 k hk
  rw [Bool.and_eq_true] at this
  refine ⟨dq_at.mp (dq_ref rg' (Nat.succ_ne_zero _) this.1), fun i hi => ?_⟩
  have := allN_at this.2 i hi
  rw [Bool.and_eq_true] at this
  exact ⟨dq_at.mp (dq_ref rg' (dgJ_0 _ _) this.1), dq_at.mp (dq_ref rg' (by decide) this.2)⟩
theorem ofI' {v : Int32} {n : Nat} (e : eqI v n = true) : v = nI n := by
  rw [← Nat.eq_of_beq_eq_true e]
  exact (ofI v).symm
theorem m_plain (hM : MW h) (h1 : 1 ≤ N) (h2 : N ≤ 25) (h11 : dig h 11 0 = N + 1) (ok : okL N h = true) : T (fX10_plain 0) h (fun v h' => Fr [] h h' ∧ v = nI (clo N)) := by
  have r0 := QM_ref h1 h2 hM h11 ok
  refine T_mono (T_ext (T_closedW r0 (pla_run h1 h2))) fun v h' p => ?_
  obtain ⟨hx, g, pg, rg', u⟩ := p
  unfold okP at pg
  rw [Bool.and_eq_true] at pg
  exact ⟨kp_fr hM r0 rg' hx u pg.2 (by decide) (by decide), ofI' pg.1⟩
noncomputable def spv (N w : Nat) : Int32 := if w = 0 then nI (dim N) else if w = 1 then nI (cus N) else if w = 2 then nI (cyc N / 2) else nI (clo N)
theorem M_spaceNow {st : St} {w : Nat} (hw : w < 4) (q : MR h st) : T (fX10_spaceNow 0 (nI w)) h (fun v h' => v = spv st.1.1 w ∧ MR h' st ∧ okL st.1.1 h' = true) := by
  unfold fX10_spaceNow
  have ws := q.2.1
  have tn := tb_n ws.1 ws.2.1
  rw [m_chk q.1]
  refine T_call (M_lays q) fun _ h1 p => ?_
  obtain ⟨q1, ok, f⟩ := p
  have hM1 := q1.1
  have o := okL_at ok
  rcases (show w = 0 ∨ w = 1 ∨ w = 2 ∨ w = 3 by omega) with rfl | rfl | rfl | rfl
  · rw [T_ifp (by decide), m_gI hM1 (by decide), dig_gi o.2.2.2.1, T_pp]
    exact ⟨rfl, q1, ok⟩
  · rw [T_ifn (by decide), T_ifp (by decide), m_gI hM1 (by decide), dig_gi o.2.2.1, T_pp]
    exact ⟨rfl, q1, ok⟩
  · rw [T_ifn (by decide), T_ifn (by decide), T_ifp (by decide)]
    have t : T (fX10_genus 0) h1 (fun v h' => Fr SC h1 h' ∧ v = nI (cyc st.1.1 / 2)) := by
      unfold fX10_genus
      rw [m_chk hM1]
      refine T_call (m_laysCuspidals hM1 ws.1 ws.2.1 q1.2.2.1.1 ok) fun _ h2 p => ?_
      rw [m_gI p.1.1 (by decide), dig_gi p.2.1, T_pp]
      exact ⟨p.1, pk_div (d := 2) (by omega) (by decide) (by decide)⟩
    refine T_call t fun v h2 p => ?_
    rw [T_pp]
    exact ⟨p.2, q1.fr p.1 (by decide), by rw [okL_fr p.1 (by decide)]; exact ok⟩
  · rw [T_ifn (by decide), T_ifn (by decide), T_ifn (by decide)]
    refine T_call (m_plain hM1 ws.1 ws.2.1 q1.2.2.1.1 ok) fun v h2 p => ?_
    rw [T_pp]
    exact ⟨p.2, q1.fr p.1 (by decide), by rw [okL_fr p.1 (by decide)]; exact ok⟩
noncomputable def q_space (w : Int32) (st : St) : Int32 × St := if rg w 0 3 then (spv st.1.1 (ti w), st) else (-2, rf2 st)
theorem M_space {st : St} (w : Int32) (q : MR h st) : T (fX10_space 0 w) h (fun v h' => v = (q_space w st).1 ∧ MR h' (q_space w st).2) := by
  unfold fX10_space
  rw [m_chk q.1]
  refine T_call (m_inR (a := 0) (b := 3) (by decide) (by decide)) fun v h1 p => ?_
  obtain ⟨rfl, rfl⟩ := p
  unfold q_space
  by_cases c : rg w 0 3
  · rw [if_pos c, if_pos c, T_ifn (by decide)]
    obtain ⟨w, rfl, e, e1, e2⟩ := rg_nat c (by decide) (by decide)
    refine T_call (M_spaceNow (w := w) (by omega) q) fun v h2 p => ?_
    rw [T_pp, e]
    exact ⟨p.1, p.2.1⟩
  · rw [if_neg c, if_neg c, T_ifp rfl]
    refine T_call (M_ref2 q) fun v h2 p => ?_
    rw [T_pp]
    exact p
/-! the tables of operators -/
def TabAt (h : PH) (d : Nat) (A : Nat → Nat → Int64) : Prop := dig h 0 35 = d + 1 ∧ ∀ i j, i < d → j < d → gj h 18 (16 * i + j) = A i j ∧ gj h 19 (16 * i + j) = 1
theorem TabAt.fr {S : List Nat} {d : Nat} {A : Nat → Nat → Int64} (q : TabAt h d A) (f : Fr S h h') (h1 : 18 ∉ S) (h2 : 19 ∉ S) (h3 : 135 ∉ S) : TabAt h' d A := ⟨by rw [fr_d0 f h3]; exact q.1, fun i j hi hj => by rw [fr_gjr f (by decide) h1, fr_gjr f (by decide) h2]; exact q.2 i j hi hj⟩
theorem m_copyTab (hM : MW h) : T (plo (fX10_laysTable_B19 0) fu (nI 0)) h (fun _ h' => Fr [18, 19] h h' ∧ ∀ k, k < 256 → gj h' 18 k = gj h 26 k ∧ gj h' 19 k = gj h 27 k) := by
  refine T_for 256 (fun n h' => Fr [18, 19] h h' ∧ ∀ k, k < n → gj h' 18 k = gj h 26 k ∧ gj h' 19 k = gj h 27 k) (fun i h1 hi hI => ?_) (fun h1 hI => ?_) (by decide) (i0 := 0) (by decide) ⟨Fr.rf hM _, fun k hk => by omega⟩
  · obtain ⟨hF, hI⟩ := hI
    have hM1 := hF.1
    have c1 : ¬ nI 256 ≤ nI i := nI_ge hi (by decide)
    have e1 : gj h1 26 i = gj h 26 i := fr_gjr hF (by decide) (by decide)
    have e2 : gj h1 27 i = gj h 27 i := fr_gjr hF (by decide) (by decide)
    unfold fX10_laysTable_B19 fX10_laysTable_b19
    simp (disch := first | assumption | decide | omega | (simp only [ml_0, ml_1, ml_2, ml_3, ml_4, ml_5, ml_6, ml_7, ml_8, ml_9, ml_10, ml_11, ml_12, ml_13, ml_14, ml_15, ml_16, ml_17, ml_18, ml_19, ml_20, ml_21, ml_22, ml_23, ml_24, ml_25, ml_26, ml_27, ml_28, ml_29, ml_30, ml_31, ml_32, ml_33, ml_34, ml_35, ml_36]; omega) | (simp only [ml_0, ml_1, ml_2, ml_3, ml_4, ml_5, ml_6, ml_7, ml_8, ml_9, ml_10, ml_11, ml_12, ml_13, ml_14, ml_15, ml_16, ml_17, ml_18, ml_19, ml_20, ml_21, ml_22, ml_23, ml_24, ml_25, ml_26, ml_27, ml_28, ml_29, ml_30, ml_31, ml_32, ml_33, ml_34, ml_35, ml_36]; decide) | (apply MW_wIr (by decide); (repeat' (first | assumption | apply MW_wIr (by decide) | apply MW_wJr (by decide) | apply MW_wI0 rfl | apply MW_wJ0 rfl)); done) | (apply MW_wJr (by decide); (repeat' (first | assumption | apply MW_wIr (by decide) | apply MW_wJr (by decide) | apply MW_wI0 rfl | apply MW_wJ0 rfl)); done) | (apply MW_wI0 rfl; (repeat' (first | assumption | apply MW_wIr (by decide) | apply MW_wJr (by decide) | apply MW_wI0 rfl | apply MW_wJ0 rfl)); done) | (apply MW_wJ0 rfl; (repeat' (first | assumption | apply MW_wIr (by decide) | apply MW_wJr (by decide) | apply MW_wI0 rfl | apply MW_wJ0 rfl)); done)) only [T_fr, T_frJ, li_0, li_1, li_2, li_3, li_4, li_5, li_6, li_7, li_8, li_9, li_10, li_11, li_12, li_13, li_14, li_15, li_16, li_17, li_25, li_30, li_31, li_32, li_33, li_43, li_45, li_48, li_57, li_59, li_60, li_61, li_99, li_110, li_116, li_119, li_120, li_122, li_127, li_165, li_198, li_256, pk_mul, nI_add, m_chk, m_gA, mr_0, mr_1, mr_2, mr_4, mr_9, mr_10, mr_11, mr_12, mr_15, mr_16, mr_17, mr_18, mr_19, mr_20, mr_21, mr_22, mr_23, mr_24, mr_25, mr_27, mr_28, mr_29, mr_30, mr_31, mr_32, mr_33, mr_34, mr_36, mr_37, mr_38, mr_39, mr_40, mr_41, mr_42, mr_43, mr_44, m_gI, m_gJ, m_lI, m_lJ, m_tI, m_tJ, m_sI, m_sJ, T_pp, T_ifn, T_ifp, not_false_eq_true, not_true_eq_false, gi_wI_ne, gi_wJ_ne, gj_wI_ne, gj_wJ_ne, gi_wI_nk, gi_wJ_nk, gj_wI_nk, gj_wJ_nk, e1, e2]
    refine ⟨trivial, (hF.J (by decide) (by decide)).J (by decide) (by decide), fun k hk => ?_⟩
    by_cases c : k = i
    · subst c
      try simp (disch := first | assumption | decide | omega | (simp only [ml_0, ml_1, ml_2, ml_3, ml_4, ml_5, ml_6, ml_7, ml_8, ml_9, ml_10, ml_11, ml_12, ml_13, ml_14, ml_15, ml_16, ml_17, ml_18, ml_19, ml_20, ml_21, ml_22, ml_23, ml_24, ml_25, ml_26, ml_27, ml_28, ml_29, ml_30, ml_31, ml_32, ml_33, ml_34, ml_35, ml_36]; omega) | (simp only [ml_0, ml_1, ml_2, ml_3, ml_4, ml_5, ml_6, ml_7, ml_8, ml_9, ml_10, ml_11, ml_12, ml_13, ml_14, ml_15, ml_16, ml_17, ml_18, ml_19, ml_20, ml_21, ml_22, ml_23, ml_24, ml_25, ml_26, ml_27, ml_28, ml_29, ml_30, ml_31, ml_32, ml_33, ml_34, ml_35, ml_36]; decide) | (apply MW_wIr (by decide); (repeat' (first | assumption | apply MW_wIr (by decide) | apply MW_wJr (by decide) | apply MW_wI0 rfl | apply MW_wJ0 rfl)); done) | (apply MW_wJr (by decide); (repeat' (first | assumption | apply MW_wIr (by decide) | apply MW_wJr (by decide) | apply MW_wI0 rfl | apply MW_wJ0 rfl)); done) | (apply MW_wI0 rfl; (repeat' (first | assumption | apply MW_wIr (by decide) | apply MW_wJr (by decide) | apply MW_wI0 rfl | apply MW_wJ0 rfl)); done) | (apply MW_wJ0 rfl; (repeat' (first | assumption | apply MW_wIr (by decide) | apply MW_wJr (by decide) | apply MW_wI0 rfl | apply MW_wJ0 rfl)); done)) only [gi_wI_ne, gi_wJ_ne, gj_wI_ne, gj_wJ_ne, gi_wI_nk, gi_wJ_nk, gj_wI_nk, gj_wJ_nk, gj_wJm, gi_wIm, if_neg, if_pos, true_and, and_true]
    · have := hI k (by omega)
      try simp (disch := first | assumption | decide | omega | (simp only [ml_0, ml_1, ml_2, ml_3, ml_4, ml_5, ml_6, ml_7, ml_8, ml_9, ml_10, ml_11, ml_12, ml_13, ml_14, ml_15, ml_16, ml_17, ml_18, ml_19, ml_20, ml_21, ml_22, ml_23, ml_24, ml_25, ml_26, ml_27, ml_28, ml_29, ml_30, ml_31, ml_32, ml_33, ml_34, ml_35, ml_36]; omega) | (simp only [ml_0, ml_1, ml_2, ml_3, ml_4, ml_5, ml_6, ml_7, ml_8, ml_9, ml_10, ml_11, ml_12, ml_13, ml_14, ml_15, ml_16, ml_17, ml_18, ml_19, ml_20, ml_21, ml_22, ml_23, ml_24, ml_25, ml_26, ml_27, ml_28, ml_29, ml_30, ml_31, ml_32, ml_33, ml_34, ml_35, ml_36]; decide) | (apply MW_wIr (by decide); (repeat' (first | assumption | apply MW_wIr (by decide) | apply MW_wJr (by decide) | apply MW_wI0 rfl | apply MW_wJ0 rfl)); done) | (apply MW_wJr (by decide); (repeat' (first | assumption | apply MW_wIr (by decide) | apply MW_wJr (by decide) | apply MW_wI0 rfl | apply MW_wJ0 rfl)); done) | (apply MW_wI0 rfl; (repeat' (first | assumption | apply MW_wIr (by decide) | apply MW_wJr (by decide) | apply MW_wI0 rfl | apply MW_wJ0 rfl)); done) | (apply MW_wJ0 rfl; (repeat' (first | assumption | apply MW_wIr (by decide) | apply MW_wJr (by decide) | apply MW_wI0 rfl | apply MW_wJ0 rfl)); done)) only [gi_wI_ne, gi_wJ_ne, gj_wI_ne, gj_wJ_ne, gi_wI_nk, gi_wJ_nk, gj_wI_nk, gj_wJ_nk, gj_wJm, gi_wIm, if_neg, if_pos, true_and, and_true]
      exact this
  · have hM1 := hI.1.1
    unfold fX10_laysTable_B19 fX10_laysTable_b19
    have c1 : nI 256 ≤ nI 256 := by decide
    simp (disch := first | assumption | decide | omega | (simp only [ml_0, ml_1, ml_2, ml_3, ml_4, ml_5, ml_6, ml_7, ml_8, ml_9, ml_10, ml_11, ml_12, ml_13, ml_14, ml_15, ml_16, ml_17, ml_18, ml_19, ml_20, ml_21, ml_22, ml_23, ml_24, ml_25, ml_26, ml_27, ml_28, ml_29, ml_30, ml_31, ml_32, ml_33, ml_34, ml_35, ml_36]; omega) | (simp only [ml_0, ml_1, ml_2, ml_3, ml_4, ml_5, ml_6, ml_7, ml_8, ml_9, ml_10, ml_11, ml_12, ml_13, ml_14, ml_15, ml_16, ml_17, ml_18, ml_19, ml_20, ml_21, ml_22, ml_23, ml_24, ml_25, ml_26, ml_27, ml_28, ml_29, ml_30, ml_31, ml_32, ml_33, ml_34, ml_35, ml_36]; decide) | (apply MW_wIr (by decide); (repeat' (first | assumption | apply MW_wIr (by decide) | apply MW_wJr (by decide) | apply MW_wI0 rfl | apply MW_wJ0 rfl)); done) | (apply MW_wJr (by decide); (repeat' (first | assumption | apply MW_wIr (by decide) | apply MW_wJr (by decide) | apply MW_wI0 rfl | apply MW_wJ0 rfl)); done) | (apply MW_wI0 rfl; (repeat' (first | assumption | apply MW_wIr (by decide) | apply MW_wJr (by decide) | apply MW_wI0 rfl | apply MW_wJ0 rfl)); done) | (apply MW_wJ0 rfl; (repeat' (first | assumption | apply MW_wIr (by decide) | apply MW_wJr (by decide) | apply MW_wI0 rfl | apply MW_wJ0 rfl)); done)) only [T_fr, T_frJ, li_0, li_1, li_2, li_3, li_4, li_5, li_6, li_7, li_8, li_9, li_10, li_11, li_12, li_13, li_14, li_15, li_16, li_17, li_25, li_30, li_31, li_32, li_33, li_43, li_45, li_48, li_57, li_59, li_60, li_61, li_99, li_110, li_116, li_119, li_120, li_122, li_127, li_165, li_198, li_256, pk_mul, nI_add, m_chk, m_gA, mr_0, mr_1, mr_2, mr_4, mr_9, mr_10, mr_11, mr_12, mr_15, mr_16, mr_17, mr_18, mr_19, mr_20, mr_21, mr_22, mr_23, mr_24, mr_25, mr_27, mr_28, mr_29, mr_30, mr_31, mr_32, mr_33, mr_34, mr_36, mr_37, mr_38, mr_39, mr_40, mr_41, mr_42, mr_43, mr_44, m_gI, m_gJ, m_lI, m_lJ, m_tI, m_tJ, m_sI, m_sJ, T_pp, T_ifn, T_ifp, not_false_eq_true, not_true_eq_false, gi_wI_ne, gi_wJ_ne, gj_wI_ne, gj_wJ_ne, gi_wI_nk, gi_wJ_nk, gj_wI_nk, gj_wJ_nk]
    exact ⟨(), trivial, hI⟩
theorem M_laysTable0 {st : St} {n : Nat} (q : MR h st) (hc : cop st.1.1 n) : T (fX10_laysTable 0 (nI n) 0) h (fun _ h' => MR h' st ∧ TabAt h' (dim st.1.1) (mJ st.1.1 n)) := by
  unfold fX10_laysTable
  have tn := tb_n hc.1 hc.2.1
  rw [m_chk q.1]
  refine T_call (M_laysOperator q hc) fun _ h1 p => ?_
  obtain ⟨q1, ok, o, -⟩ := p
  have hM1 := q1.1
  rw [T_ifp (by decide), m_gI hM1 (by decide), dig_gi (okL_at ok).2.2.2.1, m_sI hM1 (by decide)]
  have hM2 : MW (wI h1 0 35 (nI (dim st.1.1))) := MW_wI0 rfl hM1
  refine T_call (m_copyTab hM2) fun _ h3 p => ?_
  obtain ⟨f3, p3⟩ := p
  rw [T_pp]
  have f : Fr [18, 19, 135] h1 h3 := ((Fr.rf hM1 [18, 19, 135]).I0 (k := 35) rfl (by decide)).seq f3 (by decide)
  refine ⟨q1.fr f (by decide), ?_, fun i j hi hj => ?_⟩
  · rw [fr_d0 f3 (by decide), dig_wIm hM1 (by decide), if_pos ⟨rfl, rfl⟩, eI_nI (by omega)]
  · have p := p3 (16 * i + j) (by omega)
    rw [p.1, p.2, gj_wI_ne (by decide), gj_wI_ne (by decide), dig_mJ (o i j hi hj).1, dig_gl (n := 1) (o i j hi hj).2]
    exact ⟨rfl, rfl⟩
noncomputable def qJ (N n i j : Nat) : Int64 := Int64.ofNat (dgJ 64 (tQr N n i j) - 1)
noncomputable def qt (N n a k : Nat) : Nat :=
  if a = 0 then (if mref k ≠ 0 then mref k + 2 else if k = 14 then dim N + 1 else if k = 35 then cyc N + 1 else 0)
  else if a = 20 then (if k < cyc N then tZr N k + 1 else 0)
  else if a = 21 then (if k / 16 < cyc N ∧ k % 16 < dim N then dgJ 1 (tBr N (k % 16) (k / 16)) else 0)
  else if a = 22 then (if k / 16 < cyc N ∧ k % 16 < dim N then 2 else 0)
  else if a = 26 then (if k / 16 < dim N ∧ k % 16 < dim N then dgJ 64 (tM N n (k / 16) (k % 16)) else 0)
  else if a = 27 then (if k / 16 < dim N ∧ k % 16 < dim N then 2 else 0)
  else 0
theorem QT_ok : allN 26 (fun N => allN 8 fun n => !(Nat.ble 1 N && (Nat.ble 1 n && Nat.beq (Nat.gcd n N) 1)) || (shp (QT N n) && dgt (QT N n) (qt N n))) = true := by decide +kernel
theorem QT_ref {n : Nat} (hc : cop N n) (hM : MW h) (h14 : dig h 0 14 = dim N + 1) (h35 : dig h 0 35 = cyc N + 1) (cu : CuAt h N) (o : OpAt h N n) : Ref (QT N n) h := by
  obtain ⟨c1, c2, c3, c4, c5⟩ := hc
  have k1 := allN_at (allN_at QT_ok N (by omega)) n (by omega)
  rw [Nat.ble_eq_true_of_le c1, Nat.ble_eq_true_of_le c3, c5] at k1
  have k2 : (shp (QT N n) && dgt (QT N n) (qt N n)) = true := k1
  rw [Bool.and_eq_true] at k2
  obtain ⟨z1, z2⟩ := k2
  refine Ref_lit z1 hM fun a k ha hk => ?_
  rcases dgt_at z2 a k ha hk with z | z
  · exact Or.inl z
  · unfold qt at z
    split at z
    · rename_i c
      subst c
      split at z
      · rename_i c
        right; rw [z, hM.2.2 k c]
      · split at z
        · rename_i c; subst c; right; rw [z, h14]
        · split at z
          · rename_i c; subst c; right; rw [z, h35]
          · exact Or.inl z
    · split at z
      · rename_i c; subst c
        split at z
        · rename_i c; right; rw [z, (cu.2 k c).1]
        · exact Or.inl z
      · split at z
        · rename_i c; subst c
          split at z
          · rename_i c
            right
            have := (cu.2 _ c.1).2 _ c.2
            rw [show 16 * (k / 16) + k % 16 = k by omega] at this
            rw [z, this.1]
          · exact Or.inl z
        · split at z
          · rename_i c; subst c
            split at z
            · rename_i c
              right
              have := (cu.2 _ c.1).2 _ c.2
              rw [show 16 * (k / 16) + k % 16 = k by omega] at this
              rw [z, this.2]
            · exact Or.inl z
          · split at z
            · rename_i c; subst c
              split at z
              · rename_i c
                right
                have := o _ _ c.1 c.2
                rw [show 16 * (k / 16) + k % 16 = k by omega] at this
                rw [z, this.1]
              · exact Or.inl z
            · split at z
              · rename_i c; subst c
                split at z
                · rename_i c
                  right
                  have := o _ _ c.1 c.2
                  rw [show 16 * (k / 16) + k % 16 = k by omega] at this
                  rw [z, this.2]
                · exact Or.inl z
              · exact Or.inl z
theorem M_laysTable1 {st : St} {n : Nat} (q : MR h st) (hc : cop st.1.1 n) : T (fX10_laysTable 0 (nI n) 1) h (fun _ h' => MR h' st ∧ TabAt h' (cyc st.1.1) (qJ st.1.1 n)) := by
  unfold fX10_laysTable
  have tn := tb_n hc.1 hc.2.1
  rw [m_chk q.1]
  refine T_call (M_laysOperator q hc) fun _ h1 p => ?_
  obtain ⟨q1, ok, o, -⟩ := p
  rw [T_ifn (by decide)]
  refine T_call (m_laysCuspidals q1.1 hc.1 hc.2.1 q1.2.2.1.1 ok) fun _ h2 p => ?_
  obtain ⟨f2, cu⟩ := p
  have hM2 := f2.1
  have hM3 : MW (wI h2 0 35 (nI (cyc st.1.1))) := MW_wI0 rfl hM2
  rw [m_gI hM2 (by decide), dig_gi cu.1, m_sI hM2 (by decide)]
  have f3 : Fr [135] h2 (wI h2 0 35 (nI (cyc st.1.1))) := (Fr.rf hM2 [135]).I0 rfl (by decide)
  have f13 : Fr [18, 19, 20, 21, 22, 23, 105, 106, 126, 135] h1 (wI h2 0 35 (nI (cyc st.1.1))) := (f2.sub (by decide)).seq f3 (by decide)
  have e35 : dig (wI h2 0 35 (nI (cyc st.1.1))) 0 35 = cyc st.1.1 + 1 := by rw [dig_wIm hM2 (by decide), if_pos ⟨rfl, rfl⟩, eI_nI (by omega)]
  have r0 : Ref (QT st.1.1 n) (wI h2 0 35 (nI (cyc st.1.1))) := QT_ref hc hM3 (by rw [fr_d0 f13 (by decide)]; exact (okL_at ok).2.2.2.1) e35 ⟨by rw [fr_d0 f3 (by decide)]; exact cu.1, fun k hk => ⟨by rw [fr_dr f3 (by decide) (by decide)]; exact (cu.2 k hk).1, fun i hi => by rw [fr_dr f3 (by decide) (by decide), fr_dr f3 (by decide) (by decide)]; exact (cu.2 k hk).2 i hi⟩⟩ (fun i j hi hj => by rw [fr_dr f13 (by decide) (by decide), fr_dr f13 (by decide) (by decide)]; exact o i j hi hj)
  refine T_mono (T_ext (T_closed r0 (tab_run hc))) fun _ h' p => ?_
  obtain ⟨hx, g, pg, rg', u⟩ := p
  unfold okT at pg
  rw [Bool.and_eq_true] at pg
  have f4 : Fr [18, 19, 105, 106] (wI h2 0 35 (nI (cyc st.1.1))) h' := kp_fr hM3 r0 rg' hx u pg.2 (by decide) (by decide)
  refine ⟨q1.fr (f13.seq f4 (by decide)) (by decide), by rw [fr_d0 f4 (by decide)]; exact e35, fun i j hi hj => ?_⟩
  have := allN_at (allN_at pg.1 i hi) j hj
  rw [Bool.and_eq_true] at this
  have d1 := dq_at.mp (dq_ref rg' (dgJ_0 _ _) this.1)
  have d2 := dq_at.mp (dq_ref rg' (by decide) this.2)
  exact ⟨by unfold gj qJ; rw [d1], dig_gl (n := 1) d2⟩
/-! products, diagonals, polynomials -/
def dsum (D : Nat → Int64) : Nat → Int64
  | 0 => 0
  | k + 1 => dsum D k + D k
def mm (A B : Nat → Nat → Int64) (i j : Nat) : Nat → Int64
  | 0 => 0
  | k + 1 => mm A B i j k + A i k * B k j
theorem m_diagonal (hM : MW h) {d : Nat} (hd : d ≤ 9) (h35 : dig h 0 35 = d + 1) {D : Nat → Int64} (hD : ∀ k, k < d → gj h 30 (17 * k) = D k ∧ gj h 31 (17 * k) = 1) : T (fX10_diagonal 0) h (fun v h' => Fr [105, 106] h h' ∧ v = dsum D d) := by
  unfold fX10_diagonal
  rw [m_chk hM]
  refine T_call (m_laysTrace hM) fun _ h1 p => ?_
  obtain ⟨f1, p5, p6⟩ := p
  refine T_call (P := fun _ h' => Fr [105, 106] h h' ∧ gj h' 0 5 = dsum D d ∧ gj h' 0 6 = 1) ?_ (fun _ ha p => ?_)
  · refine T_for d (fun m h' => Fr [105, 106] h h' ∧ gj h' 0 5 = dsum D m ∧ gj h' 0 6 = 1) (fun i ha hi hI => ?_) (fun ha hI => ?_) (by omega) (i0 := 0) (by omega) ⟨f1, p5, p6⟩
    · obtain ⟨hF, i5, i6⟩ := hI
      have hM1 := hF.1
      have g35 : gi ha 0 35 = nI d := by rw [fr_gi0 hF (by decide)]; exact dig_gi h35
      have c1 : ¬ nI d ≤ nI i := nI_ge hi (by omega)
      have e1 : gj ha 30 (17 * i) = D i := by rw [fr_gjr hF (by decide) (by decide)]; exact (hD i hi).1
      have e2 : gj ha 31 (17 * i) = 1 := by rw [fr_gjr hF (by decide) (by decide)]; exact (hD i hi).2
      unfold fX10_diagonal_B6 fX10_diagonal_b6
      rw [T_fr, m_gI hM1 (by decide), g35, T_ifn c1]
      simp (disch := first | assumption | decide | omega | (simp only [ml_0, ml_1, ml_2, ml_3, ml_4, ml_5, ml_6, ml_7, ml_8, ml_9, ml_10, ml_11, ml_12, ml_13, ml_14, ml_15, ml_16, ml_17, ml_18, ml_19, ml_20, ml_21, ml_22, ml_23, ml_24, ml_25, ml_26, ml_27, ml_28, ml_29, ml_30, ml_31, ml_32, ml_33, ml_34, ml_35, ml_36]; omega) | (simp only [ml_0, ml_1, ml_2, ml_3, ml_4, ml_5, ml_6, ml_7, ml_8, ml_9, ml_10, ml_11, ml_12, ml_13, ml_14, ml_15, ml_16, ml_17, ml_18, ml_19, ml_20, ml_21, ml_22, ml_23, ml_24, ml_25, ml_26, ml_27, ml_28, ml_29, ml_30, ml_31, ml_32, ml_33, ml_34, ml_35, ml_36]; decide) | (apply MW_wIr (by decide); (repeat' (first | assumption | apply MW_wIr (by decide) | apply MW_wJr (by decide) | apply MW_wI0 rfl | apply MW_wJ0 rfl)); done) | (apply MW_wJr (by decide); (repeat' (first | assumption | apply MW_wIr (by decide) | apply MW_wJr (by decide) | apply MW_wI0 rfl | apply MW_wJ0 rfl)); done) | (apply MW_wI0 rfl; (repeat' (first | assumption | apply MW_wIr (by decide) | apply MW_wJr (by decide) | apply MW_wI0 rfl | apply MW_wJ0 rfl)); done) | (apply MW_wJ0 rfl; (repeat' (first | assumption | apply MW_wIr (by decide) | apply MW_wJr (by decide) | apply MW_wI0 rfl | apply MW_wJ0 rfl)); done)) only [T_fr, T_frJ, li_0, li_1, li_2, li_3, li_4, li_5, li_6, li_7, li_8, li_9, li_10, li_11, li_12, li_13, li_14, li_15, li_16, li_17, li_25, li_30, li_31, li_32, li_33, li_43, li_45, li_48, li_57, li_59, li_60, li_61, li_99, li_110, li_116, li_119, li_120, li_122, li_127, li_165, li_198, li_256, pk_mul, nI_add, m_chk, m_gA, mr_0, mr_1, mr_2, mr_4, mr_9, mr_10, mr_11, mr_12, mr_15, mr_16, mr_17, mr_18, mr_19, mr_20, mr_21, mr_22, mr_23, mr_24, mr_25, mr_27, mr_28, mr_29, mr_30, mr_31, mr_32, mr_33, mr_34, mr_36, mr_37, mr_38, mr_39, mr_40, mr_41, mr_42, mr_43, mr_44, m_gI, m_gJ, m_lI, m_lJ, m_tI, m_tJ, m_sI, m_sJ, T_pp, T_ifn, T_ifp, not_false_eq_true, not_true_eq_false, gi_wI_ne, gi_wJ_ne, gj_wI_ne, gj_wJ_ne, gi_wI_nk, gi_wJ_nk, gj_wI_nk, gj_wJ_nk, i5, i6, e1, e2]
      refine T_call (m_sumOf1 hM1 _ _) fun _ hb p => ?_
      obtain ⟨r, p5, p6⟩ := p
      rw [T_pp]
      exact ⟨rfl, hF.tr r, p5, p6⟩
    · obtain ⟨hF, i5, i6⟩ := hI
      have hM1 := hF.1
      have g35 : gi ha 0 35 = nI d := by rw [fr_gi0 hF (by decide)]; exact dig_gi h35
      have c1 : nI d ≤ nI d := nI_le (Nat.le_refl _) (by omega)
      unfold fX10_diagonal_B6 fX10_diagonal_b6
      rw [T_fr, m_gI hM1 (by decide), g35, T_ifp c1, T_pp]
      exact ⟨(), rfl, hF, i5, i6⟩
  · obtain ⟨hF, i5, i6⟩ := p
    rw [m_gJ hF.1 (by decide), m_gJ hF.1 (by decide), i5, i6, T_ifn (by decide), T_pp, J_div1]
    exact ⟨hF, rfl⟩
theorem m_mulRow (hM : MW h) {d : Nat} (hd : d ≤ 9) {A B : Nat → Nat → Int64} (hA : TabAt h d A) (hB : ∀ i j, i < d → j < d → gj h 28 (16 * i + j) = B i j ∧ gj h 29 (16 * i + j) = 1) {i j : Nat} (hi : i < d) (hj : j < d) : T (plo (fX10_multiplies_B28 0 (nI i) (nI j)) fu (0, 1, nI 0)) h (fun z h' => Fr [105, 106] h h' ∧ z = (mm A B i j d, 1)) := by
  refine T_loop (fun m x ha => ∃ k, x = (mm A B i j k, 1, nI k) ∧ k ≤ d ∧ m = d - k ∧ Fr [105, 106] h ha) (fun m x ha I => ?_) fu d _ h (by unfold fu; omega) ⟨0, rfl, by omega, by omega, Fr.rf hM _⟩
  obtain ⟨k, rfl, hk, rfl, hF⟩ := I
  have hM1 := hF.1
  have g35 : gi ha 0 35 = nI d := by rw [fr_gi0 hF (by decide)]; exact dig_gi hA.1
  unfold fX10_multiplies_B28 fX10_multiplies_b28
  rw [T_frJ, T_frJ, T_fr]
  dsimp only
  rw [m_gI hM1 (by decide), g35]
  by_cases c : k = d
  · rw [T_ifp (by rw [c]; exact nI_le (Nat.le_refl _) (by omega)), T_pp]
    exact Or.inr ⟨_, rfl, hF, by rw [c]⟩
  · have c1 : ¬ nI d ≤ nI k := nI_ge (by omega) (by omega)
    rw [T_ifn c1]
    have g1 : gj ha 18 (16 * i + k) = A i k := by rw [fr_gjr hF (by decide) (by decide)]; exact (hA.2 i k hi (by omega)).1
    have g2 : gj ha 19 (16 * i + k) = 1 := by rw [fr_gjr hF (by decide) (by decide)]; exact (hA.2 i k hi (by omega)).2
    have g3 : gj ha 28 (16 * k + j) = B k j := by rw [fr_gjr hF (by decide) (by decide)]; exact (hB k j (by omega) hj).1
    have g4 : gj ha 29 (16 * k + j) = 1 := by rw [fr_gjr hF (by decide) (by decide)]; exact (hB k j (by omega) hj).2
    simp (disch := first | assumption | decide | omega | (simp only [ml_0, ml_1, ml_2, ml_3, ml_4, ml_5, ml_6, ml_7, ml_8, ml_9, ml_10, ml_11, ml_12, ml_13, ml_14, ml_15, ml_16, ml_17, ml_18, ml_19, ml_20, ml_21, ml_22, ml_23, ml_24, ml_25, ml_26, ml_27, ml_28, ml_29, ml_30, ml_31, ml_32, ml_33, ml_34, ml_35, ml_36]; omega) | (simp only [ml_0, ml_1, ml_2, ml_3, ml_4, ml_5, ml_6, ml_7, ml_8, ml_9, ml_10, ml_11, ml_12, ml_13, ml_14, ml_15, ml_16, ml_17, ml_18, ml_19, ml_20, ml_21, ml_22, ml_23, ml_24, ml_25, ml_26, ml_27, ml_28, ml_29, ml_30, ml_31, ml_32, ml_33, ml_34, ml_35, ml_36]; decide) | (apply MW_wIr (by decide); (repeat' (first | assumption | apply MW_wIr (by decide) | apply MW_wJr (by decide) | apply MW_wI0 rfl | apply MW_wJ0 rfl)); done) | (apply MW_wJr (by decide); (repeat' (first | assumption | apply MW_wIr (by decide) | apply MW_wJr (by decide) | apply MW_wI0 rfl | apply MW_wJ0 rfl)); done) | (apply MW_wI0 rfl; (repeat' (first | assumption | apply MW_wIr (by decide) | apply MW_wJr (by decide) | apply MW_wI0 rfl | apply MW_wJ0 rfl)); done) | (apply MW_wJ0 rfl; (repeat' (first | assumption | apply MW_wIr (by decide) | apply MW_wJr (by decide) | apply MW_wI0 rfl | apply MW_wJ0 rfl)); done)) only [T_fr, T_frJ, li_0, li_1, li_2, li_3, li_4, li_5, li_6, li_7, li_8, li_9, li_10, li_11, li_12, li_13, li_14, li_15, li_16, li_17, li_25, li_30, li_31, li_32, li_33, li_43, li_45, li_48, li_57, li_59, li_60, li_61, li_99, li_110, li_116, li_119, li_120, li_122, li_127, li_165, li_198, li_256, pk_mul, nI_add, m_chk, m_gA, mr_0, mr_1, mr_2, mr_4, mr_9, mr_10, mr_11, mr_12, mr_15, mr_16, mr_17, mr_18, mr_19, mr_20, mr_21, mr_22, mr_23, mr_24, mr_25, mr_27, mr_28, mr_29, mr_30, mr_31, mr_32, mr_33, mr_34, mr_36, mr_37, mr_38, mr_39, mr_40, mr_41, mr_42, mr_43, mr_44, m_gI, m_gJ, m_lI, m_lJ, m_tI, m_tJ, m_sI, m_sJ, T_pp, T_ifn, T_ifp, not_false_eq_true, not_true_eq_false, gi_wI_ne, gi_wJ_ne, gj_wI_ne, gj_wJ_ne, gi_wI_nk, gi_wJ_nk, gj_wI_nk, gj_wJ_nk, g1, g2, g3, g4]
    refine T_call (m_more1 hM1 _ _ _) fun _ hb p => ?_
    obtain ⟨r, p5, p6⟩ := p
    rw [m_gJ r.1 (by decide), m_gJ r.1 (by decide), p5, p6, T_pp]
    exact Or.inl ⟨_, d - (k + 1), rfl, by omega, k + 1, rfl, by omega, rfl, hF.tr r⟩
theorem m_multiplies (hM : MW h) {d : Nat} (hd : d ≤ 9) {A B : Nat → Nat → Int64} (hA : TabAt h d A) (hB : ∀ i j, i < d → j < d → gj h 28 (16 * i + j) = B i j ∧ gj h 29 (16 * i + j) = 1) : T (fX10_multiplies 0) h (fun _ h' => Fr [30, 31, 105, 106] h h' ∧ ∀ i j, i < d → j < d → gj h' 30 (16 * i + j) = mm A B i j d ∧ gj h' 31 (16 * i + j) = 1) := by
  have g35 := dig_gi hA.1
  unfold fX10_multiplies
  rw [m_chk hM]
  refine T_call (P := fun _ h' => Fr [30, 31, 105, 106] h h' ∧ ∀ i j, i < d → j < d → gj h' 30 (16 * i + j) = mm A B i j d ∧ gj h' 31 (16 * i + j) = 1) ?_ (fun _ ha p => by rw [T_pp]; exact p)
  refine T_for d (fun m h' => Fr [30, 31, 105, 106] h h' ∧ ∀ i j, i < m → j < d → gj h' 30 (16 * i + j) = mm A B i j d ∧ gj h' 31 (16 * i + j) = 1) (fun i ha hi hI => ?_) (fun ha hI => ?_) (by omega) (i0 := 0) (by omega) ⟨Fr.rf hM _, fun i j hi => by omega⟩
  · obtain ⟨hF, hI⟩ := hI
    have hM1 := hF.1
    have g35' : gi ha 0 35 = nI d := by rw [fr_gi0 hF (by decide)]; exact g35
    have c1 : ¬ nI d ≤ nI i := nI_ge hi (by omega)
    unfold fX10_multiplies_B2 fX10_multiplies_b2
    rw [T_fr, m_gI hM1 (by decide), g35', T_ifn c1]
    refine T_call (P := fun _ h' => Fr [30, 31, 105, 106] h h' ∧ ∀ a j, (a < i ∨ a = i) → j < d → gj h' 30 (16 * a + j) = mm A B a j d ∧ gj h' 31 (16 * a + j) = 1) ?_ (fun _ hb p => ?_)
    · refine T_for d (fun m h' => Fr [30, 31, 105, 106] h h' ∧ ∀ a j, ((a < i ∧ j < d) ∨ (a = i ∧ j < m)) → gj h' 30 (16 * a + j) = mm A B a j d ∧ gj h' 31 (16 * a + j) = 1) (fun j hb hj hJ => ?_) (fun hb hJ => ?_) (by omega) (i0 := 0) (by omega) ⟨hF, fun a j hz => hI a j (by omega) (by omega)⟩
      · obtain ⟨hG, hJ⟩ := hJ
        have hM2 := hG.1
        have g35b : gi hb 0 35 = nI d := by rw [fr_gi0 hG (by decide)]; exact g35
        have c2 : ¬ nI d ≤ nI j := nI_ge hj (by omega)
        unfold fX10_multiplies_B12 fX10_multiplies_b12
        rw [T_fr, m_gI hM2 (by decide), g35b, T_ifn c2]
        refine T_call (m_mulRow hM2 hd (hA.fr hG (by decide) (by decide) (by decide)) (fun a b ha' hb' => by rw [fr_gjr hG (by decide) (by decide), fr_gjr hG (by decide) (by decide)]; exact hB a b ha' hb') hi hj) fun z hc p => ?_
        obtain ⟨r, rfl⟩ := p
        have hM3 := r.1
        simp (disch := first | assumption | decide | omega | (simp only [ml_0, ml_1, ml_2, ml_3, ml_4, ml_5, ml_6, ml_7, ml_8, ml_9, ml_10, ml_11, ml_12, ml_13, ml_14, ml_15, ml_16, ml_17, ml_18, ml_19, ml_20, ml_21, ml_22, ml_23, ml_24, ml_25, ml_26, ml_27, ml_28, ml_29, ml_30, ml_31, ml_32, ml_33, ml_34, ml_35, ml_36]; omega) | (simp only [ml_0, ml_1, ml_2, ml_3, ml_4, ml_5, ml_6, ml_7, ml_8, ml_9, ml_10, ml_11, ml_12, ml_13, ml_14, ml_15, ml_16, ml_17, ml_18, ml_19, ml_20, ml_21, ml_22, ml_23, ml_24, ml_25, ml_26, ml_27, ml_28, ml_29, ml_30, ml_31, ml_32, ml_33, ml_34, ml_35, ml_36]; decide) | (apply MW_wIr (by decide); (repeat' (first | assumption | apply MW_wIr (by decide) | apply MW_wJr (by decide) | apply MW_wI0 rfl | apply MW_wJ0 rfl)); done) | (apply MW_wJr (by decide); (repeat' (first | assumption | apply MW_wIr (by decide) | apply MW_wJr (by decide) | apply MW_wI0 rfl | apply MW_wJ0 rfl)); done) | (apply MW_wI0 rfl; (repeat' (first | assumption | apply MW_wIr (by decide) | apply MW_wJr (by decide) | apply MW_wI0 rfl | apply MW_wJ0 rfl)); done) | (apply MW_wJ0 rfl; (repeat' (first | assumption | apply MW_wIr (by decide) | apply MW_wJr (by decide) | apply MW_wI0 rfl | apply MW_wJ0 rfl)); done)) only [T_fr, T_frJ, li_0, li_1, li_2, li_3, li_4, li_5, li_6, li_7, li_8, li_9, li_10, li_11, li_12, li_13, li_14, li_15, li_16, li_17, li_25, li_30, li_31, li_32, li_33, li_43, li_45, li_48, li_57, li_59, li_60, li_61, li_99, li_110, li_116, li_119, li_120, li_122, li_127, li_165, li_198, li_256, pk_mul, nI_add, m_chk, m_gA, mr_0, mr_1, mr_2, mr_4, mr_9, mr_10, mr_11, mr_12, mr_15, mr_16, mr_17, mr_18, mr_19, mr_20, mr_21, mr_22, mr_23, mr_24, mr_25, mr_27, mr_28, mr_29, mr_30, mr_31, mr_32, mr_33, mr_34, mr_36, mr_37, mr_38, mr_39, mr_40, mr_41, mr_42, mr_43, mr_44, m_gI, m_gJ, m_lI, m_lJ, m_tI, m_tJ, m_sI, m_sJ, T_pp, T_ifn, T_ifp, not_false_eq_true, not_true_eq_false, gi_wI_ne, gi_wJ_ne, gj_wI_ne, gj_wJ_ne, gi_wI_nk, gi_wJ_nk, gj_wI_nk, gj_wJ_nk]
        have r2 := hG.seq r (by decide)
        refine ⟨trivial, (r2.J (by decide) (by decide)).J (by decide) (by decide), fun a b hz => ?_⟩
        by_cases cj : a = i ∧ b = j
        · obtain ⟨rfl, rfl⟩ := cj
          try simp (disch := first | assumption | decide | omega | (simp only [ml_0, ml_1, ml_2, ml_3, ml_4, ml_5, ml_6, ml_7, ml_8, ml_9, ml_10, ml_11, ml_12, ml_13, ml_14, ml_15, ml_16, ml_17, ml_18, ml_19, ml_20, ml_21, ml_22, ml_23, ml_24, ml_25, ml_26, ml_27, ml_28, ml_29, ml_30, ml_31, ml_32, ml_33, ml_34, ml_35, ml_36]; omega) | (simp only [ml_0, ml_1, ml_2, ml_3, ml_4, ml_5, ml_6, ml_7, ml_8, ml_9, ml_10, ml_11, ml_12, ml_13, ml_14, ml_15, ml_16, ml_17, ml_18, ml_19, ml_20, ml_21, ml_22, ml_23, ml_24, ml_25, ml_26, ml_27, ml_28, ml_29, ml_30, ml_31, ml_32, ml_33, ml_34, ml_35, ml_36]; decide) | (apply MW_wIr (by decide); (repeat' (first | assumption | apply MW_wIr (by decide) | apply MW_wJr (by decide) | apply MW_wI0 rfl | apply MW_wJ0 rfl)); done) | (apply MW_wJr (by decide); (repeat' (first | assumption | apply MW_wIr (by decide) | apply MW_wJr (by decide) | apply MW_wI0 rfl | apply MW_wJ0 rfl)); done) | (apply MW_wI0 rfl; (repeat' (first | assumption | apply MW_wIr (by decide) | apply MW_wJr (by decide) | apply MW_wI0 rfl | apply MW_wJ0 rfl)); done) | (apply MW_wJ0 rfl; (repeat' (first | assumption | apply MW_wIr (by decide) | apply MW_wJr (by decide) | apply MW_wI0 rfl | apply MW_wJ0 rfl)); done)) only [gi_wI_ne, gi_wJ_ne, gj_wI_ne, gj_wJ_ne, gi_wI_nk, gi_wJ_nk, gj_wI_nk, gj_wJ_nk, gj_wJm, gi_wIm, if_neg, if_pos, true_and, and_true]
        · have := hJ a b (by omega)
          have e1 : gj hc 30 (16 * a + b) = gj hb 30 (16 * a + b) := fr_gjr r (by decide) (by decide)
          have e2 : gj hc 31 (16 * a + b) = gj hb 31 (16 * a + b) := fr_gjr r (by decide) (by decide)
          have ne : ¬ 16 * a + b = 16 * i + j := by omega
          try simp (disch := first | assumption | decide | omega | (simp only [ml_0, ml_1, ml_2, ml_3, ml_4, ml_5, ml_6, ml_7, ml_8, ml_9, ml_10, ml_11, ml_12, ml_13, ml_14, ml_15, ml_16, ml_17, ml_18, ml_19, ml_20, ml_21, ml_22, ml_23, ml_24, ml_25, ml_26, ml_27, ml_28, ml_29, ml_30, ml_31, ml_32, ml_33, ml_34, ml_35, ml_36]; omega) | (simp only [ml_0, ml_1, ml_2, ml_3, ml_4, ml_5, ml_6, ml_7, ml_8, ml_9, ml_10, ml_11, ml_12, ml_13, ml_14, ml_15, ml_16, ml_17, ml_18, ml_19, ml_20, ml_21, ml_22, ml_23, ml_24, ml_25, ml_26, ml_27, ml_28, ml_29, ml_30, ml_31, ml_32, ml_33, ml_34, ml_35, ml_36]; decide) | (apply MW_wIr (by decide); (repeat' (first | assumption | apply MW_wIr (by decide) | apply MW_wJr (by decide) | apply MW_wI0 rfl | apply MW_wJ0 rfl)); done) | (apply MW_wJr (by decide); (repeat' (first | assumption | apply MW_wIr (by decide) | apply MW_wJr (by decide) | apply MW_wI0 rfl | apply MW_wJ0 rfl)); done) | (apply MW_wI0 rfl; (repeat' (first | assumption | apply MW_wIr (by decide) | apply MW_wJr (by decide) | apply MW_wI0 rfl | apply MW_wJ0 rfl)); done) | (apply MW_wJ0 rfl; (repeat' (first | assumption | apply MW_wIr (by decide) | apply MW_wJr (by decide) | apply MW_wI0 rfl | apply MW_wJ0 rfl)); done)) only [gi_wI_ne, gi_wJ_ne, gj_wI_ne, gj_wJ_ne, gi_wI_nk, gi_wJ_nk, gj_wI_nk, gj_wJ_nk, gj_wJm, gi_wIm, if_neg, if_pos, true_and, and_true, e1, e2]
          exact this
      · obtain ⟨hG, hJ⟩ := hJ
        have hM2 := hG.1
        have g35b : gi hb 0 35 = nI d := by rw [fr_gi0 hG (by decide)]; exact g35
        have c2 : nI d ≤ nI d := nI_le (Nat.le_refl _) (by omega)
        unfold fX10_multiplies_B12 fX10_multiplies_b12
        rw [T_fr, m_gI hM2 (by decide), g35b, T_ifp c2, T_pp]
        exact ⟨(), rfl, hG, fun a j ha hj => hJ a j (by omega)⟩
    · rw [T_pp]
      exact ⟨by rw [nI_succ], p.1, fun a j ha hj => p.2 a j (by omega) hj⟩
  · obtain ⟨hF, hI⟩ := hI
    have hM1 := hF.1
    have g35' : gi ha 0 35 = nI d := by rw [fr_gi0 hF (by decide)]; exact g35
    have c1 : nI d ≤ nI d := nI_le (Nat.le_refl _) (by omega)
    unfold fX10_multiplies_B2 fX10_multiplies_b2
    rw [T_fr, m_gI hM1 (by decide), g35', T_ifp c1, T_pp]
    exact ⟨(), rfl, hF, hI⟩
end S10
