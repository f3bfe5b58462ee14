section S17
variable {h h' : PH} {tx : Nat → Int32} {L : Nat}
theorem prL_s (n p : Nat) : prL tx L (n + 1) p = if (cm tx L p).1 = true then (if hr tx L (cm tx L p).2.2 = -1 then .inr [(cm tx L p).2.1] else Sum.map id (fun l => (cm tx L p).2.1 :: l) (prL tx L n (cm tx L p).2.2)) else .inl (cm tx L p).2.2 := by
  rw [prL]
  cases prL tx L n (cm tx L p).2.2 <;> rfl
theorem cm_sk (p : Nat) : cm tx L (sk tx L p) = cm tx L p := by
  unfold cm
  rw [hr_sk, sk_sk]
theorem m_ro0 (hM : MW h) (ht : Txt h tx L) {p : Nat} (hp : p ≤ L) (h46 : dig h 0 46 = p + 1) : T (fX10_readsOrder 0 0) h (fun v h' => Fr S4 h h' ∧ dig h' 0 46 = (cm tx L p).2.2 + 1 ∧ (cm tx L p).2.2 ≤ L ∧ ((v = 0 ∧ (cm tx L p).1 = false) ∨ (v = 1 ∧ (cm tx L p).1 = true ∧ p + 2 ≤ (cm tx L p).2.2))) := by
  refine m_roHead hM ht hp h46 0 (fun h1 f1 d1 l1 e1 => ⟨f1, d1, l1, Or.inl ⟨rfl, e1⟩⟩) (fun h1 f1 d1 l1 a1 e1 _ _ => ?_)
  rw [T_ifp rfl, T_pp]
  exact ⟨f1, d1, l1, Or.inr ⟨rfl, e1, a1⟩⟩
theorem m_first (hM : MW h) (ht : Txt h tx L) (h46 : dig h 0 46 = 1) : T (pb (fX10_readsOrder 0 0) fun v2 => plo (fX10_reads_B11 0) fu v2) h (fun z h' => Fr S4 h h' ∧ ((z = 1 ∧ ∃ cs, prL tx L 121 0 = .inr cs) ∨ (z = 0 ∧ ∃ p, dig h' 0 46 = p + 1 ∧ p ≤ L ∧ prL tx L 121 0 = .inl p))) := by
  have L120 := ht.1
  generalize eR : prL tx L 121 0 = R
  refine T_call (m_ro0 hM ht (p := 0) (Nat.zero_le _) h46) fun v h1 P => ?_
  obtain ⟨f1, d1, l1, P⟩ := P
  have start : ∃ n, n < 200 ∧ ∃ p, p ≤ L ∧ dig h1 0 46 = p + 1 ∧ Fr S4 h h1 ∧ ((v = 0 ∧ R = .inl p) ∨ (v = 1 ∧ n = L - p + 1 ∧ ((hr tx L p = -1 ∧ ∃ cs, R = .inr cs) ∨ (hr tx L p ≠ -1 ∧ ∃ m l, L - p < m ∧ R = Sum.map id (fun k => l ++ k) (prL tx L m p))))) := by
    rcases P with ⟨rfl, e⟩ | ⟨rfl, e, a⟩
    · refine ⟨0, by omega, _, l1, d1, f1, Or.inl ⟨rfl, ?_⟩⟩
      rw [← eR, prL_s, e]
      rfl
    · refine ⟨L - (cm tx L 0).2.2 + 1, by omega, _, l1, d1, f1, Or.inr ⟨rfl, rfl, ?_⟩⟩
      rw [← eR, prL_s, if_pos e]
      by_cases c : hr tx L (cm tx L 0).2.2 = -1
      · rw [if_pos c]
        exact Or.inl ⟨c, _, rfl⟩
      · rw [if_neg c]
        exact Or.inr ⟨c, 120, [(cm tx L 0).2.1], by omega, rfl⟩
  obtain ⟨n, hn, st⟩ := start
  refine T_loop (fun n v hx => ∃ p, p ≤ L ∧ dig hx 0 46 = p + 1 ∧ Fr S4 h hx ∧ ((v = 0 ∧ R = .inl p) ∨ (v = 1 ∧ n = L - p + 1 ∧ ((hr tx L p = -1 ∧ ∃ cs, R = .inr cs) ∨ (hr tx L p ≠ -1 ∧ ∃ m l, L - p < m ∧ R = Sum.map id (fun k => l ++ k) (prL tx L m p)))))) (fun n v hx I => ?_) fu n v h1 (by unfold fu; omega) st
  obtain ⟨p, lp, dp, fp, I⟩ := I
  have hMx := fp.1
  have htx := ht.fr fp (by decide) (by decide)
  unfold fX10_reads_B11 fX10_reads_b11
  rw [T_fr]
  rcases I with ⟨rfl, e⟩ | ⟨rfl, rfl, I⟩
  · rw [T_ifp rfl, T_pp]
    exact Or.inr ⟨_, rfl, fp, Or.inr ⟨rfl, p, dp, lp, e⟩⟩
  · rw [T_ifn (by decide)]
    refine T_call (m_here hMx htx lp dp) fun v hy P => ?_
    obtain ⟨fy, dy, rfl⟩ := P
    have fpy : Fr S4 h hy := fp.seq fy (by decide)
    rcases I with ⟨e1, cs, e2⟩ | ⟨e1, m, l, lm, e2⟩
    · rw [T_ifp e1, T_pp]
      exact Or.inr ⟨_, rfl, fpy, Or.inl ⟨rfl, cs, e2⟩⟩
    · rw [T_ifn e1]
      have skl := sk_le (tx := tx) lp
      have sg := sk_ge (tx := tx) (L := L) p
      obtain ⟨m, rfl⟩ : ∃ k, m = k + 1 := ⟨m - 1, by omega⟩
      refine T_call (m_ro0 fy.1 (ht.fr fpy (by decide) (by decide)) skl dy) fun v hz P => ?_
      obtain ⟨fz', dz, lz, P⟩ := P
      rw [cm_sk] at dz lz P
      have fpz : Fr S4 h hz := fpy.tr fz'
      rw [T_pp]
      rcases P with ⟨rfl, e⟩ | ⟨rfl, e, a⟩
      · refine Or.inl ⟨_, 0, rfl, by omega, _, lz, dz, fpz, Or.inl ⟨rfl, ?_⟩⟩
        rw [e2, prL_s, e]
        rfl
      · refine Or.inl ⟨_, L - (cm tx L p).2.2 + 1, rfl, by omega, _, lz, dz, fpz, Or.inr ⟨rfl, rfl, ?_⟩⟩
        rw [e2, prL_s, if_pos e]
        by_cases c : hr tx L (cm tx L p).2.2 = -1
        · rw [if_pos c]
          exact Or.inl ⟨c, _, rfl⟩
        · rw [if_neg c]
          refine Or.inr ⟨c, m, l ++ [(cm tx L p).2.1], by omega, ?_⟩
          cases prL tx L m (cm tx L p).2.2 with
          | inl f => rfl
          | inr k => simp
theorem m_aside (hM : MW h) : T (plo (fX10_reads_B46 0) fu (nI 0)) h (fun _ h' => Fr [16] h h' ∧ ∀ k, k < 33 → dig h' 16 k = eJ (gj h 11 k)) := by
  refine T_for 33 (fun n h' => Fr [16] h h' ∧ ∀ k, k < n → dig h' 16 k = eJ (gj h 11 k)) (fun i h1 hi hI => ?_) (fun h1 hI => ?_) (by decide) (i0 := 0) (by decide) ⟨Fr.rf hM _, fun k hk => by omega⟩
  · obtain ⟨hF, hI⟩ := hI
    have hM1 := hF.1
    have c1 : ¬ nI 33 ≤ nI i := nI_ge hi (by decide)
    unfold fX10_reads_B46 fX10_reads_b46
    simp (disch := first | assumption | decide | omega | (simp only [ml_0, ml_1, ml_2, ml_3, ml_4, ml_5, ml_6, ml_7, ml_8, ml_9, ml_10, ml_11, ml_12, ml_13, ml_14, ml_15, ml_16, ml_17, ml_18, ml_19, ml_20, ml_21, ml_22, ml_23, ml_24, ml_25, ml_26, ml_27, ml_28, ml_29, ml_30, ml_31, ml_32, ml_33, ml_34, ml_35, ml_36]; omega) | (simp only [ml_0, ml_1, ml_2, ml_3, ml_4, ml_5, ml_6, ml_7, ml_8, ml_9, ml_10, ml_11, ml_12, ml_13, ml_14, ml_15, ml_16, ml_17, ml_18, ml_19, ml_20, ml_21, ml_22, ml_23, ml_24, ml_25, ml_26, ml_27, ml_28, ml_29, ml_30, ml_31, ml_32, ml_33, ml_34, ml_35, ml_36]; decide) | (apply MW_wIr (by decide); (repeat' (first | assumption | apply MW_wIr (by decide) | apply MW_wJr (by decide) | apply MW_wI0 rfl | apply MW_wJ0 rfl)); done) | (apply MW_wJr (by decide); (repeat' (first | assumption | apply MW_wIr (by decide) | apply MW_wJr (by decide) | apply MW_wI0 rfl | apply MW_wJ0 rfl)); done) | (apply MW_wI0 rfl; (repeat' (first | assumption | apply MW_wIr (by decide) | apply MW_wJr (by decide) | apply MW_wI0 rfl | apply MW_wJ0 rfl)); done) | (apply MW_wJ0 rfl; (repeat' (first | assumption | apply MW_wIr (by decide) | apply MW_wJr (by decide) | apply MW_wI0 rfl | apply MW_wJ0 rfl)); done)) only [T_fr, T_frJ, li_0, li_1, li_2, li_3, li_4, li_5, li_6, li_7, li_8, li_9, li_10, li_11, li_12, li_13, li_14, li_15, li_16, li_17, li_25, li_30, li_31, li_32, li_33, li_43, li_45, li_48, li_57, li_59, li_60, li_61, li_99, li_110, li_116, li_119, li_120, li_122, li_127, li_165, li_198, li_256, pk_mul, nI_add, m_chk, m_gA, mr_0, mr_1, mr_2, mr_4, mr_9, mr_10, mr_11, mr_12, mr_15, mr_16, mr_17, mr_18, mr_19, mr_20, mr_21, mr_22, mr_23, mr_24, mr_25, mr_27, mr_28, mr_29, mr_30, mr_31, mr_32, mr_33, mr_34, mr_36, mr_37, mr_38, mr_39, mr_40, mr_41, mr_42, mr_43, mr_44, m_gI, m_gJ, m_lI, m_lJ, m_tI, m_tJ, m_sI, m_sJ, T_pp, T_ifn, T_ifp, not_false_eq_true, not_true_eq_false, gi_wI_ne, gi_wJ_ne, gj_wI_ne, gj_wJ_ne, gi_wI_nk, gi_wJ_nk, gj_wI_nk, gj_wJ_nk]
    refine ⟨trivial, hF.J (by decide) (by decide), fun k hk => ?_⟩
    rw [dig_wJm hM1 (by decide)]
    by_cases c : k = i
    · rw [if_pos ⟨rfl, c⟩, fr_gjr hF (by decide) (by decide), c]
    · rw [if_neg (fun q => c q.2), hI k (by omega)]
  · have hM1 := hI.1.1
    unfold fX10_reads_B46 fX10_reads_b46
    have c1 : nI 33 ≤ nI 33 := by decide
    simp (disch := first | assumption | decide | omega | (simp only [ml_0, ml_1, ml_2, ml_3, ml_4, ml_5, ml_6, ml_7, ml_8, ml_9, ml_10, ml_11, ml_12, ml_13, ml_14, ml_15, ml_16, ml_17, ml_18, ml_19, ml_20, ml_21, ml_22, ml_23, ml_24, ml_25, ml_26, ml_27, ml_28, ml_29, ml_30, ml_31, ml_32, ml_33, ml_34, ml_35, ml_36]; omega) | (simp only [ml_0, ml_1, ml_2, ml_3, ml_4, ml_5, ml_6, ml_7, ml_8, ml_9, ml_10, ml_11, ml_12, ml_13, ml_14, ml_15, ml_16, ml_17, ml_18, ml_19, ml_20, ml_21, ml_22, ml_23, ml_24, ml_25, ml_26, ml_27, ml_28, ml_29, ml_30, ml_31, ml_32, ml_33, ml_34, ml_35, ml_36]; decide) | (apply MW_wIr (by decide); (repeat' (first | assumption | apply MW_wIr (by decide) | apply MW_wJr (by decide) | apply MW_wI0 rfl | apply MW_wJ0 rfl)); done) | (apply MW_wJr (by decide); (repeat' (first | assumption | apply MW_wIr (by decide) | apply MW_wJr (by decide) | apply MW_wI0 rfl | apply MW_wJ0 rfl)); done) | (apply MW_wI0 rfl; (repeat' (first | assumption | apply MW_wIr (by decide) | apply MW_wJr (by decide) | apply MW_wI0 rfl | apply MW_wJ0 rfl)); done) | (apply MW_wJ0 rfl; (repeat' (first | assumption | apply MW_wIr (by decide) | apply MW_wJr (by decide) | apply MW_wI0 rfl | apply MW_wJ0 rfl)); done)) only [T_fr, T_frJ, li_0, li_1, li_2, li_3, li_4, li_5, li_6, li_7, li_8, li_9, li_10, li_11, li_12, li_13, li_14, li_15, li_16, li_17, li_25, li_30, li_31, li_32, li_33, li_43, li_45, li_48, li_57, li_59, li_60, li_61, li_99, li_110, li_116, li_119, li_120, li_122, li_127, li_165, li_198, li_256, pk_mul, nI_add, m_chk, m_gA, mr_0, mr_1, mr_2, mr_4, mr_9, mr_10, mr_11, mr_12, mr_15, mr_16, mr_17, mr_18, mr_19, mr_20, mr_21, mr_22, mr_23, mr_24, mr_25, mr_27, mr_28, mr_29, mr_30, mr_31, mr_32, mr_33, mr_34, mr_36, mr_37, mr_38, mr_39, mr_40, mr_41, mr_42, mr_43, mr_44, m_gI, m_gJ, m_lI, m_lJ, m_tI, m_tJ, m_sI, m_sJ, T_pp, T_ifn, T_ifp, not_false_eq_true, not_true_eq_false, gi_wI_ne, gi_wJ_ne, gj_wI_ne, gj_wJ_ne, gi_wI_nk, gi_wJ_nk, gj_wI_nk, gj_wJ_nk]
    exact ⟨(), trivial, hI⟩
theorem m_restore (hM : MW h) (x : Int32) : T (plo (fX10_reads_B105 0 x) fu (nI 0)) h (fun _ h' => Fr [11] h h' ∧ ∀ k, k < 33 → dig h' 11 k = eJ (gj h 16 k)) := by
  refine T_for 33 (fun n h' => Fr [11] h h' ∧ ∀ k, k < n → dig h' 11 k = eJ (gj h 16 k)) (fun i h1 hi hI => ?_) (fun h1 hI => ?_) (by decide) (i0 := 0) (by decide) ⟨Fr.rf hM _, fun k hk => by omega⟩
  · obtain ⟨hF, hI⟩ := hI
    have hM1 := hF.1
    have c1 : ¬ nI 33 ≤ nI i := nI_ge hi (by decide)
    unfold fX10_reads_B105 fX10_reads_b105
    simp (disch := first | assumption | decide | omega | (simp only [ml_0, ml_1, ml_2, ml_3, ml_4, ml_5, ml_6, ml_7, ml_8, ml_9, ml_10, ml_11, ml_12, ml_13, ml_14, ml_15, ml_16, ml_17, ml_18, ml_19, ml_20, ml_21, ml_22, ml_23, ml_24, ml_25, ml_26, ml_27, ml_28, ml_29, ml_30, ml_31, ml_32, ml_33, ml_34, ml_35, ml_36]; omega) | (simp only [ml_0, ml_1, ml_2, ml_3, ml_4, ml_5, ml_6, ml_7, ml_8, ml_9, ml_10, ml_11, ml_12, ml_13, ml_14, ml_15, ml_16, ml_17, ml_18, ml_19, ml_20, ml_21, ml_22, ml_23, ml_24, ml_25, ml_26, ml_27, ml_28, ml_29, ml_30, ml_31, ml_32, ml_33, ml_34, ml_35, ml_36]; decide) | (apply MW_wIr (by decide); (repeat' (first | assumption | apply MW_wIr (by decide) | apply MW_wJr (by decide) | apply MW_wI0 rfl | apply MW_wJ0 rfl)); done) | (apply MW_wJr (by decide); (repeat' (first | assumption | apply MW_wIr (by decide) | apply MW_wJr (by decide) | apply MW_wI0 rfl | apply MW_wJ0 rfl)); done) | (apply MW_wI0 rfl; (repeat' (first | assumption | apply MW_wIr (by decide) | apply MW_wJr (by decide) | apply MW_wI0 rfl | apply MW_wJ0 rfl)); done) | (apply MW_wJ0 rfl; (repeat' (first | assumption | apply MW_wIr (by decide) | apply MW_wJr (by decide) | apply MW_wI0 rfl | apply MW_wJ0 rfl)); done)) only [T_fr, T_frJ, li_0, li_1, li_2, li_3, li_4, li_5, li_6, li_7, li_8, li_9, li_10, li_11, li_12, li_13, li_14, li_15, li_16, li_17, li_25, li_30, li_31, li_32, li_33, li_43, li_45, li_48, li_57, li_59, li_60, li_61, li_99, li_110, li_116, li_119, li_120, li_122, li_127, li_165, li_198, li_256, pk_mul, nI_add, m_chk, m_gA, mr_0, mr_1, mr_2, mr_4, mr_9, mr_10, mr_11, mr_12, mr_15, mr_16, mr_17, mr_18, mr_19, mr_20, mr_21, mr_22, mr_23, mr_24, mr_25, mr_27, mr_28, mr_29, mr_30, mr_31, mr_32, mr_33, mr_34, mr_36, mr_37, mr_38, mr_39, mr_40, mr_41, mr_42, mr_43, mr_44, m_gI, m_gJ, m_lI, m_lJ, m_tI, m_tJ, m_sI, m_sJ, T_pp, T_ifn, T_ifp, not_false_eq_true, not_true_eq_false, gi_wI_ne, gi_wJ_ne, gj_wI_ne, gj_wJ_ne, gi_wI_nk, gi_wJ_nk, gj_wI_nk, gj_wJ_nk]
    refine ⟨trivial, hF.J (by decide) (by decide), fun k hk => ?_⟩
    rw [dig_wJm hM1 (by decide)]
    by_cases c : k = i
    · rw [if_pos ⟨rfl, c⟩, fr_gjr hF (by decide) (by decide), c]
    · rw [if_neg (fun q => c q.2), hI k (by omega)]
  · have hM1 := hI.1.1
    unfold fX10_reads_B105 fX10_reads_b105
    have c1 : nI 33 ≤ nI 33 := by decide
    simp (disch := first | assumption | decide | omega | (simp only [ml_0, ml_1, ml_2, ml_3, ml_4, ml_5, ml_6, ml_7, ml_8, ml_9, ml_10, ml_11, ml_12, ml_13, ml_14, ml_15, ml_16, ml_17, ml_18, ml_19, ml_20, ml_21, ml_22, ml_23, ml_24, ml_25, ml_26, ml_27, ml_28, ml_29, ml_30, ml_31, ml_32, ml_33, ml_34, ml_35, ml_36]; omega) | (simp only [ml_0, ml_1, ml_2, ml_3, ml_4, ml_5, ml_6, ml_7, ml_8, ml_9, ml_10, ml_11, ml_12, ml_13, ml_14, ml_15, ml_16, ml_17, ml_18, ml_19, ml_20, ml_21, ml_22, ml_23, ml_24, ml_25, ml_26, ml_27, ml_28, ml_29, ml_30, ml_31, ml_32, ml_33, ml_34, ml_35, ml_36]; decide) | (apply MW_wIr (by decide); (repeat' (first | assumption | apply MW_wIr (by decide) | apply MW_wJr (by decide) | apply MW_wI0 rfl | apply MW_wJ0 rfl)); done) | (apply MW_wJr (by decide); (repeat' (first | assumption | apply MW_wIr (by decide) | apply MW_wJr (by decide) | apply MW_wI0 rfl | apply MW_wJ0 rfl)); done) | (apply MW_wI0 rfl; (repeat' (first | assumption | apply MW_wIr (by decide) | apply MW_wJr (by decide) | apply MW_wI0 rfl | apply MW_wJ0 rfl)); done) | (apply MW_wJ0 rfl; (repeat' (first | assumption | apply MW_wIr (by decide) | apply MW_wJr (by decide) | apply MW_wI0 rfl | apply MW_wJ0 rfl)); done)) only [T_fr, T_frJ, li_0, li_1, li_2, li_3, li_4, li_5, li_6, li_7, li_8, li_9, li_10, li_11, li_12, li_13, li_14, li_15, li_16, li_17, li_25, li_30, li_31, li_32, li_33, li_43, li_45, li_48, li_57, li_59, li_60, li_61, li_99, li_110, li_116, li_119, li_120, li_122, li_127, li_165, li_198, li_256, pk_mul, nI_add, m_chk, m_gA, mr_0, mr_1, mr_2, mr_4, mr_9, mr_10, mr_11, mr_12, mr_15, mr_16, mr_17, mr_18, mr_19, mr_20, mr_21, mr_22, mr_23, mr_24, mr_25, mr_27, mr_28, mr_29, mr_30, mr_31, mr_32, mr_33, mr_34, mr_36, mr_37, mr_38, mr_39, mr_40, mr_41, mr_42, mr_43, mr_44, m_gI, m_gJ, m_lI, m_lJ, m_tI, m_tJ, m_sI, m_sJ, T_pp, T_ifn, T_ifp, not_false_eq_true, not_true_eq_false, gi_wI_ne, gi_wJ_ne, gj_wI_ne, gj_wJ_ne, gi_wI_nk, gi_wJ_nk, gj_wI_nk, gj_wJ_nk]
    exact ⟨(), trivial, hI⟩
theorem m_again (hM : MW h) : T (plo (fX10_keepsAside_B46 0) fu (nI 0)) h (fun _ h' => Fr [11] h h' ∧ ∀ k, k < 33 → dig h' 11 k = eJ (gj h 16 k)) := by
  refine T_for 33 (fun n h' => Fr [11] h h' ∧ ∀ k, k < n → dig h' 11 k = eJ (gj h 16 k)) (fun i h1 hi hI => ?_) (fun h1 hI => ?_) (by decide) (i0 := 0) (by decide) ⟨Fr.rf hM _, fun k hk => by omega⟩
  · obtain ⟨hF, hI⟩ := hI
    have hM1 := hF.1
    have c1 : ¬ nI 33 ≤ nI i := nI_ge hi (by decide)
    unfold fX10_keepsAside_B46 fX10_keepsAside_b46
    simp (disch := first | assumption | decide | omega | (simp only [ml_0, ml_1, ml_2, ml_3, ml_4, ml_5, ml_6, ml_7, ml_8, ml_9, ml_10, ml_11, ml_12, ml_13, ml_14, ml_15, ml_16, ml_17, ml_18, ml_19, ml_20, ml_21, ml_22, ml_23, ml_24, ml_25, ml_26, ml_27, ml_28, ml_29, ml_30, ml_31, ml_32, ml_33, ml_34, ml_35, ml_36]; omega) | (simp only [ml_0, ml_1, ml_2, ml_3, ml_4, ml_5, ml_6, ml_7, ml_8, ml_9, ml_10, ml_11, ml_12, ml_13, ml_14, ml_15, ml_16, ml_17, ml_18, ml_19, ml_20, ml_21, ml_22, ml_23, ml_24, ml_25, ml_26, ml_27, ml_28, ml_29, ml_30, ml_31, ml_32, ml_33, ml_34, ml_35, ml_36]; decide) | (apply MW_wIr (by decide); (repeat' (first | assumption | apply MW_wIr (by decide) | apply MW_wJr (by decide) | apply MW_wI0 rfl | apply MW_wJ0 rfl)); done) | (apply MW_wJr (by decide); (repeat' (first | assumption | apply MW_wIr (by decide) | apply MW_wJr (by decide) | apply MW_wI0 rfl | apply MW_wJ0 rfl)); done) | (apply MW_wI0 rfl; (repeat' (first | assumption | apply MW_wIr (by decide) | apply MW_wJr (by decide) | apply MW_wI0 rfl | apply MW_wJ0 rfl)); done) | (apply MW_wJ0 rfl; (repeat' (first | assumption | apply MW_wIr (by decide) | apply MW_wJr (by decide) | apply MW_wI0 rfl | apply MW_wJ0 rfl)); done)) only [T_fr, T_frJ, li_0, li_1, li_2, li_3, li_4, li_5, li_6, li_7, li_8, li_9, li_10, li_11, li_12, li_13, li_14, li_15, li_16, li_17, li_25, li_30, li_31, li_32, li_33, li_43, li_45, li_48, li_57, li_59, li_60, li_61, li_99, li_110, li_116, li_119, li_120, li_122, li_127, li_165, li_198, li_256, pk_mul, nI_add, m_chk, m_gA, mr_0, mr_1, mr_2, mr_4, mr_9, mr_10, mr_11, mr_12, mr_15, mr_16, mr_17, mr_18, mr_19, mr_20, mr_21, mr_22, mr_23, mr_24, mr_25, mr_27, mr_28, mr_29, mr_30, mr_31, mr_32, mr_33, mr_34, mr_36, mr_37, mr_38, mr_39, mr_40, mr_41, mr_42, mr_43, mr_44, m_gI, m_gJ, m_lI, m_lJ, m_tI, m_tJ, m_sI, m_sJ, T_pp, T_ifn, T_ifp, not_false_eq_true, not_true_eq_false, gi_wI_ne, gi_wJ_ne, gj_wI_ne, gj_wJ_ne, gi_wI_nk, gi_wJ_nk, gj_wI_nk, gj_wJ_nk]
    refine ⟨trivial, hF.J (by decide) (by decide), fun k hk => ?_⟩
    rw [dig_wJm hM1 (by decide)]
    by_cases c : k = i
    · rw [if_pos ⟨rfl, c⟩, fr_gjr hF (by decide) (by decide), c]
    · rw [if_neg (fun q => c q.2), hI k (by omega)]
  · have hM1 := hI.1.1
    unfold fX10_keepsAside_B46 fX10_keepsAside_b46
    have c1 : nI 33 ≤ nI 33 := by decide
    simp (disch := first | assumption | decide | omega | (simp only [ml_0, ml_1, ml_2, ml_3, ml_4, ml_5, ml_6, ml_7, ml_8, ml_9, ml_10, ml_11, ml_12, ml_13, ml_14, ml_15, ml_16, ml_17, ml_18, ml_19, ml_20, ml_21, ml_22, ml_23, ml_24, ml_25, ml_26, ml_27, ml_28, ml_29, ml_30, ml_31, ml_32, ml_33, ml_34, ml_35, ml_36]; omega) | (simp only [ml_0, ml_1, ml_2, ml_3, ml_4, ml_5, ml_6, ml_7, ml_8, ml_9, ml_10, ml_11, ml_12, ml_13, ml_14, ml_15, ml_16, ml_17, ml_18, ml_19, ml_20, ml_21, ml_22, ml_23, ml_24, ml_25, ml_26, ml_27, ml_28, ml_29, ml_30, ml_31, ml_32, ml_33, ml_34, ml_35, ml_36]; decide) | (apply MW_wIr (by decide); (repeat' (first | assumption | apply MW_wIr (by decide) | apply MW_wJr (by decide) | apply MW_wI0 rfl | apply MW_wJ0 rfl)); done) | (apply MW_wJr (by decide); (repeat' (first | assumption | apply MW_wIr (by decide) | apply MW_wJr (by decide) | apply MW_wI0 rfl | apply MW_wJ0 rfl)); done) | (apply MW_wI0 rfl; (repeat' (first | assumption | apply MW_wIr (by decide) | apply MW_wJr (by decide) | apply MW_wI0 rfl | apply MW_wJ0 rfl)); done) | (apply MW_wJ0 rfl; (repeat' (first | assumption | apply MW_wIr (by decide) | apply MW_wJr (by decide) | apply MW_wI0 rfl | apply MW_wJ0 rfl)); done)) only [T_fr, T_frJ, li_0, li_1, li_2, li_3, li_4, li_5, li_6, li_7, li_8, li_9, li_10, li_11, li_12, li_13, li_14, li_15, li_16, li_17, li_25, li_30, li_31, li_32, li_33, li_43, li_45, li_48, li_57, li_59, li_60, li_61, li_99, li_110, li_116, li_119, li_120, li_122, li_127, li_165, li_198, li_256, pk_mul, nI_add, m_chk, m_gA, mr_0, mr_1, mr_2, mr_4, mr_9, mr_10, mr_11, mr_12, mr_15, mr_16, mr_17, mr_18, mr_19, mr_20, mr_21, mr_22, mr_23, mr_24, mr_25, mr_27, mr_28, mr_29, mr_30, mr_31, mr_32, mr_33, mr_34, mr_36, mr_37, mr_38, mr_39, mr_40, mr_41, mr_42, mr_43, mr_44, m_gI, m_gJ, m_lI, m_lJ, m_tI, m_tJ, m_sI, m_sJ, T_pp, T_ifn, T_ifp, not_false_eq_true, not_true_eq_false, gi_wI_ne, gi_wJ_ne, gj_wI_ne, gj_wJ_ne, gi_wI_nk, gi_wJ_nk, gj_wI_nk, gj_wJ_nk]
    exact ⟨(), trivial, hI⟩
theorem m_swap (hM : MW h) : T (plo (fX10_keepsAside_B2 0) fu (nI 0)) h (fun _ h' => Fr [11, 16] h h' ∧ ∀ k, k < 33 → dig h' 11 k = eJ (gj h 16 k) ∧ dig h' 16 k = eJ (gj h 11 k)) := by
  refine T_for 33 (fun n h' => Fr [11, 16] h h' ∧ (∀ k, k < n → dig h' 11 k = eJ (gj h 16 k) ∧ dig h' 16 k = eJ (gj h 11 k)) ∧ ∀ k, n ≤ k → gj h' 11 k = gj h 11 k ∧ gj h' 16 k = gj h 16 k) (fun i h1 hi hI => ?_) (fun h1 hI => ?_) (by decide) (i0 := 0) (by decide) ⟨Fr.rf hM _, (fun k hk => by omega), fun k _ => ⟨rfl, rfl⟩⟩
  · obtain ⟨hF, hI, hJ⟩ := hI
    have hM1 := hF.1
    have c1 : ¬ nI 33 ≤ nI i := nI_ge hi (by decide)
    obtain ⟨j1, j2⟩ := hJ i (Nat.le_refl _)
    unfold fX10_keepsAside_B2 fX10_keepsAside_b2
    simp (disch := first | assumption | decide | omega | (simp only [ml_0, ml_1, ml_2, ml_3, ml_4, ml_5, ml_6, ml_7, ml_8, ml_9, ml_10, ml_11, ml_12, ml_13, ml_14, ml_15, ml_16, ml_17, ml_18, ml_19, ml_20, ml_21, ml_22, ml_23, ml_24, ml_25, ml_26, ml_27, ml_28, ml_29, ml_30, ml_31, ml_32, ml_33, ml_34, ml_35, ml_36]; omega) | (simp only [ml_0, ml_1, ml_2, ml_3, ml_4, ml_5, ml_6, ml_7, ml_8, ml_9, ml_10, ml_11, ml_12, ml_13, ml_14, ml_15, ml_16, ml_17, ml_18, ml_19, ml_20, ml_21, ml_22, ml_23, ml_24, ml_25, ml_26, ml_27, ml_28, ml_29, ml_30, ml_31, ml_32, ml_33, ml_34, ml_35, ml_36]; decide) | (apply MW_wIr (by decide); (repeat' (first | assumption | apply MW_wIr (by decide) | apply MW_wJr (by decide) | apply MW_wI0 rfl | apply MW_wJ0 rfl)); done) | (apply MW_wJr (by decide); (repeat' (first | assumption | apply MW_wIr (by decide) | apply MW_wJr (by decide) | apply MW_wI0 rfl | apply MW_wJ0 rfl)); done) | (apply MW_wI0 rfl; (repeat' (first | assumption | apply MW_wIr (by decide) | apply MW_wJr (by decide) | apply MW_wI0 rfl | apply MW_wJ0 rfl)); done) | (apply MW_wJ0 rfl; (repeat' (first | assumption | apply MW_wIr (by decide) | apply MW_wJr (by decide) | apply MW_wI0 rfl | apply MW_wJ0 rfl)); done)) only [T_fr, T_frJ, li_0, li_1, li_2, li_3, li_4, li_5, li_6, li_7, li_8, li_9, li_10, li_11, li_12, li_13, li_14, li_15, li_16, li_17, li_25, li_30, li_31, li_32, li_33, li_43, li_45, li_48, li_57, li_59, li_60, li_61, li_99, li_110, li_116, li_119, li_120, li_122, li_127, li_165, li_198, li_256, pk_mul, nI_add, m_chk, m_gA, mr_0, mr_1, mr_2, mr_4, mr_9, mr_10, mr_11, mr_12, mr_15, mr_16, mr_17, mr_18, mr_19, mr_20, mr_21, mr_22, mr_23, mr_24, mr_25, mr_27, mr_28, mr_29, mr_30, mr_31, mr_32, mr_33, mr_34, mr_36, mr_37, mr_38, mr_39, mr_40, mr_41, mr_42, mr_43, mr_44, m_gI, m_gJ, m_lI, m_lJ, m_tI, m_tJ, m_sI, m_sJ, T_pp, T_ifn, T_ifp, not_false_eq_true, not_true_eq_false, gi_wI_ne, gi_wJ_ne, gj_wI_ne, gj_wJ_ne, gi_wI_nk, gi_wJ_nk, gj_wI_nk, gj_wJ_nk, j1, j2]
    have hM2 : MW (wJ h1 11 i (gj h 16 i)) := MW_wJr (by decide) hM1
    refine ⟨trivial, (hF.J (by decide) (by decide)).J (by decide) (by decide), fun k hk => ?_, fun k hk => ?_⟩
    · rw [dig_wJm hM2 (by decide), dig_wJm hM2 (by decide), dig_wJm hM1 (by decide), dig_wJm hM1 (by decide), if_neg (fun z => absurd z.1 (by decide)), if_neg (fun (z : 16 = 11 ∧ k = i) => absurd z.1 (by decide))]
      by_cases c : k = i
      · rw [if_pos ⟨rfl, c⟩, if_pos ⟨rfl, c⟩, c]
        exact ⟨rfl, rfl⟩
      · rw [if_neg (fun z => c z.2), if_neg (fun z => c z.2)]
        exact hI k (by omega)
    · have ne : k ≠ i := by omega
      simp only [gj_wJ_nk ne]
      exact hJ k (by omega)
  · obtain ⟨hF, hI, hJ⟩ := hI
    have hM1 := hF.1
    unfold fX10_keepsAside_B2 fX10_keepsAside_b2
    have c1 : nI 33 ≤ nI 33 := by decide
    simp (disch := first | assumption | decide | omega | (simp only [ml_0, ml_1, ml_2, ml_3, ml_4, ml_5, ml_6, ml_7, ml_8, ml_9, ml_10, ml_11, ml_12, ml_13, ml_14, ml_15, ml_16, ml_17, ml_18, ml_19, ml_20, ml_21, ml_22, ml_23, ml_24, ml_25, ml_26, ml_27, ml_28, ml_29, ml_30, ml_31, ml_32, ml_33, ml_34, ml_35, ml_36]; omega) | (simp only [ml_0, ml_1, ml_2, ml_3, ml_4, ml_5, ml_6, ml_7, ml_8, ml_9, ml_10, ml_11, ml_12, ml_13, ml_14, ml_15, ml_16, ml_17, ml_18, ml_19, ml_20, ml_21, ml_22, ml_23, ml_24, ml_25, ml_26, ml_27, ml_28, ml_29, ml_30, ml_31, ml_32, ml_33, ml_34, ml_35, ml_36]; decide) | (apply MW_wIr (by decide); (repeat' (first | assumption | apply MW_wIr (by decide) | apply MW_wJr (by decide) | apply MW_wI0 rfl | apply MW_wJ0 rfl)); done) | (apply MW_wJr (by decide); (repeat' (first | assumption | apply MW_wIr (by decide) | apply MW_wJr (by decide) | apply MW_wI0 rfl | apply MW_wJ0 rfl)); done) | (apply MW_wI0 rfl; (repeat' (first | assumption | apply MW_wIr (by decide) | apply MW_wJr (by decide) | apply MW_wI0 rfl | apply MW_wJ0 rfl)); done) | (apply MW_wJ0 rfl; (repeat' (first | assumption | apply MW_wIr (by decide) | apply MW_wJr (by decide) | apply MW_wI0 rfl | apply MW_wJ0 rfl)); done)) only [T_fr, T_frJ, li_0, li_1, li_2, li_3, li_4, li_5, li_6, li_7, li_8, li_9, li_10, li_11, li_12, li_13, li_14, li_15, li_16, li_17, li_25, li_30, li_31, li_32, li_33, li_43, li_45, li_48, li_57, li_59, li_60, li_61, li_99, li_110, li_116, li_119, li_120, li_122, li_127, li_165, li_198, li_256, pk_mul, nI_add, m_chk, m_gA, mr_0, mr_1, mr_2, mr_4, mr_9, mr_10, mr_11, mr_12, mr_15, mr_16, mr_17, mr_18, mr_19, mr_20, mr_21, mr_22, mr_23, mr_24, mr_25, mr_27, mr_28, mr_29, mr_30, mr_31, mr_32, mr_33, mr_34, mr_36, mr_37, mr_38, mr_39, mr_40, mr_41, mr_42, mr_43, mr_44, m_gI, m_gJ, m_lI, m_lJ, m_tI, m_tJ, m_sI, m_sJ, T_pp, T_ifn, T_ifp, not_false_eq_true, not_true_eq_false, gi_wI_ne, gi_wJ_ne, gj_wI_ne, gj_wJ_ne, gi_wI_nk, gi_wJ_nk, gj_wI_nk, gj_wJ_nk]
    exact ⟨(), trivial, hF, hI⟩
theorem SgAt.of {s : Sg} {a o b p : Nat} (q : SgAt h a o s) (hN : s.1 ≤ 25) (e : ∀ k, k < 33 → dig h' b (p + k) = eJ (gj h a (o + k))) : SgAt h' b p s := q.cp hN e
theorem m_keepsAside {g s0 : Sg} {l : List Sg} (hM : MW h) (hk : KpAt h l) (hg : SgAt h 11 0 g) (hs : SgAt h 16 0 s0) (hgN : g.1 ≤ 25) (hsN : s0.1 ≤ 25) : T (fX10_keepsAside 0) h (fun _ h' => Fr [11, 15, 16, 103] h h' ∧ SgAt h' 11 0 g ∧ KpAt h' (kpp l s0)) := by
  unfold fX10_keepsAside
  rw [m_chk hM]
  refine T_call (m_swap hM) fun _ h1 p => ?_
  obtain ⟨f1, p1⟩ := p
  have s1 : SgAt h1 11 0 s0 := hs.cp hsN fun j hj => by rw [Nat.zero_add]; exact (p1 j hj).1
  have g1 : SgAt h1 16 0 g := hg.cp hgN fun j hj => by rw [Nat.zero_add]; exact (p1 j hj).2
  refine T_call (m_keep f1.1 (hk.fr f1 (by decide) (by decide)) s1 hsN) fun _ h2 p => ?_
  obtain ⟨f2, k2⟩ := p
  have g2 := g1.fr f2 (by decide) (by decide)
  refine T_call (m_again f2.1) fun _ h3 p => ?_
  obtain ⟨f3, p3⟩ := p
  rw [T_pp]
  exact ⟨((f1.sub (by decide)).seq f2 (by decide)).seq f3 (by decide), g2.cp hgN fun j hj => by rw [Nat.zero_add]; exact p3 j hj, k2.fr f3 (by decide) (by decide)⟩
noncomputable def q_reads (st : St) : Int32 × St := match prL (fun i => st.2.2.1.getD i 0) st.2.2.1.length 121 0 with
  | .inl p => (-10 - nI p, st)
  | .inr cs => match exL cs st.1 0 with
    | .inl k => (-1000 - nI k, st)
    | .inr g => (nI cs.length, (g, kpp st.2.1 st.1, st.2.2))
theorem Txt_of {st : St} (q : MR h st) (hb : ∀ c ∈ st.2.2.1, rg c 0 127) : Txt h (fun i => st.2.2.1.getD i 0) st.2.2.1.length := by
  obtain ⟨t1, t2, t3⟩ := q.2.2.2.2.2.1
  refine ⟨t1, t2, fun i hi => ?_⟩
  have e : st.2.2.1[i]? = some (st.2.2.1.getD i 0) := by
    rw [List.getElem?_eq_getElem hi, List.getD_eq_getElem?_getD, List.getElem?_eq_getElem hi]
    rfl
  exact ⟨t3 i _ e, hb _ (List.mem_of_getElem? e)⟩
theorem cm_hr {p : Nat} (e : (cm tx L p).1 = true) : hr tx L p ≠ -1 := by
  intro z
  unfold cm at e
  rw [z, if_neg (by decide)] at e
  cases e
theorem prL_at {m p : Nat} {rest : List Cm} (e : prL tx L m p = .inr rest) : ∃ n, m = n + 1 ∧ (cm tx L p).1 = true ∧ ((hr tx L (cm tx L p).2.2 = -1 ∧ rest = [(cm tx L p).2.1]) ∨ (hr tx L (cm tx L p).2.2 ≠ -1 ∧ ∃ l, prL tx L n (cm tx L p).2.2 = .inr l ∧ rest = (cm tx L p).2.1 :: l)) := by
  cases m with
  | zero => cases e
  | succ n =>
    rw [prL_s] at e
    by_cases c : (cm tx L p).1 = true
    · rw [if_pos c] at e
      refine ⟨n, rfl, c, ?_⟩
      by_cases c2 : hr tx L (cm tx L p).2.2 = -1
      · rw [if_pos c2] at e
        exact Or.inl ⟨c2, (Sum.inr.inj e).symm⟩
      · rw [if_neg c2] at e
        cases hk : prL tx L n (cm tx L p).2.2 with
        | inl f => rw [hk] at e; cases e
        | inr l =>
          rw [hk] at e
          exact Or.inr ⟨c2, l, rfl, (Sum.inr.inj e).symm⟩
    · rw [if_neg c] at e
      cases e
/-- the second pass: the commands are done -/
theorem m_second {st : St} {s0 : Sg} (hw0 : WS s0) {cs : List Cm} {tx : Nat → Int32} {L : Nat} (hcs : cs.length < 4000) (q : MR h st) (ht : Txt h tx L) (hs : SgAt h 16 0 s0) (h46 : dig h 0 46 = 1) (hp : prL tx L 121 0 = .inr cs) : T (plo (fX10_reads_B82 0) fu (nI 0)) h (fun z h' => (∃ k, z = .inl (-1000 - nI k) ∧ exL cs st.1 0 = .inl k ∧ MR h' (s0, st.2)) ∨ (∃ g, z = .inr (nI cs.length) ∧ exL cs st.1 0 = .inr g ∧ MR h' (g, st.2) ∧ SgAt h' 16 0 s0)) := by
  have L120 := ht.1
  generalize eR : exL cs st.1 0 = R
  refine T_loop (fun n x hx => ∃ k p g rest m, x = nI k ∧ n = rest.length ∧ k + rest.length = cs.length ∧ p ≤ L ∧ dig hx 0 46 = p + 1 ∧ MR hx (g, st.2) ∧ SgAt hx 16 0 s0 ∧ Txt hx tx L ∧ exL rest g k = R ∧ ((rest = [] ∧ hr tx L p = -1) ∨ (hr tx L p ≠ -1 ∧ prL tx L m p = .inr rest))) (fun n x hx I => ?_) fu cs.length (nI 0) h (by unfold fu; omega) ⟨0, 0, st.1, cs, 121, rfl, rfl, by omega, Nat.zero_le _, h46, q, hs, ht, eR, Or.inr ⟨?_, hp⟩⟩
  · obtain ⟨k, p, g, rest, m, rfl, rfl, hk, lp, dp, qx, sx, tx', er, I⟩ := I
    have hMx := qx.1
    unfold fX10_reads_B82 fX10_reads_b82
    rw [T_fr]
    refine T_call (m_here hMx tx' lp dp) fun v hy P => ?_
    obtain ⟨fy, dy, rfl⟩ := P
    have qy := qx.fr fy (by decide)
    have sy := sx.fr fy (by decide) (by decide)
    have ty := tx'.fr fy (by decide) (by decide)
    rcases I with ⟨rfl, e1⟩ | ⟨e1, e2⟩
    · rw [T_ifp e1, T_pp]
      refine Or.inr ⟨_, rfl, Or.inr ⟨g, ?_, er.symm, qy, sy⟩⟩
      rw [← hk]
      rfl
    · rw [T_ifn e1]
      obtain ⟨n, rfl, ok, alt⟩ := prL_at e2
      have skl := sk_le (tx := tx) lp
      have ro1 : T (fX10_readsOrder 0 1) hy (fun v hz => MR hz (if (exs (cm tx L p).2.1 g).1 = 0 then (exs (cm tx L p).2.1 g).2 else g, st.2) ∧ gi hz 0 50 = (exs (cm tx L p).2.1 g).1 ∧ dig hz 0 46 = (cm tx L p).2.2 + 1 ∧ (cm tx L p).2.2 ≤ L ∧ SgAt hz 16 0 s0 ∧ Txt hz tx L) := by
        refine m_roHead fy.1 ty skl dy 1 (fun h1 f1 d1 l1 e => ?_) (fun h1 f1 d1 l1 a1 e ec ex => ?_)
        · rw [cm_sk, ok] at e
          cases e
        · rw [T_ifn (by decide)]
          rw [cm_sk] at ec ex d1 l1
          rw [cm_sk]
          refine T_mono (m_canDoes (st := (g, st.2)) ec (qy.fr f1 (by decide)) ex) fun v hz P => ?_
          obtain ⟨-, p1, p2, p3⟩ := P
          exact ⟨p1, p2, by rw [fr_d0 p3 (by decide)]; exact d1, l1, (sy.fr f1 (by decide) (by decide)).fr p3 (by decide) (by decide), (ty.fr f1 (by decide) (by decide)).fr p3 (by decide) (by decide)⟩
      refine T_call ro1 fun v hz P => ?_
      obtain ⟨qz, g50, dz, lz, sz, tz⟩ := P
      have exo := exs_ok (cm tx L p).2.1 (g := g) qx.2.1
      have hd : ∃ rest', rest = (cm tx L p).2.1 :: rest' ∧ ((rest' = [] ∧ hr tx L (cm tx L p).2.2 = -1) ∨ (hr tx L (cm tx L p).2.2 ≠ -1 ∧ prL tx L n (cm tx L p).2.2 = .inr rest')) := by
        rcases alt with ⟨a1, a2⟩ | ⟨a1, l, a2, a3⟩
        · exact ⟨[], a2, Or.inl ⟨rfl, a1⟩⟩
        · exact ⟨l, a3, Or.inr ⟨a1, a2⟩⟩
      obtain ⟨rest', rfl, alt'⟩ := hd
      have er' : (if (exs (cm tx L p).2.1 g).1 = 0 then exL rest' (exs (cm tx L p).2.1 g).2 (k + 1) else .inl k) = R := er
      rw [m_gI qz.1 (by decide), g50]
      by_cases c0 : (exs (cm tx L p).2.1 g).1 = 0
      · rw [if_pos c0] at qz er'
        rw [c0, T_ifp (by decide), T_pp]
        rw [List.length_cons] at hk
        exact Or.inl ⟨_, rest'.length, rfl, by rw [List.length_cons]; omega, k + 1, _, _, rest', n, by rw [nI_succ], rfl, by omega, lz, dz, qz, sz, tz, er', alt'⟩
      · rw [if_neg c0] at qz er'
        have cn : ¬ (0 : Int32) ≤ (exs (cm tx L p).2.1 g).1 := by
          rcases exo.1 with z | z | z
          · exact absurd z c0
          · rw [z]; decide
          · rw [z]; decide
        rw [T_ifn cn]
        refine T_call (m_restore qz.1 (nI k)) fun _ hw P => ?_
        obtain ⟨fw, pw⟩ := P
        rw [T_pp]
        refine Or.inr ⟨_, rfl, Or.inl ⟨k, rfl, er'.symm, ?_⟩⟩
        obtain ⟨a1, a2, a3, a4, a5, a6, a7, a8⟩ := qz
        exact ⟨fw.1, hw0, sz.cp hw0.2.1 (fun j hj => by rw [Nat.zero_add]; exact pw j hj), a4.fr fw (by decide) (by decide), a5, a6.fr fw (by decide) (by decide), a7.fr fw (by decide), a8.fr fw (by decide)⟩
  · obtain ⟨n, -, ok, -⟩ := prL_at hp
    exact cm_hr ok
theorem T_assoc {α β γ : Type} {A : PM α} {B : α → PM β} {k : β → PM γ} {P : β → PH → Prop} {Q : γ → PH → Prop} (t : T (pb A B) h P) (hk : ∀ z h', P z h' → T (k z) h' Q) : T (pb A fun v => pb (B v) k) h Q := by
  rw [T_pb] at t
  obtain ⟨v, h1, e, t⟩ := t
  rw [T_pb]
  exact ⟨v, h1, e, T_call t hk⟩
theorem prL_len : ∀ m p cs, prL tx L m p = .inr cs → cs.length ≤ m := by
  intro m
  induction m with
  | zero => intro p cs e; cases e
  | succ m ih =>
    intro p cs e
    obtain ⟨n, en, ok, alt⟩ := prL_at e
    have : n = m := by omega
    subst this
    rcases alt with ⟨-, rfl⟩ | ⟨-, l, e2, rfl⟩
    · simp
    · have := ih _ l e2
      simp
      exact this
theorem M_reads {st : St} (q : MR h st) (hb : ∀ c ∈ st.2.2.1, rg c 0 127) : T (fX10_reads 0) h (fun v h' => v = (q_reads st).1 ∧ MR h' (q_reads st).2) := by
  unfold fX10_reads q_reads
  have hM := q.1
  have ht := Txt_of q hb
  generalize (fun i => st.2.2.1.getD i 0) = tx at ht
  generalize st.2.2.1.length = L at ht
  rw [m_chk hM, m_sI hM (by decide)]
  have hM1 : MW (wI h 0 46 0) := MW_wI0 rfl hM
  have f1 : Fr [146] h (wI h 0 46 0) := (Fr.rf hM [146]).I0 rfl (by decide)
  have q1 := q.fr f1 (by decide)
  have t1 := ht.fr f1 (by decide) (by decide)
  have d1 : dig (wI h 0 46 0) 0 46 = 1 := by rw [dig_wIm hM (by decide), if_pos ⟨rfl, rfl⟩]; rfl
  refine T_assoc (m_first hM1 t1 d1) fun z h2 P => ?_
  obtain ⟨f2, P⟩ := P
  have q2 := q1.fr f2 (by decide)
  have t2 := t1.fr f2 (by decide) (by decide)
  have hM2 := q2.1
  rcases P with ⟨rfl, cs, ecs⟩ | ⟨rfl, p, dp, lp, ep⟩
  · rw [T_ifn (by decide), ecs]
    refine T_call (m_aside hM2) fun _ h3 P => ?_
    obtain ⟨f3, p3⟩ := P
    have q3 := q2.fr f3 (by decide)
    have t3 := t2.fr f3 (by decide) (by decide)
    have hM3 := q3.1
    have s3 : SgAt h3 16 0 st.1 := q2.2.2.1.cp q2.2.1.2.1 fun j hj => by rw [Nat.zero_add]; exact p3 j hj
    have hM4 : MW (wI h3 0 46 0) := MW_wI0 rfl hM3
    rw [m_sI hM3 (by decide), m_sI hM4 (by decide)]
    have hM5 : MW (wI (wI h3 0 46 0) 0 50 0) := MW_wI0 rfl hM4
    have f5 : Fr [146, 150] h3 (wI (wI h3 0 46 0) 0 50 0) := ((Fr.rf hM3 [146, 150]).I0 rfl (by decide)).I0 rfl (by decide)
    have d5 : dig (wI (wI h3 0 46 0) 0 50 0) 0 46 = 1 := by
      rw [dig_wIm hM4 (by decide), if_neg (by decide), dig_wIm hM3 (by decide), if_pos ⟨rfl, rfl⟩]
      rfl
    have lc := prL_len _ _ _ ecs
    refine T_call (m_second (s0 := st.1) (cs := cs) q.2.1 (by omega) (q3.fr f5 (by decide)) (t3.fr f5 (by decide) (by decide)) (s3.fr f5 (by decide) (by decide)) d5 ecs) fun z h6 P => ?_
    rcases P with ⟨k, rfl, ek, q6⟩ | ⟨g, rfl, eg, q6, s6⟩
    · dsimp only
      rw [T_pp, ek]
      exact ⟨rfl, q6⟩
    · dsimp only
      rw [eg]
      refine T_call (m_keepsAside q6.1 q6.2.2.2.1 q6.2.2.1 s6 q6.2.1.2.1 q.2.1.2.1) fun _ h7 P => ?_
      obtain ⟨f7, g7, k7⟩ := P
      rw [T_pp]
      obtain ⟨a1, a2, a3, a4, a5, a6, a7, a8⟩ := q6
      exact ⟨rfl, f7.1, a2, g7, k7, WS_kpp a5 q.2.1, a6.fr f7 (by decide) (by decide), a7.fr f7 (by decide), a8.fr f7 (by decide)⟩
  · rw [T_ifp rfl, m_gI hM2 (by decide), dig_gi dp, T_pp, ep]
    exact ⟨rfl, q2⟩
end S17
