section S7
variable {h h' : PH} {N : Nat}
/-! fractions over 1 -/
theorem J_div1 (a : Int64) : a / 1 = a := by
  refine Int64.toInt_inj.mp ?_
  rw [Int64.toInt_div, show (1 : Int64).toInt = 1 from rfl, Int.tdiv_one]
  exact Int.bmod_eq_of_le (by have := a.le_toInt; omega) (by have := a.toInt_lt; omega)
theorem J_rem1 (a : Int64) : a - a / 1 * 1 = 0 := by rw [J_div1, Int64.mul_one, Int64.sub_self]
theorem m_div1 (a : Int64) : T (fX10_divisor a 1) h (fun v h' => h' = h ∧ v = 1) := by
  have key : ∀ x : Int64, T (plo fX10_divisor_B28 fu (x, 1)) h (fun v h' => h' = h ∧ v = 1) := by
    intro x
    refine T_loop (fun n s h1 => h1 = h ∧ ((n = 2 ∧ s.2 = 1) ∨ (n = 1 ∧ s = (1, 0)))) (fun n s h1 q => ?_) fu 2 (x, 1) h (by decide) ⟨rfl, Or.inl ⟨rfl, rfl⟩⟩
    obtain ⟨rfl, q⟩ := q
    rcases q with ⟨rfl, e⟩ | ⟨rfl, rfl⟩
    · obtain ⟨x, y⟩ := s
      dsimp only at e
      subst e
      unfold fX10_divisor_B28 fX10_divisor_b28
      rw [T_frJ, T_frJ]
      dsimp only
      rw [T_ifn (by decide), T_ifn (by decide), T_pp]
      refine Or.inl ⟨_, 1, rfl, by decide, rfl, Or.inr ⟨rfl, ?_⟩⟩
      rw [J_rem1]
    · unfold fX10_divisor_B28 fX10_divisor_b28
      rw [T_frJ, T_frJ, T_ifp (by decide), T_pp]
      exact Or.inr ⟨1, rfl, rfl, rfl⟩
  unfold fX10_divisor
  have c : (0 : Int32) ≤ lg_cmp 1 0 := by decide
  rw [T_ite, T_ifp c, T_ifp c]
  refine ⟨fun _ => T_call (key _) fun v h1 p => ?_, fun _ => T_call (key _) fun v h1 p => ?_⟩
  · rw [T_pp]; exact p
  · rw [T_pp]; exact p
theorem m_lowest1 (hM : MW h) (a : Int64) : T (fX10_lowest 0 a 1) h (fun _ h' => Fr [105, 106] h h' ∧ gj h' 0 5 = a ∧ gj h' 0 6 = 1) := by
  unfold fX10_lowest
  rw [m_chk hM]
  refine T_call (m_div1 a) fun v h1 p => ?_
  obtain ⟨rfl, rfl⟩ := p
  rw [T_ifp (by decide), T_ifn (by decide), m_sJ hM (by decide), T_ifn (by decide), m_sJ (MW_wJ0 rfl hM) (by decide), T_pp, J_div1, J_div1]
  refine ⟨((Fr.rf hM _).J0 rfl (by decide)).J0 rfl (by decide), ?_, ?_⟩
  · rw [gj_wJ_nk (by decide), gj_wJm hM (by decide), if_pos ⟨rfl, rfl⟩]
  · rw [gj_wJm (MW_wJ0 rfl hM) (by decide), if_pos ⟨rfl, rfl⟩]
theorem m_sumOf1 (hM : MW h) (a c : Int64) : T (fX10_sumOf 0 a 1 c 1) h (fun _ h' => Fr [105, 106] h h' ∧ gj h' 0 5 = a + c ∧ gj h' 0 6 = 1) := by
  unfold fX10_sumOf
  rw [m_chk hM, Int64.mul_one, Int64.mul_one, Int64.mul_one]
  exact T_call (m_lowest1 hM _) fun v h1 p => by rw [T_pp]; exact p
theorem m_more1 (hM : MW h) (a c e : Int64) : T (fX10_more 0 a 1 c 1 e 1) h (fun _ h' => Fr [105, 106] h h' ∧ gj h' 0 5 = a + c * e ∧ gj h' 0 6 = 1) := by
  unfold fX10_more
  rw [m_chk hM, Int64.mul_one]
  refine T_call (m_lowest1 hM _) fun v h1 p => ?_
  obtain ⟨f, p1, p2⟩ := p
  rw [m_gJ f.1 (by decide), m_gJ f.1 (by decide), p1, p2]
  refine T_call (m_sumOf1 f.1 _ _) fun v h2 p => ?_
  rw [T_pp]
  exact ⟨f.tr p.1, p.2⟩
/-! the sum as it would be: rows 34 and 35 -/
def ThAt (h : PH) (f : Nat → Int64) : Prop := ∀ i, i < 16 → gj h 34 i = f i ∧ gj h 35 i = 1
theorem ThAt.fr {S : List Nat} {f : Nat → Int64} (q : ThAt h f) (r : Fr S h h') (h1 : 34 ∉ S) (h2 : 35 ∉ S) : ThAt h' f := fun i hi => by
  rw [fr_gjr r (by decide) h1, fr_gjr r (by decide) h2]
  exact q i hi
theorem m_laysSum (hM : MW h) {s : Sg} (hs : SgAt h 11 0 s) : T (fX10_laysSum 0) h (fun _ h' => Fr [34, 35] h h' ∧ ThAt h' s.2) := by
  unfold fX10_laysSum
  rw [m_chk hM]
  refine T_call (P := fun _ h' => Fr [34, 35] h h' ∧ ThAt h' s.2) ?_ (fun _ h1 p => by rw [T_pp]; exact p)
  refine T_for 16 (fun n h' => Fr [34, 35] h h' ∧ ∀ i, i < n → gj h' 34 i = s.2 i ∧ gj h' 35 i = 1) (fun i h1 hi hI => ?_) (fun h1 hI => ?_) (by decide) (i0 := 0) (by decide) ⟨Fr.rf hM _, fun i hi => by omega⟩
  · obtain ⟨hF, hI⟩ := hI
    have hM1 := hF.1
    have c1 : ¬ nI 16 ≤ nI i := nI_ge hi (by decide)
    have s1 := (hs.2 i hi)
    rw [Nat.zero_add, Nat.zero_add, ← fr_gjr hF (by decide) (by decide), ← fr_gjr hF (by decide) (by decide)] at s1
    obtain ⟨s1, s2⟩ := s1
    unfold fX10_laysSum_B2 fX10_laysSum_b2
    simp (disch := first | assumption | decide | omega | (simp only [ml_0, ml_1, ml_2, ml_3, ml_4, ml_5, ml_6, ml_7, ml_8, ml_9, ml_10, ml_11, ml_12, ml_13, ml_14, ml_15, ml_16, ml_17, ml_18, ml_19, ml_20, ml_21, ml_22, ml_23, ml_24, ml_25, ml_26, ml_27, ml_28, ml_29, ml_30, ml_31, ml_32, ml_33, ml_34, ml_35, ml_36]; omega) | (simp only [ml_0, ml_1, ml_2, ml_3, ml_4, ml_5, ml_6, ml_7, ml_8, ml_9, ml_10, ml_11, ml_12, ml_13, ml_14, ml_15, ml_16, ml_17, ml_18, ml_19, ml_20, ml_21, ml_22, ml_23, ml_24, ml_25, ml_26, ml_27, ml_28, ml_29, ml_30, ml_31, ml_32, ml_33, ml_34, ml_35, ml_36]; decide) | (apply MW_wIr (by decide); (repeat' (first | assumption | apply MW_wIr (by decide) | apply MW_wJr (by decide) | apply MW_wI0 rfl | apply MW_wJ0 rfl)); done) | (apply MW_wJr (by decide); (repeat' (first | assumption | apply MW_wIr (by decide) | apply MW_wJr (by decide) | apply MW_wI0 rfl | apply MW_wJ0 rfl)); done) | (apply MW_wI0 rfl; (repeat' (first | assumption | apply MW_wIr (by decide) | apply MW_wJr (by decide) | apply MW_wI0 rfl | apply MW_wJ0 rfl)); done) | (apply MW_wJ0 rfl; (repeat' (first | assumption | apply MW_wIr (by decide) | apply MW_wJr (by decide) | apply MW_wI0 rfl | apply MW_wJ0 rfl)); done)) only [T_fr, T_frJ, li_0, li_1, li_2, li_3, li_4, li_5, li_6, li_7, li_8, li_9, li_10, li_11, li_12, li_13, li_14, li_15, li_16, li_17, li_25, li_30, li_31, li_32, li_33, li_43, li_45, li_48, li_57, li_59, li_60, li_61, li_99, li_110, li_116, li_119, li_120, li_122, li_127, li_165, li_198, li_256, pk_mul, nI_add, m_chk, m_gA, mr_0, mr_1, mr_2, mr_4, mr_9, mr_10, mr_11, mr_12, mr_15, mr_16, mr_17, mr_18, mr_19, mr_20, mr_21, mr_22, mr_23, mr_24, mr_25, mr_27, mr_28, mr_29, mr_30, mr_31, mr_32, mr_33, mr_34, mr_36, mr_37, mr_38, mr_39, mr_40, mr_41, mr_42, mr_43, mr_44, m_gI, m_gJ, m_lI, m_lJ, m_tI, m_tJ, m_sI, m_sJ, T_pp, T_ifn, T_ifp, not_false_eq_true, not_true_eq_false, gi_wI_ne, gi_wJ_ne, gj_wI_ne, gj_wJ_ne, gi_wI_nk, gi_wJ_nk, gj_wI_nk, gj_wJ_nk, s1, s2]
    refine ⟨trivial, (hF.J (by decide) (by decide)).J (by decide) (by decide), fun j hj => ?_⟩
    by_cases c : j = i
    · subst c
      try simp (disch := first | assumption | decide | omega | (simp only [ml_0, ml_1, ml_2, ml_3, ml_4, ml_5, ml_6, ml_7, ml_8, ml_9, ml_10, ml_11, ml_12, ml_13, ml_14, ml_15, ml_16, ml_17, ml_18, ml_19, ml_20, ml_21, ml_22, ml_23, ml_24, ml_25, ml_26, ml_27, ml_28, ml_29, ml_30, ml_31, ml_32, ml_33, ml_34, ml_35, ml_36]; omega) | (simp only [ml_0, ml_1, ml_2, ml_3, ml_4, ml_5, ml_6, ml_7, ml_8, ml_9, ml_10, ml_11, ml_12, ml_13, ml_14, ml_15, ml_16, ml_17, ml_18, ml_19, ml_20, ml_21, ml_22, ml_23, ml_24, ml_25, ml_26, ml_27, ml_28, ml_29, ml_30, ml_31, ml_32, ml_33, ml_34, ml_35, ml_36]; decide) | (apply MW_wIr (by decide); (repeat' (first | assumption | apply MW_wIr (by decide) | apply MW_wJr (by decide) | apply MW_wI0 rfl | apply MW_wJ0 rfl)); done) | (apply MW_wJr (by decide); (repeat' (first | assumption | apply MW_wIr (by decide) | apply MW_wJr (by decide) | apply MW_wI0 rfl | apply MW_wJ0 rfl)); done) | (apply MW_wI0 rfl; (repeat' (first | assumption | apply MW_wIr (by decide) | apply MW_wJr (by decide) | apply MW_wI0 rfl | apply MW_wJ0 rfl)); done) | (apply MW_wJ0 rfl; (repeat' (first | assumption | apply MW_wIr (by decide) | apply MW_wJr (by decide) | apply MW_wI0 rfl | apply MW_wJ0 rfl)); done)) only [gi_wI_ne, gi_wJ_ne, gj_wI_ne, gj_wJ_ne, gi_wI_nk, gi_wJ_nk, gj_wI_nk, gj_wJ_nk, gj_wJm, gi_wIm, if_neg, if_pos, true_and, and_true]
    · have := hI j (by omega)
      try simp (disch := first | assumption | decide | omega | (simp only [ml_0, ml_1, ml_2, ml_3, ml_4, ml_5, ml_6, ml_7, ml_8, ml_9, ml_10, ml_11, ml_12, ml_13, ml_14, ml_15, ml_16, ml_17, ml_18, ml_19, ml_20, ml_21, ml_22, ml_23, ml_24, ml_25, ml_26, ml_27, ml_28, ml_29, ml_30, ml_31, ml_32, ml_33, ml_34, ml_35, ml_36]; omega) | (simp only [ml_0, ml_1, ml_2, ml_3, ml_4, ml_5, ml_6, ml_7, ml_8, ml_9, ml_10, ml_11, ml_12, ml_13, ml_14, ml_15, ml_16, ml_17, ml_18, ml_19, ml_20, ml_21, ml_22, ml_23, ml_24, ml_25, ml_26, ml_27, ml_28, ml_29, ml_30, ml_31, ml_32, ml_33, ml_34, ml_35, ml_36]; decide) | (apply MW_wIr (by decide); (repeat' (first | assumption | apply MW_wIr (by decide) | apply MW_wJr (by decide) | apply MW_wI0 rfl | apply MW_wJ0 rfl)); done) | (apply MW_wJr (by decide); (repeat' (first | assumption | apply MW_wIr (by decide) | apply MW_wJr (by decide) | apply MW_wI0 rfl | apply MW_wJ0 rfl)); done) | (apply MW_wI0 rfl; (repeat' (first | assumption | apply MW_wIr (by decide) | apply MW_wJr (by decide) | apply MW_wI0 rfl | apply MW_wJ0 rfl)); done) | (apply MW_wJ0 rfl; (repeat' (first | assumption | apply MW_wIr (by decide) | apply MW_wJr (by decide) | apply MW_wI0 rfl | apply MW_wJ0 rfl)); done)) only [gi_wI_ne, gi_wJ_ne, gj_wI_ne, gj_wJ_ne, gi_wI_nk, gi_wJ_nk, gj_wI_nk, gj_wJ_nk, gj_wJm, gi_wIm, if_neg, if_pos, true_and, and_true]
      exact this
  · have hM1 := hI.1.1
    unfold fX10_laysSum_B2 fX10_laysSum_b2
    have c1 : nI 16 ≤ nI 16 := by decide
    simp (disch := first | assumption | decide | omega | (simp only [ml_0, ml_1, ml_2, ml_3, ml_4, ml_5, ml_6, ml_7, ml_8, ml_9, ml_10, ml_11, ml_12, ml_13, ml_14, ml_15, ml_16, ml_17, ml_18, ml_19, ml_20, ml_21, ml_22, ml_23, ml_24, ml_25, ml_26, ml_27, ml_28, ml_29, ml_30, ml_31, ml_32, ml_33, ml_34, ml_35, ml_36]; omega) | (simp only [ml_0, ml_1, ml_2, ml_3, ml_4, ml_5, ml_6, ml_7, ml_8, ml_9, ml_10, ml_11, ml_12, ml_13, ml_14, ml_15, ml_16, ml_17, ml_18, ml_19, ml_20, ml_21, ml_22, ml_23, ml_24, ml_25, ml_26, ml_27, ml_28, ml_29, ml_30, ml_31, ml_32, ml_33, ml_34, ml_35, ml_36]; decide) | (apply MW_wIr (by decide); (repeat' (first | assumption | apply MW_wIr (by decide) | apply MW_wJr (by decide) | apply MW_wI0 rfl | apply MW_wJ0 rfl)); done) | (apply MW_wJr (by decide); (repeat' (first | assumption | apply MW_wIr (by decide) | apply MW_wJr (by decide) | apply MW_wI0 rfl | apply MW_wJ0 rfl)); done) | (apply MW_wI0 rfl; (repeat' (first | assumption | apply MW_wIr (by decide) | apply MW_wJr (by decide) | apply MW_wI0 rfl | apply MW_wJ0 rfl)); done) | (apply MW_wJ0 rfl; (repeat' (first | assumption | apply MW_wIr (by decide) | apply MW_wJr (by decide) | apply MW_wI0 rfl | apply MW_wJ0 rfl)); done)) only [T_fr, T_frJ, li_0, li_1, li_2, li_3, li_4, li_5, li_6, li_7, li_8, li_9, li_10, li_11, li_12, li_13, li_14, li_15, li_16, li_17, li_25, li_30, li_31, li_32, li_33, li_43, li_45, li_48, li_57, li_59, li_60, li_61, li_99, li_110, li_116, li_119, li_120, li_122, li_127, li_165, li_198, li_256, pk_mul, nI_add, m_chk, m_gA, mr_0, mr_1, mr_2, mr_4, mr_9, mr_10, mr_11, mr_12, mr_15, mr_16, mr_17, mr_18, mr_19, mr_20, mr_21, mr_22, mr_23, mr_24, mr_25, mr_27, mr_28, mr_29, mr_30, mr_31, mr_32, mr_33, mr_34, mr_36, mr_37, mr_38, mr_39, mr_40, mr_41, mr_42, mr_43, mr_44, m_gI, m_gJ, m_lI, m_lJ, m_tI, m_tJ, m_sI, m_sJ, T_pp, T_ifn, T_ifp, not_false_eq_true, not_true_eq_false, gi_wI_ne, gi_wJ_ne, gj_wI_ne, gj_wJ_ne, gi_wI_nk, gi_wJ_nk, gj_wI_nk, gj_wJ_nk]
    exact ⟨(), trivial, hI⟩
/-- t times symbol p - 1 is added; nothing for p = 0 -/
noncomputable def adS (N p : Nat) (t : Int64) (f : Nat → Int64) : Nat → Int64 := fun i => if p ≠ 0 ∧ i < dim N then f i + t * xJ N (p - 1) i else f i
theorem m_addsTo (hM : MW h) (h1 : 1 ≤ N) (h2 : N ≤ 25) (ok : okL N h = true) {f : Nat → Int64} (hf : ThAt h f) {p : Nat} (hp : p ≤ cnt N) {x : Int32} (hx : x = Int32.ofNat (dgI 1 p - 1)) (t : Int64) : T (fX10_addsTo 0 x t) h (fun _ h' => Fr [34, 35, 105, 106] h h' ∧ ThAt h' (adS N p t f)) := by
  have n := tb_n h1 h2
  have g14 := dig_gi (okL_at ok).2.2.2.1
  unfold fX10_addsTo
  rw [m_chk hM]
  by_cases c : p = 0
  · subst c
    have hx1 : x = -1 := by rw [hx]; decide
    refine T_call (P := fun _ h' => h' = h) ?_ (fun _ ha p => by rw [T_pp, p]; refine ⟨Fr.rf hM _, fun i hi => ?_⟩; unfold adS; rw [if_neg (fun z => z.1 rfl)]; exact hf i hi)
    refine T_loop (fun n x h1 => n = 0 ∧ h1 = h) (fun n y ha q => ?_) fu 0 (0 : Int32) h (by decide) ⟨rfl, rfl⟩
    obtain ⟨rfl, rfl⟩ := q
    unfold fX10_addsTo_B3 fX10_addsTo_b3
    rw [T_fr, m_gI hM (by decide), T_ite, T_ifp hx1, T_pp]
    exact ⟨fun _ => Or.inr ⟨(), rfl, rfl⟩, fun _ => Or.inr ⟨(), rfl, rfl⟩⟩
  · obtain ⟨s, rfl⟩ : ∃ s, p = s + 1 := ⟨p - 1, by omega⟩
    have hx1 : x = nI s := by
      rw [hx]
      unfold dgI
      rw [show (s + 1 + 4294967296 - 1) % 4294967296 + 1 - 1 = s by omega]
      rfl
    subst hx1
    have cx : ¬ nI s = (-1 : Int32) := by
      intro e
      have := congrArg Int32.toInt e
      rw [nI_toInt (by omega)] at this
      have e2 : (-1 : Int32).toInt = -1 := by decide
      omega
    have cx2 : ¬ nI s = -nI 1 := cx
    refine T_call (P := fun _ h' => Fr [34, 35, 105, 106] h h' ∧ ThAt h' (adS N (s + 1) t f)) ?_ (fun _ ha p => by rw [T_pp]; exact p)
    refine T_for (dim N) (fun n h' => Fr [34, 35, 105, 106] h h' ∧ ∀ i, i < 16 → gj h' 34 i = (if i < n then f i + t * xJ N s i else f i) ∧ gj h' 35 i = 1) (fun i ha hi hI => ?_) (fun ha hI => ?_) (by omega) (i0 := 0) (by omega) ⟨Fr.rf hM _, fun i hi => by rw [if_neg (by omega)]; exact hf i hi⟩
    · obtain ⟨hF, hI⟩ := hI
      have hM1 := hF.1
      have o := (okL_at ok).2.2.2.2.2.2.2 s i (by omega) hi
      have gX : gj ha 13 (16 * s + i) = xJ N s i := by rw [fr_gjr hF (by decide) (by decide)]; exact dig_xJ o.1
      have gO : gj ha 14 (16 * s + i) = 1 := by rw [fr_gjr hF (by decide) (by decide)]; exact dig_gl (n := 1) o.2
      have g14' : gi ha 0 14 = nI (dim N) := by rw [fr_gi0 hF (by decide)]; exact g14
      have c1 : ¬ nI (dim N) ≤ nI i := nI_ge hi (by omega)
      have i1 := (hI i (by omega)).1
      rw [if_neg (by omega)] at i1
      have i2 := (hI i (by omega)).2
      unfold fX10_addsTo_B3 fX10_addsTo_b3
      simp (disch := first | assumption | decide | omega | (simp only [ml_0, ml_1, ml_2, ml_3, ml_4, ml_5, ml_6, ml_7, ml_8, ml_9, ml_10, ml_11, ml_12, ml_13, ml_14, ml_15, ml_16, ml_17, ml_18, ml_19, ml_20, ml_21, ml_22, ml_23, ml_24, ml_25, ml_26, ml_27, ml_28, ml_29, ml_30, ml_31, ml_32, ml_33, ml_34, ml_35, ml_36]; omega) | (simp only [ml_0, ml_1, ml_2, ml_3, ml_4, ml_5, ml_6, ml_7, ml_8, ml_9, ml_10, ml_11, ml_12, ml_13, ml_14, ml_15, ml_16, ml_17, ml_18, ml_19, ml_20, ml_21, ml_22, ml_23, ml_24, ml_25, ml_26, ml_27, ml_28, ml_29, ml_30, ml_31, ml_32, ml_33, ml_34, ml_35, ml_36]; decide) | (apply MW_wIr (by decide); (repeat' (first | assumption | apply MW_wIr (by decide) | apply MW_wJr (by decide) | apply MW_wI0 rfl | apply MW_wJ0 rfl)); done) | (apply MW_wJr (by decide); (repeat' (first | assumption | apply MW_wIr (by decide) | apply MW_wJr (by decide) | apply MW_wI0 rfl | apply MW_wJ0 rfl)); done) | (apply MW_wI0 rfl; (repeat' (first | assumption | apply MW_wIr (by decide) | apply MW_wJr (by decide) | apply MW_wI0 rfl | apply MW_wJ0 rfl)); done) | (apply MW_wJ0 rfl; (repeat' (first | assumption | apply MW_wIr (by decide) | apply MW_wJr (by decide) | apply MW_wI0 rfl | apply MW_wJ0 rfl)); done)) only [T_fr, T_frJ, li_0, li_1, li_2, li_3, li_4, li_5, li_6, li_7, li_8, li_9, li_10, li_11, li_12, li_13, li_14, li_15, li_16, li_17, li_25, li_30, li_31, li_32, li_33, li_43, li_45, li_48, li_57, li_59, li_60, li_61, li_99, li_110, li_116, li_119, li_120, li_122, li_127, li_165, li_198, li_256, pk_mul, nI_add, m_chk, m_gA, mr_0, mr_1, mr_2, mr_4, mr_9, mr_10, mr_11, mr_12, mr_15, mr_16, mr_17, mr_18, mr_19, mr_20, mr_21, mr_22, mr_23, mr_24, mr_25, mr_27, mr_28, mr_29, mr_30, mr_31, mr_32, mr_33, mr_34, mr_36, mr_37, mr_38, mr_39, mr_40, mr_41, mr_42, mr_43, mr_44, m_gI, m_gJ, m_lI, m_lJ, m_tI, m_tJ, m_sI, m_sJ, T_pp, T_ifn, T_ifp, not_false_eq_true, not_true_eq_false, gi_wI_ne, gi_wJ_ne, gj_wI_ne, gj_wJ_ne, gi_wI_nk, gi_wJ_nk, gj_wI_nk, gj_wJ_nk, g14', i1, i2, gX, gO]
      refine T_call (m_more1 hM1 _ _ _) fun _ hb p => ?_
      obtain ⟨r, p5, p6⟩ := p
      have hM2 := r.1
      simp (disch := first | assumption | decide | omega | (simp only [ml_0, ml_1, ml_2, ml_3, ml_4, ml_5, ml_6, ml_7, ml_8, ml_9, ml_10, ml_11, ml_12, ml_13, ml_14, ml_15, ml_16, ml_17, ml_18, ml_19, ml_20, ml_21, ml_22, ml_23, ml_24, ml_25, ml_26, ml_27, ml_28, ml_29, ml_30, ml_31, ml_32, ml_33, ml_34, ml_35, ml_36]; omega) | (simp only [ml_0, ml_1, ml_2, ml_3, ml_4, ml_5, ml_6, ml_7, ml_8, ml_9, ml_10, ml_11, ml_12, ml_13, ml_14, ml_15, ml_16, ml_17, ml_18, ml_19, ml_20, ml_21, ml_22, ml_23, ml_24, ml_25, ml_26, ml_27, ml_28, ml_29, ml_30, ml_31, ml_32, ml_33, ml_34, ml_35, ml_36]; decide) | (apply MW_wIr (by decide); (repeat' (first | assumption | apply MW_wIr (by decide) | apply MW_wJr (by decide) | apply MW_wI0 rfl | apply MW_wJ0 rfl)); done) | (apply MW_wJr (by decide); (repeat' (first | assumption | apply MW_wIr (by decide) | apply MW_wJr (by decide) | apply MW_wI0 rfl | apply MW_wJ0 rfl)); done) | (apply MW_wI0 rfl; (repeat' (first | assumption | apply MW_wIr (by decide) | apply MW_wJr (by decide) | apply MW_wI0 rfl | apply MW_wJ0 rfl)); done) | (apply MW_wJ0 rfl; (repeat' (first | assumption | apply MW_wIr (by decide) | apply MW_wJr (by decide) | apply MW_wI0 rfl | apply MW_wJ0 rfl)); done)) only [T_fr, T_frJ, li_0, li_1, li_2, li_3, li_4, li_5, li_6, li_7, li_8, li_9, li_10, li_11, li_12, li_13, li_14, li_15, li_16, li_17, li_25, li_30, li_31, li_32, li_33, li_43, li_45, li_48, li_57, li_59, li_60, li_61, li_99, li_110, li_116, li_119, li_120, li_122, li_127, li_165, li_198, li_256, pk_mul, nI_add, m_chk, m_gA, mr_0, mr_1, mr_2, mr_4, mr_9, mr_10, mr_11, mr_12, mr_15, mr_16, mr_17, mr_18, mr_19, mr_20, mr_21, mr_22, mr_23, mr_24, mr_25, mr_27, mr_28, mr_29, mr_30, mr_31, mr_32, mr_33, mr_34, mr_36, mr_37, mr_38, mr_39, mr_40, mr_41, mr_42, mr_43, mr_44, m_gI, m_gJ, m_lI, m_lJ, m_tI, m_tJ, m_sI, m_sJ, T_pp, T_ifn, T_ifp, not_false_eq_true, not_true_eq_false, gi_wI_ne, gi_wJ_ne, gj_wI_ne, gj_wJ_ne, gi_wI_nk, gi_wJ_nk, gj_wI_nk, gj_wJ_nk, p5, p6]
      have r2 := hF.seq r (by decide)
      refine ⟨trivial, (r2.J (by decide) (by decide)).J (by decide) (by decide), fun j hj => ?_⟩
      by_cases cj : j = i
      · subst cj
        rw [if_pos (by omega)]
        try simp (disch := first | assumption | decide | omega | (simp only [ml_0, ml_1, ml_2, ml_3, ml_4, ml_5, ml_6, ml_7, ml_8, ml_9, ml_10, ml_11, ml_12, ml_13, ml_14, ml_15, ml_16, ml_17, ml_18, ml_19, ml_20, ml_21, ml_22, ml_23, ml_24, ml_25, ml_26, ml_27, ml_28, ml_29, ml_30, ml_31, ml_32, ml_33, ml_34, ml_35, ml_36]; omega) | (simp only [ml_0, ml_1, ml_2, ml_3, ml_4, ml_5, ml_6, ml_7, ml_8, ml_9, ml_10, ml_11, ml_12, ml_13, ml_14, ml_15, ml_16, ml_17, ml_18, ml_19, ml_20, ml_21, ml_22, ml_23, ml_24, ml_25, ml_26, ml_27, ml_28, ml_29, ml_30, ml_31, ml_32, ml_33, ml_34, ml_35, ml_36]; decide) | (apply MW_wIr (by decide); (repeat' (first | assumption | apply MW_wIr (by decide) | apply MW_wJr (by decide) | apply MW_wI0 rfl | apply MW_wJ0 rfl)); done) | (apply MW_wJr (by decide); (repeat' (first | assumption | apply MW_wIr (by decide) | apply MW_wJr (by decide) | apply MW_wI0 rfl | apply MW_wJ0 rfl)); done) | (apply MW_wI0 rfl; (repeat' (first | assumption | apply MW_wIr (by decide) | apply MW_wJr (by decide) | apply MW_wI0 rfl | apply MW_wJ0 rfl)); done) | (apply MW_wJ0 rfl; (repeat' (first | assumption | apply MW_wIr (by decide) | apply MW_wJr (by decide) | apply MW_wI0 rfl | apply MW_wJ0 rfl)); done)) only [gi_wI_ne, gi_wJ_ne, gj_wI_ne, gj_wJ_ne, gi_wI_nk, gi_wJ_nk, gj_wI_nk, gj_wJ_nk, gj_wJm, gi_wIm, if_neg, if_pos, true_and, and_true]
      · have := hI j hj
        have e1 : gj hb 34 j = gj ha 34 j := fr_gjr r (by decide) (by decide)
        have e2 : gj hb 35 j = gj ha 35 j := fr_gjr r (by decide) (by decide)
        try simp (disch := first | assumption | decide | omega | (simp only [ml_0, ml_1, ml_2, ml_3, ml_4, ml_5, ml_6, ml_7, ml_8, ml_9, ml_10, ml_11, ml_12, ml_13, ml_14, ml_15, ml_16, ml_17, ml_18, ml_19, ml_20, ml_21, ml_22, ml_23, ml_24, ml_25, ml_26, ml_27, ml_28, ml_29, ml_30, ml_31, ml_32, ml_33, ml_34, ml_35, ml_36]; omega) | (simp only [ml_0, ml_1, ml_2, ml_3, ml_4, ml_5, ml_6, ml_7, ml_8, ml_9, ml_10, ml_11, ml_12, ml_13, ml_14, ml_15, ml_16, ml_17, ml_18, ml_19, ml_20, ml_21, ml_22, ml_23, ml_24, ml_25, ml_26, ml_27, ml_28, ml_29, ml_30, ml_31, ml_32, ml_33, ml_34, ml_35, ml_36]; decide) | (apply MW_wIr (by decide); (repeat' (first | assumption | apply MW_wIr (by decide) | apply MW_wJr (by decide) | apply MW_wI0 rfl | apply MW_wJ0 rfl)); done) | (apply MW_wJr (by decide); (repeat' (first | assumption | apply MW_wIr (by decide) | apply MW_wJr (by decide) | apply MW_wI0 rfl | apply MW_wJ0 rfl)); done) | (apply MW_wI0 rfl; (repeat' (first | assumption | apply MW_wIr (by decide) | apply MW_wJr (by decide) | apply MW_wI0 rfl | apply MW_wJ0 rfl)); done) | (apply MW_wJ0 rfl; (repeat' (first | assumption | apply MW_wIr (by decide) | apply MW_wJr (by decide) | apply MW_wI0 rfl | apply MW_wJ0 rfl)); done)) only [gi_wI_ne, gi_wJ_ne, gj_wI_ne, gj_wJ_ne, gi_wI_nk, gi_wJ_nk, gj_wI_nk, gj_wJ_nk, gj_wJm, gi_wIm, if_neg, if_pos, true_and, and_true, e1, e2]
        rw [this.1]
        refine ⟨?_, this.2⟩
        by_cases c3 : j < i
        · rw [if_pos c3, if_pos (by omega)]
        · rw [if_neg c3, if_neg (by omega)]
    · obtain ⟨hF, hI⟩ := hI
      have hM1 := hF.1
      have g14' : gi ha 0 14 = nI (dim N) := by rw [fr_gi0 hF (by decide)]; exact g14
      have c1 : nI (dim N) ≤ nI (dim N) := nI_le (Nat.le_refl _) (by omega)
      unfold fX10_addsTo_B3 fX10_addsTo_b3
      simp (disch := first | assumption | decide | omega | (simp only [ml_0, ml_1, ml_2, ml_3, ml_4, ml_5, ml_6, ml_7, ml_8, ml_9, ml_10, ml_11, ml_12, ml_13, ml_14, ml_15, ml_16, ml_17, ml_18, ml_19, ml_20, ml_21, ml_22, ml_23, ml_24, ml_25, ml_26, ml_27, ml_28, ml_29, ml_30, ml_31, ml_32, ml_33, ml_34, ml_35, ml_36]; omega) | (simp only [ml_0, ml_1, ml_2, ml_3, ml_4, ml_5, ml_6, ml_7, ml_8, ml_9, ml_10, ml_11, ml_12, ml_13, ml_14, ml_15, ml_16, ml_17, ml_18, ml_19, ml_20, ml_21, ml_22, ml_23, ml_24, ml_25, ml_26, ml_27, ml_28, ml_29, ml_30, ml_31, ml_32, ml_33, ml_34, ml_35, ml_36]; decide) | (apply MW_wIr (by decide); (repeat' (first | assumption | apply MW_wIr (by decide) | apply MW_wJr (by decide) | apply MW_wI0 rfl | apply MW_wJ0 rfl)); done) | (apply MW_wJr (by decide); (repeat' (first | assumption | apply MW_wIr (by decide) | apply MW_wJr (by decide) | apply MW_wI0 rfl | apply MW_wJ0 rfl)); done) | (apply MW_wI0 rfl; (repeat' (first | assumption | apply MW_wIr (by decide) | apply MW_wJr (by decide) | apply MW_wI0 rfl | apply MW_wJ0 rfl)); done) | (apply MW_wJ0 rfl; (repeat' (first | assumption | apply MW_wIr (by decide) | apply MW_wJr (by decide) | apply MW_wI0 rfl | apply MW_wJ0 rfl)); done)) only [T_fr, T_frJ, li_0, li_1, li_2, li_3, li_4, li_5, li_6, li_7, li_8, li_9, li_10, li_11, li_12, li_13, li_14, li_15, li_16, li_17, li_25, li_30, li_31, li_32, li_33, li_43, li_45, li_48, li_57, li_59, li_60, li_61, li_99, li_110, li_116, li_119, li_120, li_122, li_127, li_165, li_198, li_256, pk_mul, nI_add, m_chk, m_gA, mr_0, mr_1, mr_2, mr_4, mr_9, mr_10, mr_11, mr_12, mr_15, mr_16, mr_17, mr_18, mr_19, mr_20, mr_21, mr_22, mr_23, mr_24, mr_25, mr_27, mr_28, mr_29, mr_30, mr_31, mr_32, mr_33, mr_34, mr_36, mr_37, mr_38, mr_39, mr_40, mr_41, mr_42, mr_43, mr_44, m_gI, m_gJ, m_lI, m_lJ, m_tI, m_tJ, m_sI, m_sJ, T_pp, T_ifn, T_ifp, not_false_eq_true, not_true_eq_false, gi_wI_ne, gi_wJ_ne, gj_wI_ne, gj_wJ_ne, gi_wI_nk, gi_wJ_nk, gj_wI_nk, gj_wJ_nk, g14', c1]
      refine ⟨(), trivial, hF, fun i hi => ?_⟩
      have := hI i hi
      rw [this.1]
      refine ⟨?_, this.2⟩
      unfold adS
      by_cases c3 : i < dim N
      · rw [if_pos c3, if_pos ⟨by omega, c3⟩]
        rfl
      · rw [if_neg c3, if_neg (fun z => c3 z.2)]
/-- every coordinate is in its range -/
abbrev inL (z : Int64) : Prop := -1000000000000 ≤ z ∧ z ≤ 1000000000000
noncomputable def okB (N : Nat) (f : Nat → Int64) : Bool := allN (dim N) fun i => decide (inL (f i))
theorem allN_of {n : Nat} {p : Nat → Bool} (h : ∀ k, k < n → p k = true) : allN n p = true := by
  induction n with
  | zero => rfl
  | succ n ih =>
    show (bif p n then allN n p else false) = true
    rw [h n (by omega)]
    exact ih fun k hk => h k (by omega)
theorem m_canBe (hM : MW h) (h1 : 1 ≤ N) (h2 : N ≤ 25) (ok : okL N h = true) {f : Nat → Int64} (hf : ThAt h f) : T (fX10_canBe 0) h (fun v h' => h' = h ∧ v = if okB N f = true then 0 else -3) := by
  have n := tb_n h1 h2
  have g14 := dig_gi (okL_at ok).2.2.2.1
  unfold fX10_canBe
  rw [m_chk hM]
  refine T_call (P := fun z h' => h' = h ∧ ((z = .inr () ∧ okB N f = true) ∨ (z = .inl (-3) ∧ okB N f = false))) ?_ (fun z ha p => ?_)
  · refine T_loop (fun m x ha => ha = h ∧ ∃ i, x = nI i ∧ i ≤ dim N ∧ m = dim N - i ∧ ∀ j, j < i → inL (f j)) (fun m x ha q => ?_) fu (dim N) (nI 0) h (by unfold fu; omega) ⟨rfl, 0, rfl, by omega, by omega, fun j hj => by omega⟩
    obtain ⟨rfl, i, rfl, hi, rfl, hj⟩ := q
    unfold fX10_canBe_B2 fX10_canBe_b2
    rw [T_fr, m_gI hM (by decide), g14]
    by_cases c : i = dim N
    · rw [T_ifp (by rw [c]; exact nI_le (Nat.le_refl _) (by omega)), T_pp]
      exact Or.inr ⟨_, rfl, rfl, Or.inl ⟨rfl, allN_of fun k hk => decide_eq_true (hj k (by omega))⟩⟩
    · have c1 : ¬ nI (dim N) ≤ nI i := nI_ge (by omega) (by omega)
      have t1 := (hf i (by omega)).1
      have t2 := (hf i (by omega)).2
      rw [T_ifn c1, m_gA hM (by decide) (by decide), mr_42, m_lJ hM (by decide) rfl (by rw [ml_34]; omega), t1]
      refine T_call m_in fun v hb p => ?_
      obtain ⟨rfl, rfl⟩ := p
      by_cases c2 : inL (f i)
      · rw [if_pos c2, T_ifn (by decide), m_gA hM (by decide) (by decide), mr_43, m_lJ hM (by decide) rfl (by rw [ml_35]; omega), t2]
        refine T_call m_in fun v hc p => ?_
        obtain ⟨rfl, rfl⟩ := p
        rw [show (if (1 : Int64) ≤ 1 ∧ (1 : Int64) ≤ 1000000000000 then (1 : Int32) else 0) = 1 from by decide, T_ifn (by decide), T_pp]
        refine Or.inl ⟨nI (i + 1), dim N - (i + 1), by rw [← nI_succ], by omega, rfl, i + 1, rfl, by omega, rfl, fun j hj2 => ?_⟩
        by_cases cj : j = i
        · rw [cj]; exact c2
        · exact hj j (by omega)
      · rw [if_neg c2, T_ifp rfl, T_pp]
        refine Or.inr ⟨_, rfl, rfl, Or.inr ⟨rfl, ?_⟩⟩
        cases e : okB N f with
        | false => rfl
        | true =>
          have := allN_at e i (by omega)
          exact absurd (of_decide_eq_true this) c2
  · obtain ⟨rfl, p⟩ := p
    rcases p with ⟨rfl, e⟩ | ⟨rfl, e⟩
    · dsimp only
      rw [T_pp, if_pos e]
      exact ⟨rfl, rfl⟩
    · dsimp only
      rw [T_pp, e]
      exact ⟨rfl, rfl⟩
/-- how many of the first n are not 0 -/
def cnz (f : Nat → Int64) : Nat → Nat
  | 0 => 0
  | n + 1 => cnz f n + if f n = 0 then 0 else 1
theorem cnz_le (f : Nat → Int64) (n : Nat) : cnz f n ≤ n := by
  induction n with
  | zero => exact Nat.le_refl _
  | succ n ih =>
    unfold cnz
    split <;> omega
theorem cnz_ext {f : Nat → Int64} {d : Nat} (hz : ∀ i, d ≤ i → f i = 0) (k : Nat) : cnz f (d + k) = cnz f d := by
  induction k with
  | zero => rfl
  | succ k ih =>
    show cnz f (d + k) + (if f (d + k) = 0 then 0 else 1) = _
    rw [if_pos (hz _ (by omega)), ih]
    rfl
theorem m_becomes (hM : MW h) {f : Nat → Int64} {n0 : Nat} (hf : ThAt h f) (h11 : dig h 11 0 = n0 + 1) : T (fX10_becomes 0) h (fun v h' => v = nI (cnz f 16) ∧ Fr [11] h h' ∧ SgAt h' 11 0 (n0, f)) := by
  unfold fX10_becomes
  rw [m_chk hM]
  refine T_call (P := fun v h' => v = nI (cnz f 16) ∧ Fr [11] h h' ∧ SgAt h' 11 0 (n0, f)) ?_ (fun _ h1 p => by rw [T_pp]; exact p)
  refine T_forS 16 (fun n v h' => v = nI (cnz f n) ∧ Fr [11] h h' ∧ dig h' 11 0 = n0 + 1 ∧ ∀ i, i < n → gj h' 11 (1 + 2 * i) = f i ∧ gj h' 11 (2 + 2 * i) = 1) (fun i v h1 hi hI => ?_) (fun v h1 hI => ?_) (by decide) (i0 := 0) (by decide) ⟨rfl, Fr.rf hM _, h11, fun i hi => by omega⟩
  · obtain ⟨rfl, hF, h00, hI⟩ := hI
    have hM1 := hF.1
    have c1 : ¬ nI 16 ≤ nI i := nI_ge hi (by decide)
    have t1 : gj h1 34 i = f i := by rw [fr_gjr hF (by decide) (by decide)]; exact (hf i hi).1
    have t2 : gj h1 35 i = 1 := by rw [fr_gjr hF (by decide) (by decide)]; exact (hf i hi).2
    have fin : Fr [11] h (wJ (wJ h1 11 (1 + 2 * i) (f i)) 11 (2 + 2 * i) 1) ∧ dig (wJ (wJ h1 11 (1 + 2 * i) (f i)) 11 (2 + 2 * i) 1) 11 0 = n0 + 1 ∧ ∀ j, j < i + 1 → gj (wJ (wJ h1 11 (1 + 2 * i) (f i)) 11 (2 + 2 * i) 1) 11 (1 + 2 * j) = f j ∧ gj (wJ (wJ h1 11 (1 + 2 * i) (f i)) 11 (2 + 2 * i) 1) 11 (2 + 2 * j) = 1 := by
      refine ⟨(hF.J (by decide) (by decide)).J (by decide) (by decide), ?_, fun j hj => ?_⟩
      · rw [dig_wJm (MW_wJr (by decide) hM1) (by decide), if_neg (by omega), dig_wJm hM1 (by decide), if_neg (by omega)]
        exact h00
      · by_cases c : j = i
        · subst c
          try simp (disch := first | assumption | decide | omega | (simp only [ml_0, ml_1, ml_2, ml_3, ml_4, ml_5, ml_6, ml_7, ml_8, ml_9, ml_10, ml_11, ml_12, ml_13, ml_14, ml_15, ml_16, ml_17, ml_18, ml_19, ml_20, ml_21, ml_22, ml_23, ml_24, ml_25, ml_26, ml_27, ml_28, ml_29, ml_30, ml_31, ml_32, ml_33, ml_34, ml_35, ml_36]; omega) | (simp only [ml_0, ml_1, ml_2, ml_3, ml_4, ml_5, ml_6, ml_7, ml_8, ml_9, ml_10, ml_11, ml_12, ml_13, ml_14, ml_15, ml_16, ml_17, ml_18, ml_19, ml_20, ml_21, ml_22, ml_23, ml_24, ml_25, ml_26, ml_27, ml_28, ml_29, ml_30, ml_31, ml_32, ml_33, ml_34, ml_35, ml_36]; decide) | (apply MW_wIr (by decide); (repeat' (first | assumption | apply MW_wIr (by decide) | apply MW_wJr (by decide) | apply MW_wI0 rfl | apply MW_wJ0 rfl)); done) | (apply MW_wJr (by decide); (repeat' (first | assumption | apply MW_wIr (by decide) | apply MW_wJr (by decide) | apply MW_wI0 rfl | apply MW_wJ0 rfl)); done) | (apply MW_wI0 rfl; (repeat' (first | assumption | apply MW_wIr (by decide) | apply MW_wJr (by decide) | apply MW_wI0 rfl | apply MW_wJ0 rfl)); done) | (apply MW_wJ0 rfl; (repeat' (first | assumption | apply MW_wIr (by decide) | apply MW_wJr (by decide) | apply MW_wI0 rfl | apply MW_wJ0 rfl)); done)) only [gi_wI_ne, gi_wJ_ne, gj_wI_ne, gj_wJ_ne, gi_wI_nk, gi_wJ_nk, gj_wI_nk, gj_wJ_nk, gj_wJm, gi_wIm, if_neg, if_pos, true_and, and_true]
        · have := hI j (by omega)
          try simp (disch := first | assumption | decide | omega | (simp only [ml_0, ml_1, ml_2, ml_3, ml_4, ml_5, ml_6, ml_7, ml_8, ml_9, ml_10, ml_11, ml_12, ml_13, ml_14, ml_15, ml_16, ml_17, ml_18, ml_19, ml_20, ml_21, ml_22, ml_23, ml_24, ml_25, ml_26, ml_27, ml_28, ml_29, ml_30, ml_31, ml_32, ml_33, ml_34, ml_35, ml_36]; omega) | (simp only [ml_0, ml_1, ml_2, ml_3, ml_4, ml_5, ml_6, ml_7, ml_8, ml_9, ml_10, ml_11, ml_12, ml_13, ml_14, ml_15, ml_16, ml_17, ml_18, ml_19, ml_20, ml_21, ml_22, ml_23, ml_24, ml_25, ml_26, ml_27, ml_28, ml_29, ml_30, ml_31, ml_32, ml_33, ml_34, ml_35, ml_36]; decide) | (apply MW_wIr (by decide); (repeat' (first | assumption | apply MW_wIr (by decide) | apply MW_wJr (by decide) | apply MW_wI0 rfl | apply MW_wJ0 rfl)); done) | (apply MW_wJr (by decide); (repeat' (first | assumption | apply MW_wIr (by decide) | apply MW_wJr (by decide) | apply MW_wI0 rfl | apply MW_wJ0 rfl)); done) | (apply MW_wI0 rfl; (repeat' (first | assumption | apply MW_wIr (by decide) | apply MW_wJr (by decide) | apply MW_wI0 rfl | apply MW_wJ0 rfl)); done) | (apply MW_wJ0 rfl; (repeat' (first | assumption | apply MW_wIr (by decide) | apply MW_wJr (by decide) | apply MW_wI0 rfl | apply MW_wJ0 rfl)); done)) only [gi_wI_ne, gi_wJ_ne, gj_wI_ne, gj_wJ_ne, gi_wI_nk, gi_wJ_nk, gj_wI_nk, gj_wJ_nk, gj_wJm, gi_wIm, if_neg, if_pos, true_and, and_true]
          exact this
    unfold fX10_becomes_B4 fX10_becomes_b4
    simp (disch := first | assumption | decide | omega | (simp only [ml_0, ml_1, ml_2, ml_3, ml_4, ml_5, ml_6, ml_7, ml_8, ml_9, ml_10, ml_11, ml_12, ml_13, ml_14, ml_15, ml_16, ml_17, ml_18, ml_19, ml_20, ml_21, ml_22, ml_23, ml_24, ml_25, ml_26, ml_27, ml_28, ml_29, ml_30, ml_31, ml_32, ml_33, ml_34, ml_35, ml_36]; omega) | (simp only [ml_0, ml_1, ml_2, ml_3, ml_4, ml_5, ml_6, ml_7, ml_8, ml_9, ml_10, ml_11, ml_12, ml_13, ml_14, ml_15, ml_16, ml_17, ml_18, ml_19, ml_20, ml_21, ml_22, ml_23, ml_24, ml_25, ml_26, ml_27, ml_28, ml_29, ml_30, ml_31, ml_32, ml_33, ml_34, ml_35, ml_36]; decide) | (apply MW_wIr (by decide); (repeat' (first | assumption | apply MW_wIr (by decide) | apply MW_wJr (by decide) | apply MW_wI0 rfl | apply MW_wJ0 rfl)); done) | (apply MW_wJr (by decide); (repeat' (first | assumption | apply MW_wIr (by decide) | apply MW_wJr (by decide) | apply MW_wI0 rfl | apply MW_wJ0 rfl)); done) | (apply MW_wI0 rfl; (repeat' (first | assumption | apply MW_wIr (by decide) | apply MW_wJr (by decide) | apply MW_wI0 rfl | apply MW_wJ0 rfl)); done) | (apply MW_wJ0 rfl; (repeat' (first | assumption | apply MW_wIr (by decide) | apply MW_wJr (by decide) | apply MW_wI0 rfl | apply MW_wJ0 rfl)); done)) only [T_fr, T_frJ, li_0, li_1, li_2, li_3, li_4, li_5, li_6, li_7, li_8, li_9, li_10, li_11, li_12, li_13, li_14, li_15, li_16, li_17, li_25, li_30, li_31, li_32, li_33, li_43, li_45, li_48, li_57, li_59, li_60, li_61, li_99, li_110, li_116, li_119, li_120, li_122, li_127, li_165, li_198, li_256, pk_mul, nI_add, m_chk, m_gA, mr_0, mr_1, mr_2, mr_4, mr_9, mr_10, mr_11, mr_12, mr_15, mr_16, mr_17, mr_18, mr_19, mr_20, mr_21, mr_22, mr_23, mr_24, mr_25, mr_27, mr_28, mr_29, mr_30, mr_31, mr_32, mr_33, mr_34, mr_36, mr_37, mr_38, mr_39, mr_40, mr_41, mr_42, mr_43, mr_44, m_gI, m_gJ, m_lI, m_lJ, m_tI, m_tJ, m_sI, m_sJ, T_pp, T_ifn, T_ifp, not_false_eq_true, not_true_eq_false, gi_wI_ne, gi_wJ_ne, gj_wI_ne, gj_wJ_ne, gi_wI_nk, gi_wJ_nk, gj_wI_nk, gj_wJ_nk, t1, t2]
    rw [T_ite, T_pp, T_pp]
    refine ⟨fun c => ⟨nI (cnz f (i + 1)), ?_, rfl, fin⟩, fun c => ⟨nI (cnz f (i + 1)), ?_, rfl, fin⟩⟩
    · rw [← li_0, cmp_eq] at c
      have e : cnz f (i + 1) = cnz f i + 0 := by
        show cnz f i + (if f i = 0 then 0 else 1) = _
        rw [if_pos c]
      rw [e]
    · rw [← li_0, cmp_eq] at c
      have e : cnz f (i + 1) = cnz f i + 1 := by
        show cnz f i + (if f i = 0 then 0 else 1) = _
        rw [if_neg c]
      rw [e]
  · obtain ⟨rfl, hF, h00, hI⟩ := hI
    have hM1 := hF.1
    unfold fX10_becomes_B4 fX10_becomes_b4
    have c1 : nI 16 ≤ nI 16 := by decide
    simp (disch := first | assumption | decide | omega | (simp only [ml_0, ml_1, ml_2, ml_3, ml_4, ml_5, ml_6, ml_7, ml_8, ml_9, ml_10, ml_11, ml_12, ml_13, ml_14, ml_15, ml_16, ml_17, ml_18, ml_19, ml_20, ml_21, ml_22, ml_23, ml_24, ml_25, ml_26, ml_27, ml_28, ml_29, ml_30, ml_31, ml_32, ml_33, ml_34, ml_35, ml_36]; omega) | (simp only [ml_0, ml_1, ml_2, ml_3, ml_4, ml_5, ml_6, ml_7, ml_8, ml_9, ml_10, ml_11, ml_12, ml_13, ml_14, ml_15, ml_16, ml_17, ml_18, ml_19, ml_20, ml_21, ml_22, ml_23, ml_24, ml_25, ml_26, ml_27, ml_28, ml_29, ml_30, ml_31, ml_32, ml_33, ml_34, ml_35, ml_36]; decide) | (apply MW_wIr (by decide); (repeat' (first | assumption | apply MW_wIr (by decide) | apply MW_wJr (by decide) | apply MW_wI0 rfl | apply MW_wJ0 rfl)); done) | (apply MW_wJr (by decide); (repeat' (first | assumption | apply MW_wIr (by decide) | apply MW_wJr (by decide) | apply MW_wI0 rfl | apply MW_wJ0 rfl)); done) | (apply MW_wI0 rfl; (repeat' (first | assumption | apply MW_wIr (by decide) | apply MW_wJr (by decide) | apply MW_wI0 rfl | apply MW_wJ0 rfl)); done) | (apply MW_wJ0 rfl; (repeat' (first | assumption | apply MW_wIr (by decide) | apply MW_wJr (by decide) | apply MW_wI0 rfl | apply MW_wJ0 rfl)); done)) only [T_fr, T_frJ, li_0, li_1, li_2, li_3, li_4, li_5, li_6, li_7, li_8, li_9, li_10, li_11, li_12, li_13, li_14, li_15, li_16, li_17, li_25, li_30, li_31, li_32, li_33, li_43, li_45, li_48, li_57, li_59, li_60, li_61, li_99, li_110, li_116, li_119, li_120, li_122, li_127, li_165, li_198, li_256, pk_mul, nI_add, m_chk, m_gA, mr_0, mr_1, mr_2, mr_4, mr_9, mr_10, mr_11, mr_12, mr_15, mr_16, mr_17, mr_18, mr_19, mr_20, mr_21, mr_22, mr_23, mr_24, mr_25, mr_27, mr_28, mr_29, mr_30, mr_31, mr_32, mr_33, mr_34, mr_36, mr_37, mr_38, mr_39, mr_40, mr_41, mr_42, mr_43, mr_44, m_gI, m_gJ, m_lI, m_lJ, m_tI, m_tJ, m_sI, m_sJ, T_pp, T_ifn, T_ifp, not_false_eq_true, not_true_eq_false, gi_wI_ne, gi_wJ_ne, gj_wI_ne, gj_wJ_ne, gi_wI_nk, gi_wJ_nk, gj_wI_nk, gj_wJ_nk]
    exact ⟨_, rfl, rfl, hF, h00, fun i hi => by rw [Nat.zero_add, Nat.zero_add]; exact hI i hi⟩
end S7
