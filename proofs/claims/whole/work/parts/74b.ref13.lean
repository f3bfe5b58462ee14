theorem QF_ok : allN 61 (fun k => Nat.beq k 0 || (shp (QF k) && dgt (QF k) (qf k))) = true := by decide +kernel
section S13
variable {h h' : PH}
theorem at61 {p : Nat → Bool} (q : allN 61 (fun k => Nat.beq k 0 || p k) = true) {m : Nat} (h1 : 1 ≤ m) (h2 : m ≤ 60) : p m = true := by
  have := allN_at q m (by omega)
  rw [Bool.or_eq_true] at this
  rcases this with e | e
  · have := Nat.eq_of_beq_eq_true e
    omega
  · exact e
theorem T_pureI {m : PM Int32} {n : Nat} (run : runW m [] (fun v g => eqI v n && Nat.beq g.length 0) = true) : T m h (fun v h' => h' = h ∧ v = nI n) := by
  refine T_mono (T_pure (p := fun v => eqI v n) run) fun v h' p => ⟨p.1, ofI' p.2⟩
theorem QF_ref {k0 : Nat} (h1 : 1 ≤ k0) (h2 : k0 ≤ 60) (hM : MW h) (hf : ∀ j, 1 ≤ j → j < k0 → dig h 33 j = tfW j + 1) : Ref (QF k0) h := by
  have k2 := at61 QF_ok h1 h2
  rw [Bool.and_eq_true] at k2
  refine Ref_lit k2.1 hM fun a k ha hk => ?_
  rcases dgt_at k2.2 a k ha hk with z | z
  · exact Or.inl z
  · unfold qf at z
    split at z
    · rename_i c
      subst c
      split at z
      · rename_i c
        right; rw [z, hM.2.2 k c]
      · exact Or.inl z
    · split at z
      · rename_i c; subst c
        split at z
        · rename_i c; right; rw [z, hf k c.1 c.2]
        · exact Or.inl z
      · exact Or.inl z
theorem m_frR {k0 : Nat} (h1 : 1 ≤ k0) (h2 : k0 ≤ 60) (hM : MW h) (hf : ∀ j, 1 ≤ j → j < k0 → dig h 33 j = tfW j + 1) : T (frR k0) h (fun _ h' => Fr [33] h h' ∧ ∀ j, 1 ≤ j → j < k0 + 1 → dig h' 33 j = tfW j + 1) := by
  have r0 := QF_ref h1 h2 hM hf
  refine T_mono (T_ext (T_closed r0 (at61 fr_run h1 h2))) fun _ h' p => ?_
  obtain ⟨hx, g, pg, rg', u⟩ := p
  unfold okFr at pg
  simp only [Bool.and_eq_true] at pg
  obtain ⟨p1, p2, ⟨p3, p4⟩, p5, p6⟩ := pg
  refine ⟨fr_closed hM r0 rg' hx u p3 p4 fun a k ha hp => ?_, fun j hj1 hj2 => ?_⟩
  · by_cases c0 : a = 0
    · subst c0
      by_cases c : k < 51
      · have key : ∀ k, k < 51 → k ∈ allF ∨ mref k ≠ 0 := by decide
        rcases key k c with z | z
        · exact Or.inl (dq_at.mp (allL_at p6 k z))
        · exact Or.inr (Or.inr ⟨rfl, z⟩)
      · left
        obtain ⟨x, e1, e2⟩ := (shp_at p3).2 0 (by decide)
        unfold dig
        rw [e1]
        exact e2 k (Nat.le_of_not_lt c)
    · have hp' : a ∉ [33] := by
        unfold pcd at hp
        rw [if_neg c0] at hp
        exact hp
      have key : ∀ a, a < 37 → a ≠ 0 → a ∉ [33] → a ∈ [1, 2, 3, 4, 5, 6, 7, 8, 9, 10, 11, 12, 13, 14, 15, 16, 17, 18, 19, 20, 21, 22, 23, 24, 25, 26, 27, 28, 29, 30, 31, 32, 34, 35, 36] := by decide
      rcases bulk_dig (e := QF k0) (Or.inl (allL_at p5 a (key a ha c0 hp'))) k with z | z
      · exact Or.inl z
      · exact Or.inr (Or.inl z)
  · by_cases c : j = k0
    · rw [c]
      exact dq_at.mp (dq_ref rg' (Nat.succ_ne_zero _) p1)
    · have := allN_at p2 j (by omega)
      rw [Bool.or_eq_true] at this
      rcases this with z | z
      · have := Nat.eq_of_beq_eq_true z
        omega
      · exact dq_at.mp (dq_ref rg' (Nat.succ_ne_zero _) z)
theorem m_freshOf {m : Nat} (h1 : 1 ≤ m) (h2 : m ≤ 60) (hM : MW h) : T (fX10_freshOf 0 (nI m)) h (fun v h' => Fr [33] h h' ∧ v = nI (tfW m)) := by
  unfold fX10_freshOf
  rw [m_chk hM]
  refine T_call (P := fun _ h' => Fr [33] h h' ∧ ∀ j, 1 ≤ j → j < m + 1 → dig h' 33 j = tfW j + 1) ?_ fun _ ha p => ?_
  · refine T_for (m + 1) (fun n h' => 1 ≤ n ∧ Fr [33] h h' ∧ ∀ j, 1 ≤ j → j < n → dig h' 33 j = tfW j + 1) (fun i ha hi hI => ?_) (fun ha hI => ?_) (by omega) (i0 := 1) (by omega) ⟨Nat.le_refl _, Fr.rf hM _, fun j a b => by omega⟩
    · obtain ⟨hi1, hF, hI⟩ := hI
      have c1 : ¬ nI m < nI i := nI_nlt (by omega) (by omega)
      unfold fX10_freshOf_B2 fX10_freshOf_b2
      rw [T_fr, T_ifn c1]
      have eB : fX10_freshOf_B19 0 (nI m) (nI i) = fX10_freshOf_B19 0 60 (nI i) := rfl
      rw [eB]
      have t : T (frR i) ha (fun _ h' => 1 ≤ i + 1 ∧ Fr [33] h h' ∧ ∀ j, 1 ≤ j → j < i + 1 → dig h' 33 j = tfW j + 1) := T_mono (m_frR hi1 (by omega) hF.1 hI) fun _ h' p => ⟨by omega, hF.tr p.1, p.2⟩
      unfold frR at t
      simp only [T_pb, T_pp] at t
      simp only [T_pb, T_pp, nI_1, true_and]
      exact t
    · obtain ⟨hi1, hF, hI⟩ := hI
      have c1 : nI m < nI (m + 1) := nI_lt (by omega) (by omega)
      unfold fX10_freshOf_B2 fX10_freshOf_b2
      rw [T_fr, T_ifp c1, T_pp]
      exact ⟨(), rfl, hF, hI⟩
  · obtain ⟨hF, hI⟩ := p
    have hM1 := hF.1
    have g := dig_gi (hI m h1 (by omega))
    simp (disch := first | assumption | decide | omega | (simp only [ml_0, ml_1, ml_2, ml_3, ml_4, ml_5, ml_6, ml_7, ml_8, ml_9, ml_10, ml_11, ml_12, ml_13, ml_14, ml_15, ml_16, ml_17, ml_18, ml_19, ml_20, ml_21, ml_22, ml_23, ml_24, ml_25, ml_26, ml_27, ml_28, ml_29, ml_30, ml_31, ml_32, ml_33, ml_34, ml_35, ml_36]; omega) | (simp only [ml_0, ml_1, ml_2, ml_3, ml_4, ml_5, ml_6, ml_7, ml_8, ml_9, ml_10, ml_11, ml_12, ml_13, ml_14, ml_15, ml_16, ml_17, ml_18, ml_19, ml_20, ml_21, ml_22, ml_23, ml_24, ml_25, ml_26, ml_27, ml_28, ml_29, ml_30, ml_31, ml_32, ml_33, ml_34, ml_35, ml_36]; decide) | (apply MW_wIr (by decide); (repeat' (first | assumption | apply MW_wIr (by decide) | apply MW_wJr (by decide) | apply MW_wI0 rfl | apply MW_wJ0 rfl)); done) | (apply MW_wJr (by decide); (repeat' (first | assumption | apply MW_wIr (by decide) | apply MW_wJr (by decide) | apply MW_wI0 rfl | apply MW_wJ0 rfl)); done) | (apply MW_wI0 rfl; (repeat' (first | assumption | apply MW_wIr (by decide) | apply MW_wJr (by decide) | apply MW_wI0 rfl | apply MW_wJ0 rfl)); done) | (apply MW_wJ0 rfl; (repeat' (first | assumption | apply MW_wIr (by decide) | apply MW_wJr (by decide) | apply MW_wI0 rfl | apply MW_wJ0 rfl)); done)) only [T_fr, T_frJ, li_0, li_1, li_2, li_3, li_4, li_5, li_6, li_7, li_8, li_9, li_10, li_11, li_12, li_13, li_14, li_15, li_16, li_17, li_25, li_30, li_31, li_32, li_33, li_43, li_45, li_48, li_57, li_59, li_60, li_61, li_99, li_110, li_116, li_119, li_120, li_122, li_127, li_165, li_198, li_256, pk_mul, nI_add, m_chk, m_gA, mr_0, mr_1, mr_2, mr_4, mr_9, mr_10, mr_11, mr_12, mr_15, mr_16, mr_17, mr_18, mr_19, mr_20, mr_21, mr_22, mr_23, mr_24, mr_25, mr_27, mr_28, mr_29, mr_30, mr_31, mr_32, mr_33, mr_34, mr_36, mr_37, mr_38, mr_39, mr_40, mr_41, mr_42, mr_43, mr_44, m_gI, m_gJ, m_lI, m_lJ, m_tI, m_tJ, m_sI, m_sJ, T_pp, T_ifn, T_ifp, not_false_eq_true, not_true_eq_false, gi_wI_ne, gi_wJ_ne, gj_wI_ne, gj_wJ_ne, gi_wI_nk, gi_wJ_nk, gj_wI_nk, gj_wJ_nk, g]
    exact ⟨hF, trivial⟩
noncomputable def fov (m w : Nat) : Int32 := if w = 0 then nI (tfI m) else if w = 1 then nI (tf2 m) else if w = 2 then nI (tf3 m) else if w = 3 then nI (tfE m) else if w = 4 then nI (tfF m) else nI (tfW m)
theorem m_formulaNow {m w : Nat} (h1 : 1 ≤ m) (h2 : m ≤ 60) (hw : w < 6) (hM : MW h) : T (fX10_formulaNow 0 (nI m) (nI w)) h (fun v h' => Fr [33] h h' ∧ v = fov m w) := by
  unfold fX10_formulaNow
  rw [m_chk hM]
  have r4 : nI m - nI m / 4 * 4 = nI (m % 4) := pk_rem (d := 4) (by omega) (by decide) (by decide)
  have r9 : nI m - nI m / 9 * 9 = nI (m % 9) := pk_rem (d := 9) (by omega) (by decide) (by decide)
  rcases (show w = 0 ∨ w = 1 ∨ w = 2 ∨ w = 3 ∨ w = 4 ∨ w = 5 by omega) with rfl | rfl | rfl | rfl | rfl | rfl
  · rw [T_ifp (by decide)]
    refine T_call (T_pureI (at61 run_fI h1 h2)) fun v ha p => ?_
    obtain ⟨rfl, rfl⟩ := p
    rw [T_pp]
    exact ⟨Fr.rf hM _, rfl⟩
  · rw [T_ifn (by decide), T_ifp (by decide), r4]
    have t := T_pureI (h := h) (at61 run_f2 h1 h2)
    by_cases c : m % 4 = 0
    · rw [if_pos c, T_pp] at t
      rw [T_ifp (by rw [c]; rfl), T_pp]
      exact ⟨Fr.rf hM _, t.2⟩
    · rw [if_neg c] at t
      rw [T_ifn (nI_ne0 (by omega) (by omega))]
      refine T_call t fun v ha p => ?_
      obtain ⟨rfl, rfl⟩ := p
      rw [T_pp]
      exact ⟨Fr.rf hM _, rfl⟩
  · rw [T_ifn (by decide), T_ifn (by decide), T_ifp (by decide), r9]
    have t := T_pureI (h := h) (at61 run_f3 h1 h2)
    by_cases c : m % 9 = 0
    · rw [if_pos c, T_pp] at t
      rw [T_ifp (by rw [c]; rfl), T_pp]
      exact ⟨Fr.rf hM _, t.2⟩
    · rw [if_neg c] at t
      rw [T_ifn (nI_ne0 (by omega) (by omega))]
      refine T_call t fun v ha p => ?_
      obtain ⟨rfl, rfl⟩ := p
      rw [T_pp]
      exact ⟨Fr.rf hM _, rfl⟩
  · rw [T_ifn (by decide), T_ifn (by decide), T_ifn (by decide), T_ifp (by decide)]
    refine T_call (T_pureI (at61 run_fE h1 h2)) fun v ha p => ?_
    obtain ⟨rfl, rfl⟩ := p
    rw [T_pp]
    exact ⟨Fr.rf hM _, rfl⟩
  · rw [T_ifn (by decide), T_ifn (by decide), T_ifn (by decide), T_ifn (by decide), T_ifp (by decide)]
    refine T_call (T_pureI (at61 run_fF h1 h2)) fun v ha p => ?_
    obtain ⟨rfl, rfl⟩ := p
    rw [T_pp]
    exact ⟨Fr.rf hM _, rfl⟩
  · rw [T_ifn (by decide), T_ifn (by decide), T_ifn (by decide), T_ifn (by decide), T_ifn (by decide)]
    refine T_call (m_freshOf h1 h2 hM) fun v ha p => ?_
    rw [T_pp]
    exact p
noncomputable def q_formula (m w : Int32) (st : St) : Int32 × St := if rg m 1 60 ∧ rg w 0 5 then (fov (ti m) (ti w), st) else (-2, rf2 st)
theorem M_formula {st : St} (m w : Int32) (q : MR h st) : T (fX10_formula 0 m w) h (fun v h' => v = (q_formula m w st).1 ∧ MR h' (q_formula m w st).2) := by
  unfold fX10_formula
  rw [m_chk q.1]
  refine T_call (m_inR (a := 1) (b := 60) (by decide) (by decide)) fun v h1 p => ?_
  obtain ⟨rfl, rfl⟩ := p
  unfold q_formula
  by_cases c : rg m 1 60
  · rw [if_pos c, T_ifn (by decide)]
    refine T_call (m_inR (a := 0) (b := 5) (by decide) (by decide)) fun v h2 p => ?_
    obtain ⟨rfl, rfl⟩ := p
    by_cases c2 : rg w 0 5
    · have cc := And.intro c c2
      rw [if_pos c2, T_ifn (by decide), if_pos cc]
      obtain ⟨m, rfl, e, e1, e2⟩ := rg_nat c (by decide) (by decide)
      obtain ⟨w, rfl, g, g1, g2⟩ := rg_nat c2 (by decide) (by decide)
      refine T_call (m_formulaNow (m := m) (w := w) (by omega) (by omega) (by omega) q.1) fun v h3 p => ?_
      rw [T_pp, e, g]
      exact ⟨p.2, q.fr p.1 (by decide)⟩
    · rw [if_neg c2, T_ifp rfl, if_neg (fun z => c2 z.2)]
      refine T_call (M_ref2 q) fun v h2 p => ?_
      rw [T_pp]
      exact p
  · rw [if_neg c, T_ifp rfl, if_neg (fun z => c z.1)]
    refine T_call (M_ref2 q) fun v h2 p => ?_
    rw [T_pp]
    exact p
end S13
