section S9
variable {h h' : PH} {N : Nat}
theorem QM_ref (h1 : 1 ≤ N) (h2 : N ≤ 25) (hM : MW h) (h11 : dig h 11 0 = N + 1) (ok : okL N h = true) : Ref (QM N) h := by
  have := allN_at QM_ok N (by omega)
  rw [Bool.or_eq_true, Bool.and_eq_true] at this
  rcases this with z | ⟨z1, z2⟩
  · have := Nat.eq_of_beq_eq_true z
    omega
  · refine Ref_lit z1 hM fun a k ha hk => ?_
    rcases dgt_at z2 a k ha hk with z | z
    · exact Or.inl z
    · obtain ⟨o1, o2, o3, o4, o5, o6, o7, o8⟩ := okL_at ok
      unfold qd at z
      split at z
      · rename_i c
        subst c
        split at z
        · rename_i c
          right; rw [z, hM.2.2 k c]
        · split at z
          · rename_i c; subst c; right; rw [z, o1]
          · split at z
            · rename_i c; subst c; right; rw [z, o2]
            · split at z
              · rename_i c; subst c; right; rw [z, o3]
              · split at z
                · rename_i c; subst c; right; rw [z, o4]
                · exact Or.inl z
      · split at z
        · rename_i c; subst c
          split at z
          · rename_i c
            right
            have := o5 _ _ c.1 c.2
            rw [show 25 * (k / 25) + k % 25 = k by omega] at this
            rw [z, this]
          · exact Or.inl z
        · split at z
          · rename_i c; subst c
            split at z
            · rename_i c; right; rw [z, (o6 k c).1]
            · exact Or.inl z
          · split at z
            · rename_i c; subst c
              split at z
              · rename_i c; right; rw [z, (o6 k c).2.1]
              · exact Or.inl z
            · split at z
              · rename_i c; subst c
                split at z
                · rename_i c; right; rw [z, (o6 k c).2.2.1]
                · exact Or.inl z
              · split at z
                · rename_i c; subst c
                  split at z
                  · rename_i c; right; rw [z, o7 k c]
                  · exact Or.inl z
                · split at z
                  · rename_i c; subst c
                    split at z
                    · rename_i c; subst c; right; rw [z, h11]
                    · exact Or.inl z
                  · split at z
                    · rename_i c; subst c
                      split at z
                      · rename_i c; right; rw [z, (o6 k c).2.2.2]
                      · exact Or.inl z
                    · split at z
                      · rename_i c; subst c
                        split at z
                        · rename_i c
                          right
                          have := o8 _ _ c.1 c.2
                          rw [show 16 * (k / 16) + k % 16 = k by omega] at this
                          rw [z, this.1]
                        · exact Or.inl z
                      · split at z
                        · rename_i c; subst c
                          split at z
                          · rename_i c
                            right
                            have := o8 _ _ c.1 c.2
                            rw [show 16 * (k / 16) + k % 16 = k by omega] at this
                            rw [z, this.2]
                          · exact Or.inl z
                        · exact Or.inl z
theorem kp_fr {S rs fs : List Nat} {e g : PH} (hM : MW h) (r0 : Ref e h) (rg : Ref g h') (hx : Ext h h') (u : ∀ a k, a < h.length → dig g a k = 0 → dig h' a k = dig h a k) (hk : kp e g rs fs = true) (hrs : ∀ a, a < 37 → a ≠ 0 → a ∉ S → a ∈ rs) (hfs : ∀ k, k < 51 → 100 + k ∉ S → k ∈ fs ∨ mref k ≠ 0) : Fr S h h' := by
  unfold kp at hk
  simp only [Bool.and_eq_true] at hk
  obtain ⟨⟨k1, k2⟩, k3, k4⟩ := hk
  refine fr_closed hM r0 rg hx u k1 k2 fun a k ha hp => ?_
  by_cases c0 : a = 0
  · subst c0
    by_cases c : k < 51
    · rcases hfs k c hp with z | z
      · have := allL_at k4 k z
        unfold kpF at this
        rw [Bool.or_eq_true] at this
        rcases this with y | y
        · exact Or.inl (Nat.eq_of_beq_eq_true y)
        · exact Or.inr (Or.inl (Nat.eq_of_beq_eq_true y))
      · exact Or.inr (Or.inr ⟨rfl, z⟩)
    · left
      obtain ⟨x, e1, e2⟩ := (shp_at k1).2 0 (by decide)
      unfold dig
      rw [e1]
      exact e2 k (Nat.le_of_not_lt c)
  · have hp' : a ∉ S := by
      unfold pcd at hp
      rw [if_neg c0] at hp
      exact hp
    have := allL_at k3 a (hrs a ha c0 hp')
    unfold kpR at this
    rw [Bool.or_eq_true] at this
    rcases bulk_dig this k with y | y
    · exact Or.inl y
    · exact Or.inr (Or.inl y)
theorem T_closedW {α : Type} {m : PM α} {h0 : PH} {p : α → PH → Bool} (r : Ref h0 h) (run : runW m h0 p = true) : T m h (fun v h' => ∃ g, p v g = true ∧ Ref g h' ∧ ∀ a k, a < h.length → dig g a k = 0 → dig h' a k = dig h a k) := by
  obtain ⟨v, g, e, pg⟩ := runW_at run
  obtain ⟨h', e1, r1, u1⟩ := m.2.2.1 h0 h v g r e
  exact ⟨v, h', e1, g, pg, r1, u1⟩
/-- a run that needs no heap -/
theorem T_pure {α : Type} {m : PM α} {p : α → Bool} (run : runW m [] (fun v g => p v && Nat.beq g.length 0) = true) : T m h (fun v h' => h' = h ∧ p v = true) := by
  obtain ⟨v, g, e, pg⟩ := runW_at run
  rw [Bool.and_eq_true] at pg
  have hl : g.length = 0 := Nat.eq_of_beq_eq_true pg.2
  have hg : g = [] := List.length_eq_zero_iff.mp hl
  subst hg
  have := m.2.2.2 [] v [] h e rfl
  exact ⟨v, h, this, rfl, pg.1⟩
theorem div_run : allN 8 (fun n => allN 26 fun N => runW (fX10_divisor (nI n).toInt64 (nI N).toInt64) [] (fun v g => Nat.beq v.toBitVec.toNat (Nat.gcd n N) && Nat.beq g.length 0)) = true := by decide +kernel
theorem ofJ' {v : Int64} {n : Nat} (e : Nat.beq v.toBitVec.toNat n = true) : v = lN n := by
  rw [← Nat.eq_of_beq_eq_true e]
  exact (ofJ v).symm
theorem m_gcd {n : Nat} (hn : n ≤ 7) (hN : N ≤ 25) : T (fX10_divisor (nI n).toInt64 (nI N).toInt64) h (fun v h' => h' = h ∧ v = lN (Nat.gcd n N)) := by
  refine T_mono (T_pure (p := fun v => Nat.beq v.toBitVec.toNat (Nat.gcd n N)) (allN_at (allN_at div_run n (by omega)) N (by omega))) fun v h' p => ⟨p.1, ofJ' p.2⟩
/-- may operator n act: 0, or why not -/
noncomputable def co (n : Int32) (N : Nat) : Int32 := if rg n 1 7 then (if Nat.gcd (ti n) N = 1 then 0 else -3) else -2
theorem co_cases (n : Int32) (N : Nat) : (co n N = 0 ∧ rg n 1 7 ∧ Nat.gcd (ti n) N = 1) ∨ (co n N = -3 ∧ rg n 1 7 ∧ Nat.gcd (ti n) N ≠ 1) ∨ (co n N = -2 ∧ ¬ rg n 1 7) := by
  unfold co
  by_cases c : rg n 1 7
  · rw [if_pos c]
    by_cases c2 : Nat.gcd (ti n) N = 1
    · rw [if_pos c2]; exact Or.inl ⟨rfl, c, c2⟩
    · rw [if_neg c2]; exact Or.inr (Or.inl ⟨rfl, c, c2⟩)
  · rw [if_neg c]; exact Or.inr (Or.inr ⟨rfl, c⟩)
theorem m_canOperate (hM : MW h) (h1 : 1 ≤ N) (h2 : N ≤ 25) (h11 : dig h 11 0 = N + 1) (n : Int32) : T (fX10_canOperate 0 n) h (fun v h' => h' = h ∧ v = co n N) := by
  unfold fX10_canOperate
  rw [m_chk hM]
  refine T_call (m_inR (a := 1) (b := 7) (by decide) (by decide)) fun r h1' p => ?_
  obtain ⟨rfl, rfl⟩ := p
  unfold co
  by_cases c : rg n 1 7
  · rw [if_pos c, T_ifn (by decide), if_pos c]
    obtain ⟨n, rfl, e, e1, e2⟩ := rg_nat c (by decide) (by decide)
    refine T_call (m_levelHere hM h11) fun v h3 p => ?_
    obtain ⟨rfl, rfl⟩ := p
    refine T_call (m_gcd (by omega) h2) fun v h4 p => ?_
    obtain ⟨rfl, rfl⟩ := p
    rw [e, T_ite, T_pp, T_pp, lg_cmp_le]
    have hg := Nat.gcd_le_left N (show 0 < n by omega)
    have hg0 := Nat.gcd_pos_of_pos_left N (show 0 < n by omega)
    have el : lN (Nat.gcd n N) ≤ 1 ↔ Nat.gcd n N ≤ 1 := lN_le (b := 1) (by omega) (by decide)
    rw [el]
    refine ⟨fun z => ⟨rfl, ?_⟩, fun z => ⟨rfl, ?_⟩⟩
    · rw [if_pos (by omega)]
    · rw [if_neg (by omega)]
  · rw [if_neg c, T_ifp rfl, if_neg c, T_pp]
    exact ⟨rfl, rfl⟩
theorem cop_of {n : Int32} (h1 : 1 ≤ N) (h2 : N ≤ 25) (c : rg n 1 7) (hg : Nat.gcd (ti n) N = 1) : cop N (ti n) := by
  obtain ⟨-, e1, e2⟩ := rg_nI c (by decide)
  exact ⟨h1, h2, by omega, by omega, hg⟩
noncomputable def mJ (N n i j : Nat) : Int64 := Int64.ofNat (dgJ 64 (tM N n i j) - 1)
def OpAt (h : PH) (N n : Nat) : Prop := ∀ i j, i < dim N → j < dim N → dig h 26 (16 * i + j) = dgJ 64 (tM N n i j) ∧ dig h 27 (16 * i + j) = 2
def SO : List Nat := [24, 25, 26, 27, 105, 106]
theorem m_opsR (hM : MW h) {n : Nat} (hc : cop N n) (h11 : dig h 11 0 = N + 1) (ok : okL N h = true) : T (opsR (nI n)) h (fun _ h' => Fr SO h h' ∧ OpAt h' N n) := by
  have r0 := QM_ref hc.1 hc.2.1 hM h11 ok
  refine T_mono (T_ext (T_closed r0 (ops_run hc))) fun _ h' p => ?_
  obtain ⟨hx, g, pg, rg', u⟩ := p
  unfold okO at pg
  rw [Bool.and_eq_true] at pg
  refine ⟨kp_fr hM r0 rg' hx u pg.2 (by decide) (by decide), fun i j hi hj => ?_⟩
  have := allN_at (allN_at pg.1 i hi) j hj
  rw [Bool.and_eq_true] at this
  exact ⟨dq_at.mp (dq_ref rg' (dgJ_0 _ _) this.1), dq_at.mp (dq_ref rg' (by decide) this.2)⟩
theorem M_laysOperator {st : St} {n : Nat} (q : MR h st) (hc : cop st.1.1 n) : T (fX10_laysOperator 0 (nI n)) h (fun _ h' => MR h' st ∧ okL st.1.1 h' = true ∧ OpAt h' st.1.1 n ∧ Fr SK h h') := by
  unfold fX10_laysOperator
  rw [m_chk q.1]
  refine T_call (M_lays q) fun _ h1 p => ?_
  obtain ⟨q1, ok, f⟩ := p
  refine T_mono (m_opsR q1.1 hc q1.2.2.1.1 ok) fun _ h2 p => ?_
  exact ⟨q1.fr p.1 (by decide), by rw [okL_fr p.1 (by decide)]; exact ok, p.2, (f.sub (by decide)).seq p.1 (by decide)⟩
theorem dig_mJ {a k n i j : Nat} (e : dig h a k = dgJ 64 (tM N n i j)) : gj h a k = mJ N n i j := by unfold gj mJ; rw [e]
/-! table -/
noncomputable def q_table (n i j w : Int32) (st : St) : Int64 × St := if rg n 1 7 ∧ rg i 0 ((dim st.1.1 : Int) - 1) ∧ rg j 0 ((dim st.1.1 : Int) - 1) ∧ rg w 0 1 then (if Nat.gcd (ti n) st.1.1 = 1 then (if ti w = 0 then mJ st.1.1 (ti n) (ti i) (ti j) else 1, st) else (-3, rf3 st)) else (-2, rf2 st)
theorem M_table {st : St} (n i j w : Int32) (q : MR h st) : T (fX10_table 0 n i j w) h (fun v h' => v = (q_table n i j w st).1 ∧ MR h' (q_table n i j w st).2) := by
  unfold fX10_table
  have ws := q.2.1
  have tn := tb_n ws.1 ws.2.1
  rw [m_chk q.1]
  refine T_call (m_canOperate q.1 ws.1 ws.2.1 q.2.2.1.1 n) fun v h1 p => ?_
  obtain ⟨rfl, rfl⟩ := p
  refine T_call (M_lays q) fun _ h2 p => ?_
  obtain ⟨q1, ok, f⟩ := p
  have hM1 := q1.1
  unfold q_table
  by_cases c0 : rg n 1 7
  · have cn2 : ¬ co n st.1.1 = -2 := by
      rcases co_cases n st.1.1 with z | z | z
      · rw [z.1]; decide
      · rw [z.1]; decide
      · exact absurd c0 z.2
    rw [T_ifn cn2, m_gI hM1 (by decide), dig_gi (okL_at ok).2.2.2.1]
    refine T_call (m_inR (a := 0) (b := (dim st.1.1 : Int) - 1) (by decide) (sub1_toInt (by omega))) fun v h3 p => ?_
    obtain ⟨rfl, rfl⟩ := p
    by_cases c1 : rg i 0 ((dim st.1.1 : Int) - 1)
    · rw [if_pos c1, T_ifn (by decide), m_gI hM1 (by decide), dig_gi (okL_at ok).2.2.2.1]
      refine T_call (m_inR (a := 0) (b := (dim st.1.1 : Int) - 1) (by decide) (sub1_toInt (by omega))) fun v h4 p => ?_
      obtain ⟨rfl, rfl⟩ := p
      by_cases c2 : rg j 0 ((dim st.1.1 : Int) - 1)
      · rw [if_pos c2, T_ifn (by decide)]
        refine T_call (m_inR (a := 0) (b := 1) (by decide) (by decide)) fun v h5 p => ?_
        obtain ⟨rfl, rfl⟩ := p
        by_cases c3 : rg w 0 1
        · have cc := And.intro c0 (And.intro c1 (And.intro c2 c3))
          rw [if_pos c3, T_ifn (by decide), if_pos cc]
          rcases co_cases n st.1.1 with ⟨z1, z2, z3⟩ | ⟨z1, z2, z3⟩ | ⟨z1, z2⟩
          · rw [z1, T_ifn (by decide), if_pos z3]
            have hcop := cop_of ws.1 ws.2.1 c0 z3
            obtain ⟨n, rfl, en, en1, en2⟩ := rg_nat c0 (by decide) (by decide)
            obtain ⟨i, rfl, ei, ei1, ei2⟩ := rg_nat c1 (by decide) (by omega)
            obtain ⟨j, rfl, ej, ej1, ej2⟩ := rg_nat c2 (by decide) (by omega)
            obtain ⟨w, rfl, ew, ew1, ew2⟩ := rg_nat c3 (by decide) (by decide)
            rw [en] at hcop
            refine T_call (M_laysOperator q1 hcop) fun _ h6 p => ?_
            obtain ⟨q6, ok6, o6, -⟩ := p
            have hM6 := q6.1
            have o := o6 i j (by omega) (by omega)
            have g1 := dig_mJ o.1
            have g2 := dig_gl (n := 1) o.2
            rw [en, ei, ej, ew]
            by_cases c4 : w = 0
            · have cw : nI w = 0 := by rw [c4]; rfl
              rw [if_pos c4, T_ifp cw]
              simp (disch := first | assumption | decide | omega | (simp only [ml_0, ml_1, ml_2, ml_3, ml_4, ml_5, ml_6, ml_7, ml_8, ml_9, ml_10, ml_11, ml_12, ml_13, ml_14, ml_15, ml_16, ml_17, ml_18, ml_19, ml_20, ml_21, ml_22, ml_23, ml_24, ml_25, ml_26, ml_27, ml_28, ml_29, ml_30, ml_31, ml_32, ml_33, ml_34, ml_35, ml_36]; omega) | (simp only [ml_0, ml_1, ml_2, ml_3, ml_4, ml_5, ml_6, ml_7, ml_8, ml_9, ml_10, ml_11, ml_12, ml_13, ml_14, ml_15, ml_16, ml_17, ml_18, ml_19, ml_20, ml_21, ml_22, ml_23, ml_24, ml_25, ml_26, ml_27, ml_28, ml_29, ml_30, ml_31, ml_32, ml_33, ml_34, ml_35, ml_36]; decide) | (apply MW_wIr (by decide); (repeat' (first | assumption | apply MW_wIr (by decide) | apply MW_wJr (by decide) | apply MW_wI0 rfl | apply MW_wJ0 rfl)); done) | (apply MW_wJr (by decide); (repeat' (first | assumption | apply MW_wIr (by decide) | apply MW_wJr (by decide) | apply MW_wI0 rfl | apply MW_wJ0 rfl)); done) | (apply MW_wI0 rfl; (repeat' (first | assumption | apply MW_wIr (by decide) | apply MW_wJr (by decide) | apply MW_wI0 rfl | apply MW_wJ0 rfl)); done) | (apply MW_wJ0 rfl; (repeat' (first | assumption | apply MW_wIr (by decide) | apply MW_wJr (by decide) | apply MW_wI0 rfl | apply MW_wJ0 rfl)); done)) only [T_fr, T_frJ, li_0, li_1, li_2, li_3, li_4, li_5, li_6, li_7, li_8, li_9, li_10, li_11, li_12, li_13, li_14, li_15, li_16, li_17, li_25, li_30, li_31, li_32, li_33, li_43, li_45, li_48, li_57, li_59, li_60, li_61, li_99, li_110, li_116, li_119, li_120, li_122, li_127, li_165, li_198, li_256, pk_mul, nI_add, m_chk, m_gA, mr_0, mr_1, mr_2, mr_4, mr_9, mr_10, mr_11, mr_12, mr_15, mr_16, mr_17, mr_18, mr_19, mr_20, mr_21, mr_22, mr_23, mr_24, mr_25, mr_27, mr_28, mr_29, mr_30, mr_31, mr_32, mr_33, mr_34, mr_36, mr_37, mr_38, mr_39, mr_40, mr_41, mr_42, mr_43, mr_44, m_gI, m_gJ, m_lI, m_lJ, m_tI, m_tJ, m_sI, m_sJ, T_pp, T_ifn, T_ifp, not_false_eq_true, not_true_eq_false, gi_wI_ne, gi_wJ_ne, gj_wI_ne, gj_wJ_ne, gi_wI_nk, gi_wJ_nk, gj_wI_nk, gj_wJ_nk, g1]
              exact ⟨trivial, q6⟩
            · have cw : ¬ nI w = 0 := nI_ne0 (by omega) (by omega)
              rw [if_neg c4, T_ifn cw]
              simp (disch := first | assumption | decide | omega | (simp only [ml_0, ml_1, ml_2, ml_3, ml_4, ml_5, ml_6, ml_7, ml_8, ml_9, ml_10, ml_11, ml_12, ml_13, ml_14, ml_15, ml_16, ml_17, ml_18, ml_19, ml_20, ml_21, ml_22, ml_23, ml_24, ml_25, ml_26, ml_27, ml_28, ml_29, ml_30, ml_31, ml_32, ml_33, ml_34, ml_35, ml_36]; omega) | (simp only [ml_0, ml_1, ml_2, ml_3, ml_4, ml_5, ml_6, ml_7, ml_8, ml_9, ml_10, ml_11, ml_12, ml_13, ml_14, ml_15, ml_16, ml_17, ml_18, ml_19, ml_20, ml_21, ml_22, ml_23, ml_24, ml_25, ml_26, ml_27, ml_28, ml_29, ml_30, ml_31, ml_32, ml_33, ml_34, ml_35, ml_36]; decide) | (apply MW_wIr (by decide); (repeat' (first | assumption | apply MW_wIr (by decide) | apply MW_wJr (by decide) | apply MW_wI0 rfl | apply MW_wJ0 rfl)); done) | (apply MW_wJr (by decide); (repeat' (first | assumption | apply MW_wIr (by decide) | apply MW_wJr (by decide) | apply MW_wI0 rfl | apply MW_wJ0 rfl)); done) | (apply MW_wI0 rfl; (repeat' (first | assumption | apply MW_wIr (by decide) | apply MW_wJr (by decide) | apply MW_wI0 rfl | apply MW_wJ0 rfl)); done) | (apply MW_wJ0 rfl; (repeat' (first | assumption | apply MW_wIr (by decide) | apply MW_wJr (by decide) | apply MW_wI0 rfl | apply MW_wJ0 rfl)); done)) only [T_fr, T_frJ, li_0, li_1, li_2, li_3, li_4, li_5, li_6, li_7, li_8, li_9, li_10, li_11, li_12, li_13, li_14, li_15, li_16, li_17, li_25, li_30, li_31, li_32, li_33, li_43, li_45, li_48, li_57, li_59, li_60, li_61, li_99, li_110, li_116, li_119, li_120, li_122, li_127, li_165, li_198, li_256, pk_mul, nI_add, m_chk, m_gA, mr_0, mr_1, mr_2, mr_4, mr_9, mr_10, mr_11, mr_12, mr_15, mr_16, mr_17, mr_18, mr_19, mr_20, mr_21, mr_22, mr_23, mr_24, mr_25, mr_27, mr_28, mr_29, mr_30, mr_31, mr_32, mr_33, mr_34, mr_36, mr_37, mr_38, mr_39, mr_40, mr_41, mr_42, mr_43, mr_44, m_gI, m_gJ, m_lI, m_lJ, m_tI, m_tJ, m_sI, m_sJ, T_pp, T_ifn, T_ifp, not_false_eq_true, not_true_eq_false, gi_wI_ne, gi_wJ_ne, gj_wI_ne, gj_wJ_ne, gi_wI_nk, gi_wJ_nk, gj_wI_nk, gj_wJ_nk, g2]
              exact ⟨rfl, q6⟩
          · rw [z1, T_ifp rfl, if_neg z3]
            refine T_call (M_ref3 q1) fun v h6 p => ?_
            rw [T_pp]
            exact ⟨by rw [p.1]; rfl, p.2⟩
          · exact absurd c0 z2
        · rw [if_neg c3, T_ifp rfl, if_neg (fun z => c3 z.2.2.2)]
          refine T_call (M_ref2 q1) fun v h6 p => ?_
          rw [T_pp]
          exact ⟨by rw [p.1]; rfl, p.2⟩
      · rw [if_neg c2, T_ifp rfl, if_neg (fun z => c2 z.2.2.1)]
        refine T_call (M_ref2 q1) fun v h6 p => ?_
        rw [T_pp]
        exact ⟨by rw [p.1]; rfl, p.2⟩
    · rw [if_neg c1, T_ifp rfl, if_neg (fun z => c1 z.2.1)]
      refine T_call (M_ref2 q1) fun v h6 p => ?_
      rw [T_pp]
      exact ⟨by rw [p.1]; rfl, p.2⟩
  · have cn2 : co n st.1.1 = -2 := by
      rcases co_cases n st.1.1 with z | z | z
      · exact absurd z.2.1 c0
      · exact absurd z.2.1 c0
      · exact z.1
    rw [T_ifp cn2, if_neg (fun z => c0 z.1)]
    refine T_call (M_ref2 q1) fun v h6 p => ?_
    rw [T_pp]
    exact ⟨by rw [p.1]; rfl, p.2⟩
/-! applies -/
noncomputable def ap (N n : Nat) (f : Nat → Int64) (i : Nat) : Nat → Int64
  | 0 => 0
  | m + 1 => ap N n f i m + mJ N n i m * f m
noncomputable def apS (N n : Nat) (f : Nat → Int64) : Nat → Int64 := fun i => if i < dim N then ap N n f i (dim N) else f i
noncomputable def o_apply (n : Int32) (g : Sg) : Int32 × (Nat → Int64) := if co n g.1 = 0 then (if okB g.1 (apS g.1 (ti n) g.2) = true then 0 else -3, apS g.1 (ti n) g.2) else (co n g.1, g.2)
theorem oOK_apply (n : Int32) (g : Sg) : oOK (o_apply n g) g := by
  unfold o_apply
  split
  · refine ⟨?_, fun hz i hi => ?_⟩
    · dsimp only
      split
      · exact Or.inl rfl
      · exact Or.inr (Or.inr rfl)
    · show apS g.1 (ti n) g.2 i = 0
      unfold apS
      rw [if_neg (by omega)]
      exact hz i hi
  · rename_i c
    refine ⟨?_, fun hz => hz⟩
    rcases co_cases n g.1 with z | z | z
    · exact Or.inl z.1
    · exact Or.inr (Or.inr z.1)
    · exact Or.inr (Or.inl z.1)
theorem m_applyRow (hM : MW h) (h1 : 1 ≤ N) (h2 : N ≤ 25) (ok : okL N h = true) {n i : Nat} (ho : OpAt h N n) {f : Nat → Int64} (hs : SgAt h 11 0 (N, f)) (hi : i < dim N) : T (plo (fX10_canApply_B40 0 (nI i)) fu (0, 1, nI 0)) h (fun z h' => Fr [105, 106] h h' ∧ z = (ap N n f i (dim N), 1)) := by
  have tn := tb_n h1 h2
  have g14 := dig_gi (okL_at ok).2.2.2.1
  refine T_loop (fun m x ha => ∃ j, x = (ap N n f i j, 1, nI j) ∧ j ≤ dim N ∧ m = dim N - j ∧ Fr [105, 106] h ha) (fun m x ha I => ?_) fu (dim N) _ h (by unfold fu; omega) ⟨0, rfl, by omega, by omega, Fr.rf hM _⟩
  obtain ⟨j, rfl, hj, rfl, hF⟩ := I
  have hM1 := hF.1
  have g14' : gi ha 0 14 = nI (dim N) := by rw [fr_gi0 hF (by decide)]; exact g14
  unfold fX10_canApply_B40 fX10_canApply_b40
  rw [T_frJ, T_frJ, T_fr]
  dsimp only
  rw [m_gI hM1 (by decide), g14']
  by_cases c : j = dim N
  · rw [T_ifp (by rw [c]; exact nI_le (Nat.le_refl _) (by omega)), T_pp]
    exact Or.inr ⟨_, rfl, hF, by rw [c]⟩
  · have c1 : ¬ nI (dim N) ≤ nI j := nI_ge (by omega) (by omega)
    rw [T_ifn c1]
    have o := ho i j hi (by omega)
    have g1 : gj ha 26 (16 * i + j) = mJ N n i j := by rw [fr_gjr hF (by decide) (by decide)]; exact dig_mJ o.1
    have g2 : gj ha 27 (16 * i + j) = 1 := by rw [fr_gjr hF (by decide) (by decide)]; exact dig_gl (n := 1) o.2
    have s1 := (hs.2 j (by omega))
    rw [Nat.zero_add, Nat.zero_add, ← fr_gjr hF (by decide) (by decide), ← fr_gjr hF (by decide) (by decide)] at s1
    obtain ⟨s1, s2⟩ := s1
    simp (disch := first | assumption | decide | omega | (simp only [ml_0, ml_1, ml_2, ml_3, ml_4, ml_5, ml_6, ml_7, ml_8, ml_9, ml_10, ml_11, ml_12, ml_13, ml_14, ml_15, ml_16, ml_17, ml_18, ml_19, ml_20, ml_21, ml_22, ml_23, ml_24, ml_25, ml_26, ml_27, ml_28, ml_29, ml_30, ml_31, ml_32, ml_33, ml_34, ml_35, ml_36]; omega) | (simp only [ml_0, ml_1, ml_2, ml_3, ml_4, ml_5, ml_6, ml_7, ml_8, ml_9, ml_10, ml_11, ml_12, ml_13, ml_14, ml_15, ml_16, ml_17, ml_18, ml_19, ml_20, ml_21, ml_22, ml_23, ml_24, ml_25, ml_26, ml_27, ml_28, ml_29, ml_30, ml_31, ml_32, ml_33, ml_34, ml_35, ml_36]; decide) | (apply MW_wIr (by decide); (repeat' (first | assumption | apply MW_wIr (by decide) | apply MW_wJr (by decide) | apply MW_wI0 rfl | apply MW_wJ0 rfl)); done) | (apply MW_wJr (by decide); (repeat' (first | assumption | apply MW_wIr (by decide) | apply MW_wJr (by decide) | apply MW_wI0 rfl | apply MW_wJ0 rfl)); done) | (apply MW_wI0 rfl; (repeat' (first | assumption | apply MW_wIr (by decide) | apply MW_wJr (by decide) | apply MW_wI0 rfl | apply MW_wJ0 rfl)); done) | (apply MW_wJ0 rfl; (repeat' (first | assumption | apply MW_wIr (by decide) | apply MW_wJr (by decide) | apply MW_wI0 rfl | apply MW_wJ0 rfl)); done)) only [T_fr, T_frJ, li_0, li_1, li_2, li_3, li_4, li_5, li_6, li_7, li_8, li_9, li_10, li_11, li_12, li_13, li_14, li_15, li_16, li_17, li_25, li_30, li_31, li_32, li_33, li_43, li_45, li_48, li_57, li_59, li_60, li_61, li_99, li_110, li_116, li_119, li_120, li_122, li_127, li_165, li_198, li_256, pk_mul, nI_add, m_chk, m_gA, mr_0, mr_1, mr_2, mr_4, mr_9, mr_10, mr_11, mr_12, mr_15, mr_16, mr_17, mr_18, mr_19, mr_20, mr_21, mr_22, mr_23, mr_24, mr_25, mr_27, mr_28, mr_29, mr_30, mr_31, mr_32, mr_33, mr_34, mr_36, mr_37, mr_38, mr_39, mr_40, mr_41, mr_42, mr_43, mr_44, m_gI, m_gJ, m_lI, m_lJ, m_tI, m_tJ, m_sI, m_sJ, T_pp, T_ifn, T_ifp, not_false_eq_true, not_true_eq_false, gi_wI_ne, gi_wJ_ne, gj_wI_ne, gj_wJ_ne, gi_wI_nk, gi_wJ_nk, gj_wI_nk, gj_wJ_nk, g1, g2, s1, s2]
    refine T_call (m_more1 hM1 _ _ _) fun _ hb p => ?_
    obtain ⟨r, p5, p6⟩ := p
    rw [m_gJ r.1 (by decide), m_gJ r.1 (by decide), p5, p6, T_pp]
    exact Or.inl ⟨_, dim N - (j + 1), rfl, by omega, j + 1, rfl, by omega, rfl, hF.tr r⟩
theorem m_applyLoop (hM : MW h) (h1 : 1 ≤ N) (h2 : N ≤ 25) (ok : okL N h = true) {n : Nat} (ho : OpAt h N n) {f : Nat → Int64} (hs : SgAt h 11 0 (N, f)) (ht : ThAt h f) : T (plo (fX10_canApply_B23 0) fu (nI 0)) h (fun _ h' => Fr [34, 35, 105, 106] h h' ∧ ThAt h' (apS N n f)) := by
  have tn := tb_n h1 h2
  have g14 := dig_gi (okL_at ok).2.2.2.1
  refine T_for (dim N) (fun m h' => Fr [34, 35, 105, 106] h h' ∧ ∀ i, i < 16 → gj h' 34 i = (if i < m then ap N n f i (dim N) else f i) ∧ gj h' 35 i = 1) (fun i ha hi hI => ?_) (fun ha hI => ?_) (by omega) (i0 := 0) (by omega) ⟨Fr.rf hM _, fun i hi => by rw [if_neg (by omega)]; exact ht i hi⟩
  · obtain ⟨hF, hI⟩ := hI
    have hM1 := hF.1
    have g14' : gi ha 0 14 = nI (dim N) := by rw [fr_gi0 hF (by decide)]; exact g14
    have c1 : ¬ nI (dim N) ≤ nI i := nI_ge hi (by omega)
    have ok' : okL N ha = true := by rw [okL_fr hF (by decide)]; exact ok
    have ho' : OpAt ha N n := fun a b ha' hb' => by rw [fr_dr hF (by decide) (by decide), fr_dr hF (by decide) (by decide)]; exact ho a b ha' hb'
    unfold fX10_canApply_B23 fX10_canApply_b23
    rw [T_fr, m_gI hM1 (by decide), g14', T_ifn c1]
    refine T_call (m_applyRow hM1 h1 h2 ok' ho' (hs.fr hF (by decide) (by decide)) hi) fun z hb p => ?_
    obtain ⟨r, rfl⟩ := p
    have hM2 := r.1
    simp (disch := first | assumption | decide | omega | (simp only [ml_0, ml_1, ml_2, ml_3, ml_4, ml_5, ml_6, ml_7, ml_8, ml_9, ml_10, ml_11, ml_12, ml_13, ml_14, ml_15, ml_16, ml_17, ml_18, ml_19, ml_20, ml_21, ml_22, ml_23, ml_24, ml_25, ml_26, ml_27, ml_28, ml_29, ml_30, ml_31, ml_32, ml_33, ml_34, ml_35, ml_36]; omega) | (simp only [ml_0, ml_1, ml_2, ml_3, ml_4, ml_5, ml_6, ml_7, ml_8, ml_9, ml_10, ml_11, ml_12, ml_13, ml_14, ml_15, ml_16, ml_17, ml_18, ml_19, ml_20, ml_21, ml_22, ml_23, ml_24, ml_25, ml_26, ml_27, ml_28, ml_29, ml_30, ml_31, ml_32, ml_33, ml_34, ml_35, ml_36]; decide) | (apply MW_wIr (by decide); (repeat' (first | assumption | apply MW_wIr (by decide) | apply MW_wJr (by decide) | apply MW_wI0 rfl | apply MW_wJ0 rfl)); done) | (apply MW_wJr (by decide); (repeat' (first | assumption | apply MW_wIr (by decide) | apply MW_wJr (by decide) | apply MW_wI0 rfl | apply MW_wJ0 rfl)); done) | (apply MW_wI0 rfl; (repeat' (first | assumption | apply MW_wIr (by decide) | apply MW_wJr (by decide) | apply MW_wI0 rfl | apply MW_wJ0 rfl)); done) | (apply MW_wJ0 rfl; (repeat' (first | assumption | apply MW_wIr (by decide) | apply MW_wJr (by decide) | apply MW_wI0 rfl | apply MW_wJ0 rfl)); done)) only [T_fr, T_frJ, li_0, li_1, li_2, li_3, li_4, li_5, li_6, li_7, li_8, li_9, li_10, li_11, li_12, li_13, li_14, li_15, li_16, li_17, li_25, li_30, li_31, li_32, li_33, li_43, li_45, li_48, li_57, li_59, li_60, li_61, li_99, li_110, li_116, li_119, li_120, li_122, li_127, li_165, li_198, li_256, pk_mul, nI_add, m_chk, m_gA, mr_0, mr_1, mr_2, mr_4, mr_9, mr_10, mr_11, mr_12, mr_15, mr_16, mr_17, mr_18, mr_19, mr_20, mr_21, mr_22, mr_23, mr_24, mr_25, mr_27, mr_28, mr_29, mr_30, mr_31, mr_32, mr_33, mr_34, mr_36, mr_37, mr_38, mr_39, mr_40, mr_41, mr_42, mr_43, mr_44, m_gI, m_gJ, m_lI, m_lJ, m_tI, m_tJ, m_sI, m_sJ, T_pp, T_ifn, T_ifp, not_false_eq_true, not_true_eq_false, gi_wI_ne, gi_wJ_ne, gj_wI_ne, gj_wJ_ne, gi_wI_nk, gi_wJ_nk, gj_wI_nk, gj_wJ_nk]
    have r2 := hF.seq r (by decide)
    refine ⟨trivial, (r2.J (by decide) (by decide)).J (by decide) (by decide), fun j hj => ?_⟩
    by_cases cj : j = i
    · subst cj
      rw [if_pos (by omega)]
      try simp (disch := first | assumption | decide | omega | (simp only [ml_0, ml_1, ml_2, ml_3, ml_4, ml_5, ml_6, ml_7, ml_8, ml_9, ml_10, ml_11, ml_12, ml_13, ml_14, ml_15, ml_16, ml_17, ml_18, ml_19, ml_20, ml_21, ml_22, ml_23, ml_24, ml_25, ml_26, ml_27, ml_28, ml_29, ml_30, ml_31, ml_32, ml_33, ml_34, ml_35, ml_36]; omega) | (simp only [ml_0, ml_1, ml_2, ml_3, ml_4, ml_5, ml_6, ml_7, ml_8, ml_9, ml_10, ml_11, ml_12, ml_13, ml_14, ml_15, ml_16, ml_17, ml_18, ml_19, ml_20, ml_21, ml_22, ml_23, ml_24, ml_25, ml_26, ml_27, ml_28, ml_29, ml_30, ml_31, ml_32, ml_33, ml_34, ml_35, ml_36]; decide) | (apply MW_wIr (by decide); (repeat' (first | assumption | apply MW_wIr (by decide) | apply MW_wJr (by decide) | apply MW_wI0 rfl | apply MW_wJ0 rfl)); done) | (apply MW_wJr (by decide); (repeat' (first | assumption | apply MW_wIr (by decide) | apply MW_wJr (by decide) | apply MW_wI0 rfl | apply MW_wJ0 rfl)); done) | (apply MW_wI0 rfl; (repeat' (first | assumption | apply MW_wIr (by decide) | apply MW_wJr (by decide) | apply MW_wI0 rfl | apply MW_wJ0 rfl)); done) | (apply MW_wJ0 rfl; (repeat' (first | assumption | apply MW_wIr (by decide) | apply MW_wJr (by decide) | apply MW_wI0 rfl | apply MW_wJ0 rfl)); done)) only [gi_wI_ne, gi_wJ_ne, gj_wI_ne, gj_wJ_ne, gi_wI_nk, gi_wJ_nk, gj_wI_nk, gj_wJ_nk, gj_wJm, gi_wIm, if_neg, if_pos, true_and, and_true]
    · have := hI j hj
      have e1 : gj hb 34 j = gj ha 34 j := fr_gjr r (by decide) (by decide)
      have e2 : gj hb 35 j = gj ha 35 j := fr_gjr r (by decide) (by decide)
      try simp (disch := first | assumption | decide | omega | (simp only [ml_0, ml_1, ml_2, ml_3, ml_4, ml_5, ml_6, ml_7, ml_8, ml_9, ml_10, ml_11, ml_12, ml_13, ml_14, ml_15, ml_16, ml_17, ml_18, ml_19, ml_20, ml_21, ml_22, ml_23, ml_24, ml_25, ml_26, ml_27, ml_28, ml_29, ml_30, ml_31, ml_32, ml_33, ml_34, ml_35, ml_36]; omega) | (simp only [ml_0, ml_1, ml_2, ml_3, ml_4, ml_5, ml_6, ml_7, ml_8, ml_9, ml_10, ml_11, ml_12, ml_13, ml_14, ml_15, ml_16, ml_17, ml_18, ml_19, ml_20, ml_21, ml_22, ml_23, ml_24, ml_25, ml_26, ml_27, ml_28, ml_29, ml_30, ml_31, ml_32, ml_33, ml_34, ml_35, ml_36]; decide) | (apply MW_wIr (by decide); (repeat' (first | assumption | apply MW_wIr (by decide) | apply MW_wJr (by decide) | apply MW_wI0 rfl | apply MW_wJ0 rfl)); done) | (apply MW_wJr (by decide); (repeat' (first | assumption | apply MW_wIr (by decide) | apply MW_wJr (by decide) | apply MW_wI0 rfl | apply MW_wJ0 rfl)); done) | (apply MW_wI0 rfl; (repeat' (first | assumption | apply MW_wIr (by decide) | apply MW_wJr (by decide) | apply MW_wI0 rfl | apply MW_wJ0 rfl)); done) | (apply MW_wJ0 rfl; (repeat' (first | assumption | apply MW_wIr (by decide) | apply MW_wJr (by decide) | apply MW_wI0 rfl | apply MW_wJ0 rfl)); done)) only [gi_wI_ne, gi_wJ_ne, gj_wI_ne, gj_wJ_ne, gi_wI_nk, gi_wJ_nk, gj_wI_nk, gj_wJ_nk, gj_wJm, gi_wIm, if_neg, if_pos, true_and, and_true, e1, e2]
      rw [this.1]
      refine ⟨?_, this.2⟩
      by_cases c3 : j < i
      · rw [if_pos c3, if_pos (by omega)]
      · rw [if_neg c3, if_neg (by omega)]
  · obtain ⟨hF, hI⟩ := hI
    have hM1 := hF.1
    have g14' : gi ha 0 14 = nI (dim N) := by rw [fr_gi0 hF (by decide)]; exact g14
    have c1 : nI (dim N) ≤ nI (dim N) := nI_le (Nat.le_refl _) (by omega)
    unfold fX10_canApply_B23 fX10_canApply_b23
    rw [T_fr, m_gI hM1 (by decide), g14', T_ifp c1, T_pp]
    exact ⟨(), rfl, hF, hI⟩
theorem M_canApply {st : St} (n : Int32) (q : MR h st) : T (fX10_canApply 0 n) h (fun r h' => r = (o_apply n st.1).1 ∧ MR h' st ∧ (r = 0 → ThAt h' (o_apply n st.1).2) ∧ Fr SK h h') := by
  unfold fX10_canApply
  have ws := q.2.1
  rw [m_chk q.1]
  refine T_call (m_canOperate q.1 ws.1 ws.2.1 q.2.2.1.1 n) fun v h1 p => ?_
  obtain ⟨rfl, rfl⟩ := p
  unfold o_apply
  rcases co_cases n st.1.1 with ⟨z1, z2, z3⟩ | ⟨z1, z2, z3⟩ | ⟨z1, z2⟩
  · rw [z1, T_ifp (by decide), if_pos rfl]
    have hcop := cop_of ws.1 ws.2.1 z2 z3
    obtain ⟨n, rfl, en, en1, en2⟩ := rg_nat z2 (by decide) (by decide)
    rw [en] at hcop
    refine T_call (M_laysOperator q hcop) fun _ h2 p => ?_
    obtain ⟨q2, ok, o2, fo⟩ := p
    refine T_call (m_laysSum q2.1 q2.2.2.1) fun _ h3 p => ?_
    obtain ⟨f3, t3⟩ := p
    have ok3 : okL st.1.1 h3 = true := by rw [okL_fr f3 (by decide)]; exact ok
    have o3 : OpAt h3 st.1.1 n := fun a b ha' hb' => by rw [fr_dr f3 (by decide) (by decide), fr_dr f3 (by decide) (by decide)]; exact o2 a b ha' hb'
    refine T_call (m_applyLoop f3.1 ws.1 ws.2.1 ok3 o3 (q2.2.2.1.fr f3 (by decide) (by decide)) t3) fun _ h4 p => ?_
    obtain ⟨f4, t4⟩ := p
    have ok4 : okL st.1.1 h4 = true := by rw [okL_fr f4 (by decide)]; exact ok3
    refine T_call (m_canBe f4.1 ws.1 ws.2.1 ok4 t4) fun r h5 p => ?_
    obtain ⟨rfl, rfl⟩ := p
    rw [T_pp, en]
    exact ⟨rfl, q2.fr ((f3.sub (S' := [34, 35, 105, 106]) (by decide)).tr f4) (by decide), fun _ => t4, (fo.seq f3 (by decide)).seq f4 (by decide)⟩
  · rw [z1, T_ifn (by decide), if_neg (by decide), T_pp]
    exact ⟨rfl, q, (fun z => by cases z), Fr.rf q.1 _⟩
  · rw [z1, T_ifn (by decide), if_neg (by decide), T_pp]
    exact ⟨rfl, q, (fun z => by cases z), Fr.rf q.1 _⟩
theorem M_applies {st : St} (n : Int32) (q : MR h st) : T (fX10_applies 0 n) h (fun r h' => r = (q_do (o_apply n st.1) st).1 ∧ MR h' (q_do (o_apply n st.1) st).2) := M_do (oOK_apply n st.1) q.1 (M_canApply n q)
end S9
