section S3
variable {h h' : PH}
theorem dg_one (k : Nat) : dg 1 k = 0 := by
  unfold dg
  rw [Nat.shiftRight_eq_div_pow, Nat.div_eq_of_lt (Nat.one_lt_two_pow (by omega))]
theorem dg_big {x n k : Nat} (hx : x < 2 ^ (65 * (n + 1))) (hk : n ≤ k) : dg x k = 0 := by
  unfold dg
  rw [Nat.shiftRight_eq_div_pow, Nat.div_eq_of_lt (Nat.lt_of_lt_of_le hx (Nat.pow_le_pow_right (by decide) (by omega)))]
theorem shp_at (q : shp h = true) : h.length = 37 ∧ ∀ a, a < 37 → ∃ x, nth h a = some (mtag a, mlen a, x) ∧ ∀ k, mlen a ≤ k → dg x k = 0 := by
  unfold shp at q
  rw [Bool.and_eq_true] at q
  refine ⟨Nat.eq_of_beq_eq_true q.1, fun a ha => ?_⟩
  have := allN_at q.2 a ha
  split at this
  · cases this
  · rename_i c e
    obtain ⟨t, n, x⟩ := c
    simp only [Bool.and_eq_true] at this
    have e1 : t = mtag a := Nat.eq_of_beq_eq_true this.1
    have e2 : n = mlen a := Nat.eq_of_beq_eq_true this.2.1
    have e3 : x + 1 ≤ 2 ^ (65 * (mlen a + 1)) := Nat.le_of_ble_eq_true this.2.2
    exact ⟨x, by rw [e, e1, e2], fun k hk => dg_big (by omega) hk⟩
theorem rfs_at (q : rfs h = true) : ∀ k, mref k ≠ 0 → dig h 0 k = mref k + 2 := by
  intro k hk
  have hk51 : k < 51 := by
    unfold mref at hk
    split at hk <;> first | omega | exact absurd rfl hk
  have := allN_at q k hk51
  rw [Bool.or_eq_true] at this
  rcases this with e | e
  · exact absurd (Nat.eq_of_beq_eq_true e) hk
  · exact dq_at.mp e
/-- a poor literal heap, and the heap as it is -/
theorem Ref_lit {e : PH} (hs : shp e = true) (hM : MW h) (hd : ∀ a k, a < 37 → k < mlen a → dig e a k = 0 ∨ dig e a k = dig h a k) : Ref e h := by
  obtain ⟨l1, s1⟩ := shp_at hs
  refine ⟨by rw [l1, hM.1], fun a c ha => ?_⟩
  have ha37 : a < 37 := by rw [← l1]; exact nth_lt ha
  obtain ⟨x, e1, e2⟩ := s1 a ha37
  rw [e1] at ha
  cases ha
  obtain ⟨y, f1, f2⟩ := hM.2.1 a ha37
  refine ⟨y, f1, fun k => ?_⟩
  by_cases hk : k < mlen a
  · have := hd a k ha37 hk
    unfold dig at this
    rw [e1, f1] at this
    exact this
  · exact Or.inl (e2 k (by omega))
theorem bulk_dig {e g : PH} {a : Nat} (q : Nat.beq (bulk g a) 0 = true ∨ Nat.beq (bulk g a) (bulk e a) = true) (k : Nat) : dig g a k = 0 ∨ dig g a k = dig e a k := by
  have b : ∀ (h : PH), dig h a k = (bulk h a >>> (65 * k)) % 36893488147419103232 := by
    intro h
    unfold dig bulk
    cases nth h a with
    | none => simp
    | some c => exact dg_sh _ _
  rw [b g, b e]
  rcases q with q | q
  · left
    rw [Nat.eq_of_beq_eq_true q]
    simp
  · right
    rw [Nat.eq_of_beq_eq_true q]
/-- what a closed run leaves as it was -/
theorem fr_closed {S : List Nat} {e g : PH} (hM : MW h) (r0 : Ref e h) (rg : Ref g h') (hx : Ext h h') (u : ∀ a k, a < h.length → dig g a k = 0 → dig h' a k = dig h a k) (hs : shp g = true) (hr : rfs g = true) (hk : ∀ a k, a < 37 → pcd a k ∉ S → dig g a k = 0 ∨ dig g a k = dig e a k ∨ (a = 0 ∧ mref k ≠ 0)) : Fr S h h' := by
  obtain ⟨l1, s1⟩ := shp_at hs
  have r1 := rfs_at hr
  have hl' : h'.length = 37 := by rw [← rg.1, l1]
  have refs : ∀ k, mref k ≠ 0 → dig h' 0 k = mref k + 2 := fun k hk => by
    rw [ref_dig rg (by rw [r1 k hk]; omega), r1 k hk]
  refine ⟨⟨hl', fun a ha => sh_ext (hM.2.1 a ha) hx, refs⟩, fun a k hp => ?_⟩
  by_cases ha : a < 37
  · rcases hk a k ha hp with z | z | ⟨rfl, z⟩
    · exact u a k (by rw [hM.1]; exact ha) z
    · by_cases c : dig g a k = 0
      · exact u a k (by rw [hM.1]; exact ha) c
      · rw [ref_dig rg c, z, ref_dig r0 (by rw [← z]; exact c)]
    · rw [refs k z, hM.2.2 k z]
  · unfold dig
    rw [nth_eq, nth_eq, List.getElem?_eq_none (by omega), List.getElem?_eq_none (by rw [hM.1]; omega)]
/-- digits of a poor literal heap, by a function -/
noncomputable def dgt (e : PH) (f : Nat → Nat → Nat) : Bool := allN 37 fun a => Nat.beq (bulk e a) 0 || allN (mlen a) fun k => dq e a k 0 || dq e a k (f a k)
theorem dgt_at {e : PH} {f : Nat → Nat → Nat} (q : dgt e f = true) : ∀ a k, a < 37 → k < mlen a → dig e a k = 0 ∨ dig e a k = f a k := by
  intro a k ha hk
  have := allN_at q a ha
  rw [Bool.or_eq_true] at this
  rcases this with z | z
  · rcases bulk_dig (e := e) (g := e) (a := a) (Or.inl z) k with y | y
    · exact Or.inl y
    · left
      have b : dig e a k = (bulk e a >>> (65 * k)) % 36893488147419103232 := by
        unfold dig bulk
        cases nth e a with
        | none => simp
        | some c => exact dg_sh _ _
      rw [b, Nat.eq_of_beq_eq_true z]
      simp
  · have := allN_at z k hk
    rw [Bool.or_eq_true] at this
    rcases this with y | y
    · exact Or.inl (dq_at.mp y)
    · exact Or.inr (dq_at.mp y)
noncomputable def pd (N a k : Nat) : Nat := if a = 0 then (if mref k = 0 then 0 else mref k + 2) else if a = 11 ∧ k = 0 then N + 1 else 0
theorem PMh_ok : allN 26 (fun N => shp (PMh N) && dgt (PMh N) (pd N)) = true := by decide +kernel
theorem PMh_ref {N : Nat} (hN : N ≤ 25) (hM : MW h) (h11 : dig h 11 0 = N + 1) : Ref (PMh N) h := by
  have := allN_at PMh_ok N (by omega)
  rw [Bool.and_eq_true] at this
  refine Ref_lit this.1 hM fun a k ha hk => ?_
  rcases dgt_at this.2 a k ha hk with z | z
  · exact Or.inl z
  · unfold pd at z
    split at z
    · rename_i c
      subst c
      split at z
      · exact Or.inl z
      · rename_i c2
        right
        rw [z, hM.2.2 k c2]
    · split at z
      · rename_i c
        obtain ⟨rfl, rfl⟩ := c
        right
        rw [z, h11]
      · exact Or.inl z
def SL : List Nat := [1, 2, 3, 4, 5, 6, 7, 8, 9, 10, 12, 13, 14, 105, 106, 107, 108, 113, 114]
theorem m_levelHere (hM : MW h) {N : Nat} (h11 : dig h 11 0 = N + 1) : T (fX10_levelHere 0) h (fun v h' => h' = h ∧ v = nI N) := by
  unfold fX10_levelHere
  have := dig_gl h11
  simp (disch := first | assumption | decide | omega | (simp only [ml_0, ml_1, ml_2, ml_3, ml_4, ml_5, ml_6, ml_7, ml_8, ml_9, ml_10, ml_11, ml_12, ml_13, ml_14, ml_15, ml_16, ml_17, ml_18, ml_19, ml_20, ml_21, ml_22, ml_23, ml_24, ml_25, ml_26, ml_27, ml_28, ml_29, ml_30, ml_31, ml_32, ml_33, ml_34, ml_35, ml_36]; omega) | (simp only [ml_0, ml_1, ml_2, ml_3, ml_4, ml_5, ml_6, ml_7, ml_8, ml_9, ml_10, ml_11, ml_12, ml_13, ml_14, ml_15, ml_16, ml_17, ml_18, ml_19, ml_20, ml_21, ml_22, ml_23, ml_24, ml_25, ml_26, ml_27, ml_28, ml_29, ml_30, ml_31, ml_32, ml_33, ml_34, ml_35, ml_36]; decide) | (apply MW_wIr (by decide); (repeat' (first | assumption | apply MW_wIr (by decide) | apply MW_wJr (by decide) | apply MW_wI0 rfl | apply MW_wJ0 rfl)); done) | (apply MW_wJr (by decide); (repeat' (first | assumption | apply MW_wIr (by decide) | apply MW_wJr (by decide) | apply MW_wI0 rfl | apply MW_wJ0 rfl)); done) | (apply MW_wI0 rfl; (repeat' (first | assumption | apply MW_wIr (by decide) | apply MW_wJr (by decide) | apply MW_wI0 rfl | apply MW_wJ0 rfl)); done) | (apply MW_wJ0 rfl; (repeat' (first | assumption | apply MW_wIr (by decide) | apply MW_wJr (by decide) | apply MW_wI0 rfl | apply MW_wJ0 rfl)); done)) only [T_fr, T_frJ, li_0, li_1, li_2, li_3, li_4, li_5, li_6, li_7, li_8, li_9, li_10, li_11, li_12, li_13, li_14, li_15, li_16, li_17, li_25, li_30, li_31, li_32, li_33, li_43, li_45, li_48, li_57, li_59, li_60, li_61, li_99, li_110, li_116, li_119, li_120, li_122, li_127, li_165, li_198, li_256, pk_mul, nI_add, m_chk, m_gA, mr_0, mr_1, mr_2, mr_4, mr_9, mr_10, mr_11, mr_12, mr_15, mr_16, mr_17, mr_18, mr_19, mr_20, mr_21, mr_22, mr_23, mr_24, mr_25, mr_27, mr_28, mr_29, mr_30, mr_31, mr_32, mr_33, mr_34, mr_36, mr_37, mr_38, mr_39, mr_40, mr_41, mr_42, mr_43, mr_44, m_gI, m_gJ, m_lI, m_lJ, m_tI, m_tJ, m_sI, m_sJ, T_pp, T_ifn, T_ifp, not_false_eq_true, not_true_eq_false, gi_wI_ne, gi_wJ_ne, gj_wI_ne, gj_wJ_ne, gi_wI_nk, gi_wJ_nk, gj_wI_nk, gj_wJ_nk, this, lN_i]
  exact ⟨trivial, trivial⟩
theorem m_laysR (hM : MW h) {N : Nat} (hN1 : 1 ≤ N) (hN : N ≤ 25) (h11 : dig h 11 0 = N + 1) : T laysR h (fun _ h' => okL N h' = true ∧ Fr SL h h') := by
  have r0 := PMh_ref hN hM h11
  refine T_mono (T_ext (T_closed r0 (lays_run hN1 hN))) fun v h' p => ?_
  obtain ⟨hx, g, pg, rg, u⟩ := p
  rw [Bool.and_eq_true] at pg
  obtain ⟨pg1, pg2⟩ := pg
  unfold okLf at pg2
  simp only [Bool.and_eq_true] at pg2
  obtain ⟨⟨g1, g2⟩, g3, g4, g5⟩ := pg2
  refine ⟨okL_ref rg pg1, fr_closed hM r0 rg hx u g1 g2 fun a k ha hp => ?_⟩
  by_cases c0 : a = 0
  · subst c0
    have hk : k ∈ [3, 26, 35, 45, 46, 47, 48, 49, 50] ∨ mref k ≠ 0 ∨ 51 ≤ k := by
      have hp' : 100 + k ∉ SL := hp
      unfold SL at hp'
      simp only [List.mem_cons, List.not_mem_nil, or_false, not_or] at hp'
      by_cases c : 51 ≤ k
      · exact Or.inr (Or.inr c)
      · have key : ∀ k, k < 51 → (k ∈ [3, 26, 35, 45, 46, 47, 48, 49, 50] ∨ mref k ≠ 0) ∨ k ∈ [5, 6, 7, 8, 13, 14] := by decide
        rcases key k (by omega) with (z | z) | z
        · exact Or.inl z
        · exact Or.inr (Or.inl z)
        · exfalso
          simp only [List.mem_cons, List.not_mem_nil, or_false] at z
          omega
    rcases hk with hk | hk | hk
    · exact Or.inl (dq_at.mp (allL_at g5 k hk))
    · exact Or.inr (Or.inr ⟨rfl, hk⟩)
    · left
      obtain ⟨x, e1, e2⟩ := (shp_at g1).2 0 (by decide)
      unfold dig
      rw [e1]
      exact e2 k hk
  · have hp' : a ∉ SL := by
      unfold pcd at hp
      rw [if_neg c0] at hp
      exact hp
    by_cases c11 : a = 11
    · subst c11
      have : Nat.beq (bulk g 11) (bulk (PMh N) 11) = true := by
        have e : bulk (PMh N) 11 = N + 1 := by
          show ((N + 1) * 36893488147419103232 + 1) >>> 65 = N + 1
          rw [Nat.shiftRight_eq_div_pow]
          omega
        rw [e]
        exact g3
      rcases bulk_dig (e := PMh N) (Or.inr this) k with z | z
      · exact Or.inl z
      · exact Or.inr (Or.inl z)
    · have ha : a ∈ [15, 16, 17, 18, 19, 20, 21, 22, 23, 24, 25, 26, 27, 28, 29, 30, 31, 32, 33, 34, 35, 36] := by
        have key : ∀ a, a < 37 → a ∈ [15, 16, 17, 18, 19, 20, 21, 22, 23, 24, 25, 26, 27, 28, 29, 30, 31, 32, 33, 34, 35, 36] ∨ a ∈ SL ∨ a = 0 ∨ a = 11 := by decide
        rcases key a ha with z | z | z | z
        · exact z
        · exact absurd z hp'
        · exact absurd z c0
        · exact absurd z c11
      rcases bulk_dig (e := PMh N) (Or.inl (allL_at g4 a ha)) k with z | z
      · exact Or.inl z
      · exact Or.inr (Or.inl z)
theorem m_lays (hM : MW h) {N : Nat} (hN1 : 1 ≤ N) (hN : N ≤ 25) (h11 : dig h 11 0 = N + 1) (hl : LdAt h) : T (fX10_lays 0) h (fun _ h' => okL N h' = true ∧ Fr SL h h') := by
  unfold fX10_lays
  rw [m_chk hM, m_gI hM (by decide)]
  refine T_call (m_levelHere hM h11) fun v h1 p => ?_
  obtain ⟨rfl, rfl⟩ := p
  by_cases c : gi h1 0 7 = nI N
  · rw [T_ifp c, T_pp]
    refine ⟨?_, Fr.rf hM _⟩
    rcases hl with hl | ⟨N', a1, a2, hl⟩
    · rw [dig_gi (n := 0) hl, nI_eq (by decide) (by omega)] at c
      omega
    · rw [dig_gi (okL_at hl).1, nI_eq (by omega) (by omega)] at c
      rw [← c]
      exact hl
  · rw [T_ifn c]
    exact m_laysR hM hN1 hN h11
end S3
