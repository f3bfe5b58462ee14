section C18
variable {h h' : PH} {N bu : Nat}
theorem C_sum {st : St} (i w : Int32) (q : CR bu h st) : T (fX9_sum 0 i w) h (fun v h' => v = (q_sum i w st).1 ∧ CR bu h' (q_sum i w st).2) := by
  have hC := q.1
  obtain ⟨a, e0, la, lv, row⟩ := q.2.2.1
  have row : ∀ i, i < 9 → gj h 3 i = st.1.2 i := row
  obtain ⟨F, X, lf⟩ := lv.f
  have n := tb_n lv.1 lv.2.1
  unfold fX9_sum q_sum
  rw [c_chk hC (by decide) (by decide), c_gA hC (by decide) (by decide), cr_0_1, t_gA (c_sh hC (by decide) (by decide) : Sh h 2 7 (clen 2)) (by decide) e0]
  refine T_call (c_hasCoordinate lv.1 lv.2.1 lf i) fun v h1 p => ?_
  obtain ⟨rfl, rfl⟩ := p
  by_cases r : rg i 0 ((dim st.1.1 : Int) - 1)
  · obtain ⟨es, x1, x2⟩ := rg_nI r (by decide)
    have hs : ti i < dim st.1.1 := by omega
    rw [if_pos r, T_ifn (by decide)]
    refine T_call (c_within _ _ _) fun v h2 p => ?_
    obtain ⟨rfl, rfl⟩ := p
    rw [show (0 : Int32).toInt = 0 from by decide, show (1 : Int32).toInt = 1 from by decide]
    by_cases r2 : rg w 0 1
    · obtain ⟨ew, y1, y2⟩ := rg_nI r2 (by decide)
      rw [if_pos r2, if_pos (And.intro r r2), T_ifn (by decide)]
      by_cases c0 : ti w = 0
      · have w0 : w = 0 := by rw [ew, c0]; rfl
        rw [T_ifp w0, if_pos c0, c_gA hC (by decide) (by decide), cr_0_1, c_gA hC (by decide) (by decide), cr_2_1, es, c_lJ hC (by decide) (by decide) (by rw [cl_3]; omega), T_pp, ← es, row _ (by omega)]
        exact ⟨rfl, q⟩
      · have w0 : ¬ w = 0 := fun z => c0 (by rw [z]; rfl)
        rw [T_ifn w0, if_neg c0, T_pp]
        exact ⟨rfl, q⟩
    · have nn : ¬ (rg i 0 ((dim st.1.1 : Int) - 1) ∧ rg w 0 1) := fun z => r2 z.2
      rw [if_neg r2, if_neg nn, T_ifp rfl]
      refine T_call (C_ref2 q) fun v h3 p => ?_
      rw [T_pp]
      exact ⟨rfl, p.2⟩
  · have nn : ¬ (rg i 0 ((dim st.1.1 : Int) - 1) ∧ rg w 0 1) := fun z => r z.1
    rw [if_neg r, if_neg nn, T_ifp rfl]
    refine T_call (C_ref2 q) fun v h3 p => ?_
    rw [T_pp]
    exact ⟨rfl, p.2⟩
end C18
