section C12
variable {h h' : PH} {N bu : Nat}
theorem C_told {st : St} (w : Int32) (q : CR bu h st) : T (fX9_told 0 w) h (fun v h' => v = (q_told w st).1 ∧ CR bu h' (q_told w st).2) := by
  have hC := q.1
  have ht : CtAt h st.2.2.1 := q.2.2.2.2.2.2.1
  have e1 : dig h 20 1 = st.2.2.1.length + 1 := ht.2.1
  have e6 : dig h 6 1 = st.2.1.length + 1 := q.2.2.2.2.1.2.1
  obtain ⟨a, e0, la, lv, row⟩ := q.2.2.1
  obtain ⟨F, X, lf⟩ := lv.f
  obtain ⟨k1, k2, k3⟩ := q.2.2.2.2.2.2.2.1
  have lit : ∀ n, n < 6 → w = nI n → rg w 0 5 ∧ ti w = n := by
    intro n hn e
    have e2 : w.toInt = (n : Int) := by rw [e]; exact nI_toInt (by omega)
    refine ⟨⟨by omega, by omega⟩, ?_⟩
    unfold ti
    omega
  unfold fX9_told q_told
  rw [c_chk hC (by decide) (by decide)]
  by_cases c0 : w = 0
  · obtain ⟨r, t⟩ := lit 0 (by decide) c0
    rw [if_pos r, t, T_ifp c0, c_gI hC (by decide) (by decide) (by decide), k1, T_pp]
    exact ⟨rfl, q⟩
  by_cases c1 : w = 1
  · obtain ⟨r, t⟩ := lit 1 (by decide) c1
    rw [if_pos r, t, T_ifn c0, T_ifp c1, c_gI hC (by decide) (by decide) (by decide), k2, T_pp]
    exact ⟨rfl, q⟩
  by_cases c2 : w = 2
  · obtain ⟨r, t⟩ := lit 2 (by decide) c2
    rw [if_pos r, t, T_ifn c0, T_ifn c1, T_ifp c2, c_gI hC (by decide) (by decide) (by decide), k3, T_pp]
    exact ⟨rfl, q⟩
  by_cases c3 : w = 3
  · obtain ⟨r, t⟩ := lit 3 (by decide) c3
    rw [if_pos r, t, T_ifn c0, T_ifn c1, T_ifn c2, T_ifp c3, c_gA hC (by decide) (by decide), cr_0_4, c_gI hC (by decide) (by decide) (by decide), dig_gi e1, T_pp]
    exact ⟨rfl, q⟩
  by_cases c4 : w = 4
  · obtain ⟨r, t⟩ := lit 4 (by decide) c4
    rw [if_pos r, t, T_ifn c0, T_ifn c1, T_ifn c2, T_ifn c3, T_ifp c4, c_gA hC (by decide) (by decide), cr_0_1, t_gA (c_sh hC (by decide) (by decide) : Sh h 2 7 (clen 2)) (by decide) e0, v_gI lf.1, T_pp]
    exact ⟨rfl, q⟩
  by_cases c5 : w = 5
  · obtain ⟨r, t⟩ := lit 5 (by decide) c5
    rw [if_pos r, t, T_ifn c0, T_ifn c1, T_ifn c2, T_ifn c3, T_ifn c4, T_ifp c5, c_gA hC (by decide) (by decide), cr_0_3, c_gI hC (by decide) (by decide) (by decide), dig_gi e6, T_pp]
    exact ⟨rfl, q⟩
  have nr : ¬ rg w 0 5 := by
    intro r
    obtain ⟨e, x1, x2⟩ := rg_nI r (by decide)
    have : ti w = 0 ∨ ti w = 1 ∨ ti w = 2 ∨ ti w = 3 ∨ ti w = 4 ∨ ti w = 5 := by omega
    rcases this with z | z | z | z | z | z <;> rw [z] at e
    · exact c0 e
    · exact c1 e
    · exact c2 e
    · exact c3 e
    · exact c4 e
    · exact c5 e
  rw [if_neg nr, T_ifn c0, T_ifn c1, T_ifn c2, T_ifn c3, T_ifn c4, T_ifn c5]
  refine T_call (C_ref2 q) fun v h2 p => ?_
  rw [T_pp]
  exact p
end C12
