section C17
variable {h h' : PH} {N bu : Nat}
theorem C_symbol {st : St} (s w : Int32) (q : CR bu h st) : T (fX9_symbol 0 s w) h (fun v h' => v = (q_symbol s w st).1 ∧ CR bu h' (q_symbol s w st).2) := by
  have hC := q.1
  obtain ⟨a, e0, la, lv, row⟩ := q.2.2.1
  obtain ⟨F, X, lf⟩ := lv.f
  have n := tb_n lv.1 lv.2.1
  have lit : ∀ n, n < 7 → w = nI n → rg w 0 6 ∧ ti w = n := by
    intro n hn e
    have e2 : w.toInt = (n : Int) := by rw [e]; exact nI_toInt (by omega)
    refine ⟨⟨by omega, by omega⟩, ?_⟩
    unfold ti
    omega
  unfold fX9_symbol q_symbol
  rw [c_chk hC (by decide) (by decide), c_gA hC (by decide) (by decide), cr_0_1, t_gA (c_sh hC (by decide) (by decide) : Sh h 2 7 (clen 2)) (by decide) e0]
  refine T_call (c_hasSymbol lv.1 lv.2.1 lf s) fun v h1 p => ?_
  obtain ⟨rfl, rfl⟩ := p
  by_cases r : rg s 0 ((cnt st.1.1 : Int) - 1)
  · obtain ⟨es, x1, x2⟩ := rg_nI r (by decide)
    have hs : ti s < cnt st.1.1 := by omega
    have hb : ti s < 2147483648 := by omega
    obtain ⟨o1, o2, o3, o4, o5, o6, o7⟩ := lf.2.2.2.2.2.2.1 (ti s) hs
    have g := lf.2.2.2.2.1
    rw [if_pos r, T_ifn (by decide)]
    by_cases c0 : w = 0
    · obtain ⟨rr, t⟩ := lit 0 (by decide) c0
      rw [if_pos (And.intro r rr), t, T_ifp c0, v_gA (g 3 (by decide)), es, v_lI o1 (by omega), T_pp, ← es]
      exact ⟨rfl, q⟩
    by_cases c1 : w = 1
    · obtain ⟨rr, t⟩ := lit 1 (by decide) c1
      rw [if_pos (And.intro r rr), t, T_ifn c0, T_ifp c1, v_gA (g 4 (by decide)), es, v_lI o2 (by omega), T_pp, ← es]
      exact ⟨rfl, q⟩
    by_cases c2 : w = 2
    · obtain ⟨rr, t⟩ := lit 2 (by decide) c2
      rw [if_pos (And.intro r rr), t, T_ifn c0, T_ifn c1, T_ifp c2, v_gA (g 5 (by decide)), es, v_lI o3 (by omega), T_pp, ← es]
      exact ⟨rfl, q⟩
    by_cases c3 : w = 3
    · obtain ⟨rr, t⟩ := lit 3 (by decide) c3
      rw [if_pos (And.intro r rr), t, T_ifn c0, T_ifn c1, T_ifn c2, T_ifp c3, v_gA (g 6 (by decide)), es, v_lI o4 (by omega), T_pp, ← es]
      exact ⟨rfl, q⟩
    by_cases c4 : w = 4
    · obtain ⟨rr, t⟩ := lit 4 (by decide) c4
      rw [if_pos (And.intro r rr), t, T_ifn c0, T_ifn c1, T_ifn c2, T_ifn c3, T_ifp c4, v_gA (g 7 (by decide)), es, v_lI o5 (by omega), T_pp, ← es]
      exact ⟨rfl, q⟩
    by_cases c5 : w = 5
    · obtain ⟨rr, t⟩ := lit 5 (by decide) c5
      rw [if_pos (And.intro r rr), t, T_ifn c0, T_ifn c1, T_ifn c2, T_ifn c3, T_ifn c4, T_ifp c5, v_gA (g 8 (by decide)), es, v_lI o6 (by omega), T_pp, ← es]
      exact ⟨rfl, q⟩
    by_cases c6 : w = 6
    · obtain ⟨rr, t⟩ := lit 6 (by decide) c6
      obtain ⟨d, hd⟩ := dgI_s 1 (tG st.1.1 (ti s))
      have o8 := o7
      rw [hd] at o8
      have ed : d = dgI 1 (tG st.1.1 (ti s)) - 1 := by omega
      rw [if_pos (And.intro r rr), t, T_ifn c0, T_ifn c1, T_ifn c2, T_ifn c3, T_ifn c4, T_ifn c5, T_ifp c6, v_gA (g 11 (by decide)), es, v_lI o8 (by omega), T_pp, ← es, ed]
      exact ⟨rfl, q⟩
    have nr : ¬ rg w 0 6 := by
      intro r
      obtain ⟨e, x1, x2⟩ := rg_nI r (by decide)
      have : ti w = 0 ∨ ti w = 1 ∨ ti w = 2 ∨ ti w = 3 ∨ ti w = 4 ∨ ti w = 5 ∨ ti w = 6 := by omega
      rcases this with z | z | z | z | z | z | z <;> rw [z] at e
      · exact c0 e
      · exact c1 e
      · exact c2 e
      · exact c3 e
      · exact c4 e
      · exact c5 e
      · exact c6 e
    have nn : ¬ (rg s 0 ((cnt st.1.1 : Int) - 1) ∧ rg w 0 6) := fun z => nr z.2
    rw [if_neg nn, T_ifn c0, T_ifn c1, T_ifn c2, T_ifn c3, T_ifn c4, T_ifn c5, T_ifn c6]
    refine T_call (C_ref2 q) fun v h2 p => ?_
    rw [T_pp]
    exact p
  · have nn : ¬ (rg s 0 ((cnt st.1.1 : Int) - 1) ∧ rg w 0 6) := fun z => r z.1
    rw [if_neg r, if_neg nn, T_ifp rfl]
    refine T_call (C_ref2 q) fun v h2 p => ?_
    rw [T_pp]
    exact p
end C17
