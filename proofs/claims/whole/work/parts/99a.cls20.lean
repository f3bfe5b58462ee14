section C20
variable {h h' : PH} {N bu : Nat}
theorem cus_all : allN 26 (fun N => Nat.beq N 0 || Nat.ble 1 (cus N)) = true := by decide +kernel
theorem cus_pos (h1 : 1 ≤ N) (h2 : N ≤ 25) : 1 ≤ cus N := by
  have := allN_at cus_all N (by omega)
  rw [Bool.or_eq_true] at this
  rcases this with e | e
  · have := Nat.eq_of_beq_eq_true e
    omega
  · exact Nat.le_of_ble_eq_true e
theorem C_boundary {st : St} (i w : Int32) (q : CR bu h st) : T (fX9_boundary 0 i w) h (fun v h' => v = (q_boundary i w st).1 ∧ CR bu h' (q_boundary i w st).2) := by
  have hC := q.1
  have s2 := q.2.2.1
  obtain ⟨a, e0, la, lv, row⟩ := q.2.2.1
  obtain ⟨F, X, lf⟩ := lv.f
  have n := tb_n lv.1 lv.2.1
  have cp := cus_pos lv.1 lv.2.1
  have ecus : Int32.ofNat (cus st.1.1) - 1 = nI (cus st.1.1 - 1) := pk_sub (a := cus st.1.1) (b := 1) (by omega)
  have ec2 : (nI (cus st.1.1 - 1)).toInt = (cus st.1.1 : Int) - 1 := by rw [nI_toInt (by omega)]; omega
  unfold fX9_boundary q_boundary
  rw [c_chk hC (by decide) (by decide), c_gA hC (by decide) (by decide), cr_0_1, t_gA (c_sh hC (by decide) (by decide) : Sh h 2 7 (clen 2)) (by decide) e0, v_gI lf.2.2.1, ecus]
  refine T_call (c_within _ _ _) fun v h1 p => ?_
  obtain ⟨rfl, rfl⟩ := p
  rw [ec2, show (0 : Int32).toInt = 0 from by decide]
  by_cases r : rg i 0 ((cus st.1.1 : Int) - 1)
  · obtain ⟨es, x1, x2⟩ := rg_nI r (by decide)
    rw [if_pos r, T_ifn (by decide)]
    refine T_call (c_within _ _ _) fun v h2 p => ?_
    obtain ⟨rfl, rfl⟩ := p
    rw [show (0 : Int32).toInt = 0 from by decide, show (1 : Int32).toInt = 1 from by decide]
    by_cases r2 : rg w 0 1
    · obtain ⟨ew, y1, y2⟩ := rg_nI r2 (by decide)
      rw [if_pos r2, if_pos (And.intro r r2), T_ifn (by decide)]
      by_cases c0 : ti w = 0
      · have w0 : w = 0 := by rw [ew, c0]; rfl
        have key := c_boundaryAt hC s2 (c := ti i) (by omega)
        rw [← es] at key
        rw [T_ifp w0, if_pos c0, c_gA hC (by decide) (by decide), cr_0_1]
        refine T_call key fun v h3 p => ?_
        obtain ⟨rfl, rfl⟩ := p
        rw [T_pp]
        exact ⟨rfl, q⟩
      · have w0 : ¬ w = 0 := fun z => c0 (by rw [z]; rfl)
        rw [T_ifn w0, if_neg c0, T_pp]
        exact ⟨rfl, q⟩
    · have nn : ¬ (rg i 0 ((cus st.1.1 : Int) - 1) ∧ rg w 0 1) := fun z => r2 z.2
      rw [if_neg r2, if_neg nn, T_ifp rfl]
      refine T_call (C_ref2 q) fun v h3 p => ?_
      rw [T_pp]
      exact ⟨rfl, p.2⟩
  · have nn : ¬ (rg i 0 ((cus st.1.1 : Int) - 1) ∧ rg w 0 1) := fun z => r z.1
    rw [if_neg r, if_neg nn, T_ifp rfl]
    refine T_call (C_ref2 q) fun v h3 p => ?_
    rw [T_pp]
    exact ⟨rfl, p.2⟩
end C20
