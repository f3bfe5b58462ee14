section C16
variable {h h' : PH} {N bu : Nat}
theorem b8_all : allN 128 (fun k => decide ((nI k).toInt8.toInt32 = nI k)) = true := by decide +kernel
theorem cref21 (k : Nat) : cref 21 k = 0 := by
  by_cases c : cref 21 k = 0
  · exact c
  · obtain ⟨-, h2⟩ := cref_lt c
    have key : ∀ k, k < clen 21 → cref 21 k = 0 := by decide
    exact key k h2
theorem C_type {st : St} (c : Int32) (q : CR bu h st) : T (fX9_type 0 c) h (fun v h' => v = (q_type c st).1 ∧ CR bu h' (q_type c st).2) := by
  have hC := q.1
  have ht : CtAt h st.2.2.1 := q.2.2.2.2.2.2.1
  have L120 := ht.1
  have e1 : dig h 20 1 = st.2.2.1.length + 1 := ht.2.1
  unfold fX9_type q_type
  rw [c_chk hC (by decide) (by decide)]
  refine T_call (c_within _ _ _) fun v h1 p => ?_
  obtain ⟨rfl, rfl⟩ := p
  have e127 : (127 : Int32).toInt = 127 := by decide
  have e000 : (0 : Int32).toInt = 0 := by decide
  rw [e127, e000]
  by_cases r : rg c 0 127
  · rw [if_pos r, if_pos r, T_ifn (by decide), c_gA hC (by decide) (by decide), cr_0_4]
    obtain ⟨ec, x1, x2⟩ := rg_nI r (by decide)
    have e8 : c.toInt8.toInt32 = c := by
      rw [ec]
      exact of_decide_eq_true (allN_at b8_all (ti c) (by omega))
    unfold fX7_append
    by_cases full : st.2.2.1.length = 120
    · rw [if_pos full]
      refine T_call (P := fun v h' => v = 0 ∧ h' = h1) ?_ fun v h2 p => ?_
      · have c1 : ¬ nI st.2.2.1.length < (120 : Int32) := by rw [full]; decide
        rw [c_chk hC (by decide) (by decide), c_gI hC (by decide) (by decide) (by decide), dig_gi e1, T_ifn c1, T_pp]
        exact ⟨rfl, rfl⟩
      · obtain ⟨rfl, rfl⟩ := p
        rw [T_ifp rfl]
        refine T_call (C_ref4 q) fun v h3 p => ?_
        rw [T_pp]
        exact p
    · rw [if_neg full]
      have lt : st.2.2.1.length < 120 := by omega
      have f1 : Fc [20, 21] h1 (wI h1 21 st.2.2.1.length c) := (Fc.rf hC [20, 21]).I (cref21 _) (by decide)
      have f2 : Fc [20, 21] h1 (wI (wI h1 21 st.2.2.1.length c) 20 1 (nI st.2.2.1.length + 1)) := f1.I rfl (by decide)
      have d1 : dig (wI h1 21 st.2.2.1.length c) 20 1 = st.2.2.1.length + 1 := by rw [dig_wIc hC (by decide), if_neg (fun z => absurd z.1 (by decide))]; exact e1
      have d2 : dig (wI (wI h1 21 st.2.2.1.length c) 20 1 (nI st.2.2.1.length + 1)) 20 1 = st.2.2.1.length + 1 + 1 := by rw [dig_wIc f1.1 (by decide), if_pos ⟨rfl, rfl⟩, nI_1, eI_nI (by omega)]
      refine T_call (P := fun v h' => v = 1 ∧ h' = wI (wI h1 21 st.2.2.1.length c) 20 1 (nI st.2.2.1.length + 1)) ?_ fun v h2 p => ?_
      · have c1 : nI st.2.2.1.length < (120 : Int32) := Int32.not_le.mp (nI_ge (b := 120) lt (by decide))
        rw [c_chk hC (by decide) (by decide), c_gI hC (by decide) (by decide) (by decide), dig_gi e1, T_ifp c1, c_gA hC (by decide) (by decide), cr_20_0, c_gI hC (by decide) (by decide) (by decide), dig_gi e1, e8, c_tI hC (by decide) (by decide) (by rw [cl_21]; omega), c_gI f1.1 (by decide) (by decide) (by decide), dig_gi d1, c_sI f1.1 (by decide) (by decide) (by decide), T_pp]
        exact ⟨rfl, rfl⟩
      · obtain ⟨rfl, rfl⟩ := p
        have hC2 := f2.1
        rw [T_ifn (by decide), c_gA hC2 (by decide) (by decide), cr_0_4, c_gI hC2 (by decide) (by decide) (by decide), dig_gi d2, T_pp]
        have hl : (st.2.2.1 ++ [c]).length = st.2.2.1.length + 1 := by simp
        refine ⟨rfl, q.fc f2 (fun x hx => ?_) ⟨by omega, by rw [hl]; exact d2, fun i hi => ?_⟩ (Cn.fc q.2.2.2.2.2.2.2.1 hC f2 (by decide))⟩
        · unfold okS11
          simp only [List.mem_cons, List.not_mem_nil, or_false] at hx
          omega
        · rw [hl] at hi
          rw [gi_wIc f1.1 (by decide), if_neg (fun z => absurd z.1 (by decide)), gi_wIc hC (by decide)]
          by_cases ci : i = st.2.2.1.length
          · have eg : (st.2.2.1 ++ [c]).getD i 0 = c := by rw [ci]; simp
            rw [if_pos ⟨rfl, ci⟩]
            dsimp only
            rw [eg]
            exact ⟨rfl, r⟩
          · have eg : (st.2.2.1 ++ [c]).getD i 0 = st.2.2.1.getD i 0 := by
              rw [List.getD_eq_getElem?_getD, List.getD_eq_getElem?_getD, List.getElem?_append_left (by omega)]
            rw [if_neg (fun z => ci z.2)]
            dsimp only
            rw [eg]
            exact ht.2.2 i (by omega)
  · rw [if_neg r, if_neg r, T_ifp rfl]
    refine T_call (C_ref2 q) fun v h2 p => ?_
    rw [T_pp]
    exact p
end C16
