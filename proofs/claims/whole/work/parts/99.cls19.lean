section C19
variable {h h' : PH} {N bu : Nat}
theorem C_cuspidal {st : St} (q : CR bu h st) : T (fX9_cuspidal 0) h (fun v h' => v = (q_cuspidal st).1 ∧ CR bu h' (q_cuspidal st).2) := by
  have hC := q.1
  have s2 := q.2.2.1
  obtain ⟨a, e0, la, lv, row⟩ := q.2.2.1
  obtain ⟨F, X, lf⟩ := lv.f
  have n := tb_n lv.1 lv.2.1
  have sh : Sh h 2 7 (clen 2) := c_sh hC (by decide) (by decide)
  have ecus : Int32.ofNat (cus st.1.1) = nI (cus st.1.1) := rfl
  unfold fX9_cuspidal q_cuspidal
  rw [c_chk hC (by decide) (by decide)]
  refine T_call (P := fun z h' => h' = h ∧ ((z = .inr () ∧ ∀ c, c < cus st.1.1 → bd st.1.1 st.1.2 c (dim st.1.1) = 0) ∨ (z = .inl 0 ∧ ∃ c, c < cus st.1.1 ∧ bd st.1.1 st.1.2 c (dim st.1.1) ≠ 0))) ?_ (fun z ha p => ?_)
  · refine T_loop (fun m x ha => ha = h ∧ ∃ i, x = nI i ∧ i ≤ cus st.1.1 ∧ m = cus st.1.1 - i ∧ ∀ j, j < i → bd st.1.1 st.1.2 j (dim st.1.1) = 0) (fun m x ha p => ?_) fu (cus st.1.1) (nI 0) h (by unfold fu; omega) ⟨rfl, 0, rfl, by omega, by omega, fun j hj => by omega⟩
    obtain ⟨rfl, i, rfl, hi, rfl, hj⟩ := p
    unfold fX9_cuspidal_B2 fX9_cuspidal_b2
    rw [T_fr, c_gA hC (by decide) (by decide), cr_0_1, t_gA sh (by decide) e0, v_gI lf.2.2.1, ecus]
    by_cases c : i = cus st.1.1
    · have c1 : nI (cus st.1.1) ≤ nI i := by rw [c]; exact nI_le (Nat.le_refl _) (by omega)
      rw [T_ifp c1, T_pp]
      exact Or.inr ⟨_, rfl, rfl, Or.inl ⟨rfl, fun k hk => hj k (by omega)⟩⟩
    · have c1 : ¬ nI (cus st.1.1) ≤ nI i := nI_ge (by omega) (by omega)
      rw [T_ifn c1, c_gA hC (by decide) (by decide), cr_0_1]
      refine T_call (c_boundaryAt hC s2 (c := i) (by omega)) fun v h2 p => ?_
      obtain ⟨rfl, rfl⟩ := p
      rw [T_ite, T_pp, T_pp]
      refine ⟨fun z => Or.inl ⟨_, cus st.1.1 - (i + 1), rfl, by omega, rfl, i + 1, by rw [nI_succ], by omega, rfl, fun j hj2 => ?_⟩, fun z => Or.inr ⟨_, rfl, rfl, Or.inr ⟨rfl, i, by omega, ?_⟩⟩⟩
      · rw [cmp_eq] at z
        by_cases cj : j = i
        · rw [cj]; exact z
        · exact hj j (by omega)
      · rw [cmp_eq] at z
        exact z
  · obtain ⟨rfl, p⟩ := p
    rcases p with ⟨rfl, p⟩ | ⟨rfl, c, hc, p⟩
    · dsimp only
      have e : cuB st.1.1 st.1.2 = true := allN_of fun k hk => decide_eq_true (p k hk)
      rw [T_pp, if_pos e]
      exact ⟨rfl, q⟩
    · dsimp only
      have e : ¬ cuB st.1.1 st.1.2 = true := fun z => p (of_decide_eq_true (allN_at z c hc))
      rw [T_pp, if_neg e]
      exact ⟨rfl, q⟩
end C19
