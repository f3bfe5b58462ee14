section C13
variable {h h' : PH} {N bu : Nat}
theorem Cn.fc {S : List Nat} {c : Int32 × Int32 × Int32} (q : Cn h c) (hC : CW h) (f : Fc S h h') (hs : 0 ∉ S) : Cn h' c := ⟨by rw [fc_gi f hC (by decide) hs]; exact q.1, by rw [fc_gi f hC (by decide) hs]; exact q.2.1, by rw [fc_gi f hC (by decide) hs]; exact q.2.2⟩
theorem NwAt.fc {S : List Nat} (q : NwAt h) (hC : CW h) (f : Fc S h h') (hs : 26 ∉ S) : NwAt h' := fun m hm => by
  rw [fc_gi f hC (by decide) hs]
  exact q m hm
theorem C_back {st : St} (q : CR bu h st) : T (fX9_back 0) h (fun v h' => v = (q_back st).1 ∧ CR bu h' (q_back st).2) := by
  have q0 := q
  obtain ⟨hC, a1, a2, ⟨gt, a3⟩, a4, a5, a6, a7, a8, a9⟩ := q
  have e6 : dig h 6 1 = st.2.1.length + 1 := a4.2.1
  have l6 := a4.1
  unfold fX9_back q_back
  rw [c_chk hC (by decide) (by decide), c_gA hC (by decide) (by decide), cr_0_3, c_gI hC (by decide) (by decide) (by decide), dig_gi e6]
  by_cases c : st.2.1.length = 0
  · have c1 : nI st.2.1.length = 0 := by rw [c]; rfl
    rw [if_pos c, T_ifp c1]
    refine T_call (C_ref3 q0) fun v h2 p => ?_
    rw [T_pp]
    exact p
  · have c1 : ¬ nI st.2.1.length = 0 := nI_ne0 (by omega) (by omega)
    rw [if_neg c, T_ifn c1, c_gA hC (by decide) (by decide), cr_0_3, c_gA hC (by decide) (by decide), cr_0_1]
    obtain ⟨l, g, e⟩ : ∃ l g, st.2.1 = l ++ [g] := by
      have hne : st.2.1 ≠ [] := fun z => c (by rw [z]; rfl)
      exact ⟨_, _, (List.dropLast_concat_getLast hne).symm⟩
    have x1 : st.2.1.getLastD st.1 = g := by rw [e]; simp
    have x2 : st.2.1.dropLast = l := by rw [e]; simp
    have x3 : st.2.1.length - 1 = l.length := by rw [e]; simp
    rw [x1, x2, x3]
    rw [e] at a4
    refine T_call (c_restore hC a4) fun _ h2 p => ?_
    obtain ⟨f, p1, p2⟩ := p
    have hC2 := f.1
    have m6 : dig h2 6 1 = l.length + 1 := p2.2.1
    rw [c_gA hC2 (by decide) (by decide), cr_0_3, c_gI hC2 (by decide) (by decide) (by decide), dig_gi m6, T_pp]
    have wg : WS g := a5 g (by rw [e]; exact List.mem_append_right _ (List.mem_singleton.mpr rfl))
    have wl : ∀ s ∈ l, WS s := fun s hs => a5 s (by rw [e]; exact List.mem_append_left _ hs)
    exact ⟨rfl, hC2, wg, p1, ⟨gt, a3.fc hC f (Or.inr (Or.inl rfl)) (by decide) (by decide) (by decide)⟩, p2, wl, CTx.fr a6 hC f (by decide) (by decide), a7.fc hC f (by decide), a8.fc f hC (by decide), a9.fc hC f (by decide)⟩
end C13
