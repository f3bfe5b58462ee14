section C15
variable {h h' : PH} {N bu : Nat}
theorem SAt.any {g : Sg} (q : SAt h 4 g) (hC : CW h) (f : Fc [5] h h') : ∃ g', SAt h' 4 g' := by
  obtain ⟨a, e0, la, lv, row⟩ := q
  exact ⟨(g.1, fun i => gj h' (cref 4 1) i), a, by rw [fc_d f hC (by decide) (by decide)]; exact e0, la, lv.fc f (by decide), fun i hi => rfl⟩
/-- a call that tries, and settles -/
theorem C_do {st : St} {o : Int32 × (Nat → Int64)} {cx : Nat → PM Int32} (ho : oOK o st.1) (hcx : ∀ h1, CR bu h1 st → SAt h1 4 st.1 → T (cx 4) h1 (fun r h' => Fc [5] h1 h' ∧ r = opv o st.1.1 ∧ (o.1 = 0 → SAt h' 4 (st.1.1, o.2)))) (q : CR bu h st) : T (pb (fX8_copyFrom 4 2) fun _ => pb (gA 8 2 0) fun v5 => pb (cx v5) fun v6 => pb (fX9_settle 0 v6) fun v8 => pp v8) h (fun v h' => v = (q_do o st).1 ∧ CR bu h' (q_do o st).2) := by
  refine T_call (C_try q) fun _ h1 p => ?_
  obtain ⟨q1, s1⟩ := p
  have hC1 := q1.1
  rw [c_gA hC1 (by decide) (by decide), cr_0_2]
  refine T_call (hcx h1 q1 s1) fun r h2 p => ?_
  obtain ⟨f, rfl, hs⟩ := p
  have q2 : CR bu h2 st := by
    obtain ⟨hC, a1, a2, -, a4, a5, a6, a7, a8, a9⟩ := q1
    exact ⟨f.1, a1, a2.fc hC f (Or.inl rfl) (by decide) (by decide) (by decide), s1.any hC f, a4.fc2 hC f (by decide), a5, CTx.fr a6 hC f (by decide) (by decide), a7.fc hC f (by decide), a8.fc f hC (by decide), a9.fc hC f (by decide)⟩
  have wz := ho.2 q2.2.1.2.2
  have w1 := q2.2.1.1
  have w2 := q2.2.1.2.1
  have n := tb_n w1 w2
  unfold q_do opv
  by_cases c : o.1 = 0
  · rw [if_pos c, if_pos c]
    have e16 : cnz o.2 16 = cnz o.2 (dim st.1.1) := by
      have := cnz_ext wz (16 - dim st.1.1)
      rw [show dim st.1.1 + (16 - dim st.1.1) = 16 by omega] at this
      exact this
    have hx : (0 : Int32) ≤ nI (cnz o.2 (dim st.1.1)) := nI_le (Nat.zero_le _) (by have := cnz_le o.2 (dim st.1.1); omega)
    refine T_call (C_settle q2 (hs c) ⟨w1, w2, wz⟩ hx) fun v h3 p => ?_
    rw [T_pp, e16]
    exact p
  · rw [if_neg c, if_neg c]
    unfold fX9_settle
    by_cases c2 : o.1 = -2
    · rw [if_pos c2, c2]
      refine T_call (P := fun v h' => v = -2 ∧ CR bu h' (rf2 st)) ?_ fun v h3 p => by rw [T_pp]; exact p
      rw [c_chk q2.1 (by decide) (by decide), T_ifn (by decide)]
      refine T_call (C_ref2 q2) fun v h3 p => by rw [T_pp]; exact p
    · have c3 : o.1 = -3 := by
        rcases ho.1 with z | z | z
        · exact absurd z c
        · exact absurd z c2
        · exact z
      rw [if_neg c2, c3]
      refine T_call (P := fun v h' => v = -3 ∧ CR bu h' (rf3 st)) ?_ fun v h3 p => by rw [T_pp]; exact p
      rw [c_chk q2.1 (by decide) (by decide), T_ifn (by decide)]
      refine T_call (C_ref3 q2) fun v h3 p => by rw [T_pp]; exact p
theorem C_adds {st : St} (s v : Int32) (q : CR bu h st) : T (fX9_adds 0 s v) h (fun r h' => r = (q_do (o_add s v st.1) st).1 ∧ CR bu h' (q_do (o_add s v st.1) st).2) := by
  have hC := q.1
  have key := C_do (cx := fun x => fX8_addMultiple x s v) (oOK_add s v st.1) (fun h1 q1 s1 => c_addMultiple q1.1 s1 s v) q
  unfold fX9_adds
  rw [c_chk hC (by decide) (by decide), c_gA hC (by decide) (by decide), cr_0_2, c_gA hC (by decide) (by decide), cr_0_1]
  exact key
theorem C_walks {st : St} (s v : Int32) (q : CR bu h st) : T (fX9_walks 0 s v) h (fun r h' => r = (q_do (o_walk s v st.1) st).1 ∧ CR bu h' (q_do (o_walk s v st.1) st).2) := by
  have hC := q.1
  have key := C_do (cx := fun x => fX8_addPath x s v) (oOK_walk s v st.1) (fun h1 q1 s1 => c_addPath q1.1 s1 s v) q
  unfold fX9_walks
  rw [c_chk hC (by decide) (by decide), c_gA hC (by decide) (by decide), cr_0_2, c_gA hC (by decide) (by decide), cr_0_1]
  exact key
end C15
