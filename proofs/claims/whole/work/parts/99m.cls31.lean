section C31
variable {h h' : PH} {N bu : Nat}
theorem opv_0 {o : Int32 × (Nat → Int64)} {g : Sg} (h1 : 1 ≤ g.1) (h2 : g.1 ≤ 25) (ho : oOK o g) : (o.1 = 0 → 0 ≤ opv o g.1) ∧ (o.1 ≠ 0 → ¬ 0 ≤ opv o g.1) := by
  have n := tb_n h1 h2
  unfold opv
  constructor
  · intro z
    rw [if_pos z]
    exact nI_le (a := 0) (Nat.zero_le _) (by have := cnz_le o.2 (dim g.1); omega)
  · intro z
    rw [if_neg z]
    rcases ho.1 with y | y | y
    · exact absurd y z
    · rw [y]; decide
    · rw [y]; decide
theorem CmdAt.kp {k : Nat} {c : Cm} (q : CmdAt h k c) (f : Kp h h') : CmdAt h' k c := by
  have e : ∀ a, 20 ≤ a → a ≤ 24 → gi h' a k = gi h a k := fun a x1 x2 => by unfold gi; rw [f a k x1 x2]
  refine ⟨by rw [e 22 (by decide) (by decide)]; exact q.1, fun z => by rw [e 23 (by decide) (by decide)]; exact q.2.1 z, fun z => by rw [e 24 (by decide) (by decide)]; exact q.2.2 z⟩
theorem C_perform {st : St} {g : Sg} {c : Cm} {k : Nat} (hb : bu ≤ 100000) (hk : k < 60) (q : CR bu h st) (s4 : SAt h 4 g) (hc : CmdAt h k c) : T (fX9_perform 0 (nI k)) h (fun v h' => Kp h h' ∧ CR bu h' st ∧ ((exs c g).1 = 0 → 0 ≤ v ∧ SAt h' 4 (exs c g).2) ∧ ((exs c g).1 ≠ 0 → ¬ 0 ≤ v)) := by
  have hC := q.1
  obtain ⟨a, e0, la, lv, row⟩ := id s4
  have w1 := lv.1
  have w2 := lv.2.1
  obtain ⟨c1, c2, c3⟩ := hc
  unfold fX9_perform exs
  rw [c_chk hC (by decide) (by decide), c_gA hC (by decide) (by decide), cr_0_4, c_gA hC (by decide) (by decide), cr_20_3, c_lI hC (by decide) (by decide) (by rw [cl_23]; exact hk), c_gA hC (by decide) (by decide), cr_0_4, c_gA hC (by decide) (by decide), cr_20_4, c_lI hC (by decide) (by decide) (by rw [cl_24]; exact hk), c_gA hC (by decide) (by decide), cr_0_4, c_gA hC (by decide) (by decide), cr_20_2, c_lI hC (by decide) (by decide) (by rw [cl_22]; exact hk), c1]
  by_cases k43 : c.1 = 43
  · have n110 : ¬ c.1 = 110 := by rw [k43]; decide
    have n122 : ¬ c.1 = 122 := by rw [k43]; decide
    rw [T_ifp k43, if_neg n110, if_pos k43, c2 n122, c3 (Or.inl k43), c_gA hC (by decide) (by decide), cr_0_2]
    refine T_call (c_addMultiple hC s4 c.2.2 c.2.1) fun v h1 p => ?_
    obtain ⟨f, rfl, hs⟩ := p
    have o := opv_0 w1 w2 (oOK_add c.2.2 c.2.1 g)
    rw [T_pp]
    exact ⟨f.kp hC (by decide), q.fc45 (f.sub (by decide)) (s4.any hC f), fun z => ⟨o.1 z, hs z⟩, o.2⟩
  by_cases k110 : c.1 = 110
  · have n122 : ¬ c.1 = 122 := by rw [k110]; decide
    rw [T_ifn k43, T_ifp k110, if_pos k110, c2 n122]
    refine T_call (C_enterK hb c.2.1 q s4) fun v h1 p => ?_
    obtain ⟨kp, q1, ⟨r, rfl, s2⟩ | ⟨r, rfl, s2⟩⟩ := p
    · rw [T_pp, if_pos r]
      exact ⟨kp, q1, fun _ => ⟨nI_le (a := 0) (Nat.zero_le _) (by omega), s2⟩, fun z => absurd rfl z⟩
    · rw [T_pp, if_neg r]
      exact ⟨kp, q1, fun z => absurd (show (-2 : Int32) = 0 from z) (by decide), fun _ => by decide⟩
  by_cases k116 : c.1 = 116
  · have n122 : ¬ c.1 = 122 := by rw [k116]; decide
    rw [T_ifn k43, T_ifn k110, T_ifp k116, if_neg k110, if_neg k43, if_pos k116, c2 n122, c_gA hC (by decide) (by decide), cr_0_2]
    refine T_call (C_applyOp hb c.2.1 q s4) fun v h1 p => ?_
    obtain ⟨kp, q1, rfl, hs⟩ := p
    have o := opv_0 w1 w2 (oOK_apply c.2.1 g)
    rw [T_pp]
    exact ⟨kp, q1, fun z => ⟨o.1 z, hs z⟩, o.2⟩
  by_cases k119 : c.1 = 119
  · have n122 : ¬ c.1 = 122 := by rw [k119]; decide
    rw [T_ifn k43, T_ifn k110, T_ifn k116, T_ifp k119, if_neg k110, if_neg k43, if_neg k116, if_pos k119, c2 n122, c3 (Or.inr k119), c_gA hC (by decide) (by decide), cr_0_2]
    refine T_call (c_addPath hC s4 c.2.1 c.2.2) fun v h1 p => ?_
    obtain ⟨f, rfl, hs⟩ := p
    have o := opv_0 w1 w2 (oOK_walk c.2.1 c.2.2 g)
    rw [T_pp]
    exact ⟨f.kp hC (by decide), q.fc45 (f.sub (by decide)) (s4.any hC f), fun z => ⟨o.1 z, hs z⟩, o.2⟩
  rw [T_ifn k43, T_ifn k110, T_ifn k116, T_ifn k119, if_neg k110, if_neg k43, if_neg k116, if_neg k119, c_gA hC (by decide) (by decide), cr_0_2]
  refine T_call (c_becomeZero hC (Or.inr (Or.inl rfl))) fun v h1 p => ?_
  obtain ⟨rfl, f, z⟩ := p
  have f : Fc [5] h h1 := f
  have s : SAt h1 4 (g.1, fun _ => 0) := ⟨a, by rw [fc_d f hC (by decide) (by decide)]; exact e0, la, lv.fc f (by decide), fun i hi => z i hi⟩
  rw [T_pp]
  exact ⟨f.kp hC (by decide), q.fc45 (f.sub (by decide)) ⟨_, s⟩, fun _ => ⟨by decide, s⟩, fun z => absurd rfl z⟩
theorem C_reads {st : St} (hb : bu ≤ 100000) (q : CR bu h st) : T (fX9_reads 0) h (fun v h' => v = (q_reads st).1 ∧ CR bu h' (q_reads st).2) := by
  have hC := q.1
  have ht : CTx h (fun i => st.2.2.1.getD i 0) st.2.2.1.length := q.2.2.2.2.2.2.1
  unfold fX9_reads q_reads
  rw [c_chk hC (by decide) (by decide), c_gA hC (by decide) (by decide), cr_0_4]
  refine T_call (c_parse hC ht) fun v h1 p => ?_
  obtain ⟨ff, p⟩ := p
  have hC1 := ff.1.1
  have L120 := ht.1
  have q1 : CR bu h1 st := by
    have c0 := q.2.2.2.2.2.2.2.1
    refine q.fc ff.1 (fun x hx => ?_) ⟨L120, by rw [ff.2 1 (by decide)]; exact ht.2.1, fun i hi => by rw [fc_gi ff.1 hC (by decide) (by decide)]; exact ht.2.2 i hi⟩ (c0.fc hC ff.1 (by decide))
    have : x = 20 ∨ x = 22 ∨ x = 23 ∨ x = 24 := by
      simp only [List.mem_cons, List.not_mem_nil, or_false] at hx
      exact hx
    unfold okS11
    omega
  rcases p with ⟨pz, rfl, pL, e⟩ | ⟨cs, rfl, e, l60, d5, cm⟩
  · have n1 : ¬ nI pz = -1 := by
      intro z
      have := congrArg Int32.toInt z
      rw [nI_toInt (by omega)] at this
      have e1 : (-1 : Int32).toInt = -1 := by decide
      omega
    rw [T_ifn n1, T_pp, e]
    exact ⟨rfl, q1⟩
  · rw [T_ifp rfl, c_gA hC1 (by decide) (by decide), cr_0_2, c_gA hC1 (by decide) (by decide), cr_0_1]
    have ws := q.2.1
    obtain ⟨hC1', a1, a2, -, a4, a5, a6, a7, a8, a9⟩ := id q1
    refine T_call (SAt.copy hC1 (Or.inr (Or.inl rfl)) (Or.inl rfl) a2) fun _ h2 p => ?_
    obtain ⟨f2, s2⟩ := p
    have f2 : Fc [4, 5] h1 h2 := f2
    have q2 : CR bu h2 st := q1.fc45 f2 ⟨_, s2⟩
    have k2 : Kp h1 h2 := f2.kp hC1 (by decide)
    refine T_call (P := fun z ha => CR bu ha st ∧ Kp h1 ha ∧ ((z = .inr () ∧ ∃ g, WS g ∧ SAt ha 4 g ∧ exL cs st.1 0 = .inr g) ∨ (∃ k, z = .inl (-1000 - nI k) ∧ exL cs st.1 0 = .inl k))) ?_ fun z ha p => ?_
    · refine T_loop (fun m x ha => ∃ i g, x = nI i ∧ i ≤ cs.length ∧ m = cs.length - i ∧ CR bu ha st ∧ Kp h1 ha ∧ SAt ha 4 g ∧ WS g ∧ exL (cs.drop i) g i = exL cs st.1 0) (fun m x ha I => ?_) fu cs.length (nI 0) h2 (by unfold fu; omega) ⟨0, st.1, rfl, Nat.zero_le _, rfl, q2, k2, s2, ws, rfl⟩
      obtain ⟨i, g, rfl, hi, rfl, qa, ka, sa, wg, ee⟩ := I
      have hCa := qa.1
      have d5a : dig ha 20 5 = cs.length + 1 := by rw [ka 20 5 (by decide) (by decide)]; exact d5
      unfold fX9_reads_B31 fX9_reads_b31
      rw [T_fr, c_gA hCa (by decide) (by decide), cr_0_4, c_gI hCa (by decide) (by decide) (by decide), dig_gi d5a]
      by_cases c : i = cs.length
      · have c1 : nI cs.length ≤ nI i := by rw [c]; exact nI_le (Nat.le_refl _) (by omega)
        rw [T_ifp c1, T_pp]
        refine Or.inr ⟨_, rfl, qa, ka, Or.inl ⟨rfl, g, wg, sa, ?_⟩⟩
        rw [← ee, c, List.drop_length]
        rfl
      · have c1 : ¬ nI cs.length ≤ nI i := nI_ge (by omega) (by omega)
        have hi' : i < cs.length := by omega
        have eg : cs[i]? = some cs[i] := List.getElem?_eq_getElem hi'
        have dr : cs.drop i = cs[i] :: cs.drop (i + 1) := List.drop_eq_getElem_cons hi'
        rw [dr] at ee
        have ee : (if (exs cs[i] g).1 = 0 then exL (cs.drop (i + 1)) (exs cs[i] g).2 (i + 1) else .inl i) = exL cs st.1 0 := ee
        rw [T_ifn c1]
        refine T_call (C_perform hb (by omega) qa sa ((cm i _ eg).kp ka)) fun v hb' p => ?_
        obtain ⟨kb, qb, y1, y2⟩ := p
        by_cases cz : (exs cs[i] g).1 = 0
        · obtain ⟨v0, sb⟩ := y1 cz
          rw [if_pos cz] at ee
          rw [T_ifp v0, T_pp]
          exact Or.inl ⟨_, cs.length - (i + 1), rfl, by omega, i + 1, (exs cs[i] g).2, by rw [nI_succ], by omega, rfl, qb, ka.tr kb, sb, (exs_ok cs[i] wg).2 cz, ee⟩
        · rw [if_neg cz] at ee
          rw [T_ifn (y2 cz), T_pp]
          exact Or.inr ⟨_, rfl, qb, ka.tr kb, Or.inr ⟨i, rfl, ee.symm⟩⟩
    · obtain ⟨qa, ka, ⟨rfl, g, wg, sa, ee⟩ | ⟨k, rfl, ee⟩⟩ := p
      · have hCa := qa.1
        have d5a : dig ha 20 5 = cs.length + 1 := by rw [ka 20 5 (by decide) (by decide)]; exact d5
        rw [e]
        dsimp only
        rw [ee]
        dsimp only
        rw [c_gA hCa (by decide) (by decide), cr_0_4, c_gI hCa (by decide) (by decide) (by decide), dig_gi d5a]
        refine T_call (C_settle qa sa wg (nI_le (a := 0) (Nat.zero_le _) (by omega))) fun v h4 p => ?_
        rw [T_pp]
        exact p
      · rw [e]
        dsimp only
        rw [ee]
        dsimp only
        rw [T_pp]
        exact ⟨rfl, qa⟩
end C31
