section C21
variable {h h' : PH} {N bu : Nat}
theorem C_pair {st : St} (c d : Int32) (q : CR bu h st) : T (fX9_pair 0 c d) h (fun v h' => v = (q_pair c d st).1 ∧ CR bu h' (q_pair c d st).2) := by
  have hC := q.1
  obtain ⟨a, e0, la, lv, row⟩ := q.2.2.1
  obtain ⟨F, X, lf⟩ := lv.f
  unfold fX9_pair q_pair
  rw [c_chk hC (by decide) (by decide)]
  refine T_call (c_within _ _ _) fun v h1 p => ?_
  obtain ⟨rfl, rfl⟩ := p
  rw [show (-9999 : Int32).toInt = -9999 from by decide, show (9999 : Int32).toInt = 9999 from by decide]
  by_cases r : rg c (-9999) 9999
  · rw [if_pos r, T_ifn (by decide)]
    refine T_call (c_within _ _ _) fun v h2 p => ?_
    obtain ⟨rfl, rfl⟩ := p
    rw [show (-9999 : Int32).toInt = -9999 from by decide, show (9999 : Int32).toInt = 9999 from by decide]
    by_cases r2 : rg d (-9999) 9999
    · rw [if_pos r2, if_pos (And.intro r r2), T_ifn (by decide), c_gA hC (by decide) (by decide), cr_0_1, t_gA (c_sh hC (by decide) (by decide) : Sh h2 2 7 (clen 2)) (by decide) e0]
      refine T_call (c_find lv.1 lv.2.1 lf c d) fun v h3 p => ?_
      obtain ⟨rfl, rfl⟩ := p
      rw [T_pp]
      exact ⟨rfl, q⟩
    · have nn : ¬ (rg c (-9999) 9999 ∧ rg d (-9999) 9999) := fun z => r2 z.2
      rw [if_neg r2, if_neg nn, T_ifp rfl]
      refine T_call (C_ref2 q) fun v h3 p => ?_
      rw [T_pp]
      exact p
  · have nn : ¬ (rg c (-9999) 9999 ∧ rg d (-9999) 9999) := fun z => r z.1
    rw [if_neg r, if_neg nn, T_ifp rfl]
    refine T_call (C_ref2 q) fun v h3 p => ?_
    rw [T_pp]
    exact p
theorem C_fraction {st : St} (s i w : Int32) (q : CR bu h st) : T (fX9_fraction 0 s i w) h (fun v h' => v = (q_fraction s i w st).1 ∧ CR bu h' (q_fraction s i w st).2) := by
  have hC := q.1
  obtain ⟨a, e0, la, lv, row⟩ := q.2.2.1
  obtain ⟨F, X, lf⟩ := lv.f
  have n := tb_n lv.1 lv.2.1
  unfold fX9_fraction q_fraction
  rw [c_chk hC (by decide) (by decide), c_gA hC (by decide) (by decide), cr_0_1, t_gA (c_sh hC (by decide) (by decide) : Sh h 2 7 (clen 2)) (by decide) e0]
  refine T_call (c_hasSymbol lv.1 lv.2.1 lf s) fun v h1 p => ?_
  obtain ⟨rfl, rfl⟩ := p
  by_cases r : rg s 0 ((cnt st.1.1 : Int) - 1)
  · obtain ⟨es, x1, x2⟩ := rg_nI r (by decide)
    rw [if_pos r, T_ifn (by decide)]
    refine T_call (c_hasCoordinate lv.1 lv.2.1 lf i) fun v h2 p => ?_
    obtain ⟨rfl, rfl⟩ := p
    by_cases r1 : rg i 0 ((dim st.1.1 : Int) - 1)
    · obtain ⟨ei, z1, z2⟩ := rg_nI r1 (by decide)
      rw [if_pos r1, T_ifn (by decide)]
      refine T_call (c_within _ _ _) fun v h2 p => ?_
      obtain ⟨rfl, rfl⟩ := p
      rw [show (0 : Int32).toInt = 0 from by decide, show (1 : Int32).toInt = 1 from by decide]
      by_cases r2 : rg w 0 1
      · obtain ⟨ew, y1, y2⟩ := rg_nI r2 (by decide)
        rw [if_pos r2, if_pos (And.intro r (And.intro r1 r2)), T_ifn (by decide)]
        by_cases c0 : ti w = 0
        · have w0 : w = 0 := by rw [ew, c0]; rfl
          have hs : ti s < cnt st.1.1 := by omega
          have hi : ti i < dim st.1.1 := by omega
          obtain ⟨o1, o2⟩ := lf.2.2.2.2.2.2.2.2.1 (ti s) hs
          have o3 := o2 (ti i) hi
          obtain ⟨v, hv⟩ := dgI_s 1 (tX st.1.1 (ti s) (ti i))
          rw [hv] at o3
          rw [T_ifp w0, if_pos c0, v_gA (lf.2.2.2.2.1 13 (by decide)), es, v_lA o1 (by omega), ei, v_lI o3 (by omega), T_pp, ← es, ← ei]
          have ev : Int32.ofNat v = Int32.ofNat (dgI 1 (tX st.1.1 (ti s) (ti i)) - 1) := by rw [hv]; rfl
          rw [ev, xc (tb_x lv.1 lv.2.1 hs hi)]
          exact ⟨rfl, q⟩
        · have w0 : ¬ w = 0 := fun z => c0 (by rw [z]; rfl)
          rw [T_ifn w0, if_neg c0, T_pp]
          exact ⟨rfl, q⟩
      · have nn : ¬ (rg s 0 ((cnt st.1.1 : Int) - 1) ∧ rg i 0 ((dim st.1.1 : Int) - 1) ∧ rg w 0 1) := fun z => r2 z.2.2
        rw [if_neg r2, if_neg nn, T_ifp rfl]
        refine T_call (C_ref2 q) fun v h3 p => ?_
        obtain ⟨rfl, p⟩ := p
        rw [T_pp]
        exact ⟨rfl, p⟩
    · have nn : ¬ (rg s 0 ((cnt st.1.1 : Int) - 1) ∧ rg i 0 ((dim st.1.1 : Int) - 1) ∧ rg w 0 1) := fun z => r1 z.2.1
      rw [if_neg r1, if_neg nn, T_ifp rfl]
      refine T_call (C_ref2 q) fun v h3 p => ?_
      obtain ⟨rfl, p⟩ := p
      rw [T_pp]
      exact ⟨rfl, p⟩
  · have nn : ¬ (rg s 0 ((cnt st.1.1 : Int) - 1) ∧ rg i 0 ((dim st.1.1 : Int) - 1) ∧ rg w 0 1) := fun z => r z.1
    rw [if_neg r, if_neg nn, T_ifp rfl]
    refine T_call (C_ref2 q) fun v h3 p => ?_
    obtain ⟨rfl, p⟩ := p
    rw [T_pp]
    exact ⟨rfl, p⟩
/-- free symbols whose boundary is 0, counted -/
noncomputable def clC (N : Nat) : Nat → Nat := @Nat.rec (fun _ => Nat) 0 (fun k ih => bif Nat.beq (tK N (tF N k)) (tK N (tS N (tF N k))) then ih + 1 else ih)
theorem clC_s (N k : Nat) : clC N (k + 1) = if tK N (tF N k) = tK N (tS N (tF N k)) then clC N k + 1 else clC N k := by
  show (bif Nat.beq (tK N (tF N k)) (tK N (tS N (tF N k))) then clC N k + 1 else clC N k) = _
  by_cases c : tK N (tF N k) = tK N (tS N (tF N k))
  · rw [if_pos c, c, Nat.beq_refl]
    rfl
  · rw [if_neg c]
    cases e : Nat.beq (tK N (tF N k)) (tK N (tS N (tF N k))) with
    | false => rfl
    | true => exact absurd (Nat.eq_of_beq_eq_true e) c
theorem clC_all : allN 26 (fun N => Nat.beq (clC N (dim N)) (clo N)) = true := by decide +kernel
theorem clC_le (N : Nat) : ∀ k, clC N k ≤ k
  | 0 => Nat.le_refl 0
  | k + 1 => by
    rw [clC_s]
    have := clC_le N k
    split <;> omega
theorem c_closed {a : Nat} {F X : Nat → Nat} (h1 : 1 ≤ N) (h2 : N ≤ 25) (q : LvF h a N F X) : T (fX3_closedSymbols a) h (fun v h' => h' = h ∧ v = nI (clo N)) := by
  have n := tb_n h1 h2
  have e1 : ∀ k, Int32.ofNat k = nI k := fun _ => rfl
  have ec : clC N (dim N) = clo N := Nat.eq_of_beq_eq_true (allN_at clC_all N (by omega))
  unfold fX3_closedSymbols
  rw [v_chk q.1]
  refine T_call (P := fun z h' => h' = h ∧ z = nI (clo N)) ?_ fun z h1 p => by rw [T_pp]; exact p
  refine T_forS (dim N) (fun m v h' => h' = h ∧ v = nI (clC N m)) (fun i v ha hi hI => ?_) (fun v ha hI => ?_) (by omega) (i0 := 0) (by omega) ⟨rfl, rfl⟩
  · obtain ⟨rfl, rfl⟩ := hI
    have hs := tb_f h1 h2 hi
    have ts := tb_s h1 h2 hs
    have ts2 := tb_s h1 h2 ts.2.2.1
    have rF := q.2.2.2.2.2.2.2.1 i hi
    have rS := (q.2.2.2.2.2.2.1 _ hs)
    have rS2 := (q.2.2.2.2.2.2.1 _ ts.2.2.1)
    have c1 : ¬ nI (dim N) ≤ nI i := nI_ge hi (by omega)
    have cl := clC_le N i
    unfold fX3_closedSymbols_B4 fX3_closedSymbols_b4
    rw [T_fr, T_fr]
    dsimp only
    rw [v_gI q.2.2.2.1, e1, T_ifn c1, v_gA (q.2.2.2.2.1 8 (by decide)), v_gA (q.2.2.2.2.1 10 (by decide)), v_lI rF (by omega), e1, v_lI rS.2.2.2.2.2.1 (by omega), v_gA (q.2.2.2.2.1 8 (by decide)), v_gA (q.2.2.2.2.1 5 (by decide)), v_gA (q.2.2.2.2.1 10 (by decide)), v_lI rF (by omega), e1, v_lI rS.2.2.1 (by omega), e1, v_lI rS2.2.2.2.2.2.1 (by omega), e1, e1]
    by_cases c2 : tK N (tF N i) = tK N (tS N (tF N i))
    · have c3 : nI (tK N (tF N i)) = nI (tK N (tS N (tF N i))) := by rw [c2]
      rw [T_ifp c3, T_pp]
      refine ⟨_, by rw [nI_succ], rfl, ?_⟩
      rw [clC_s, if_pos c2, nI_succ]
    · have c3 : ¬ nI (tK N (tF N i)) = nI (tK N (tS N (tF N i))) := by rw [nI_eq (by omega) (by omega)]; exact c2
      rw [T_ifn c3, T_pp]
      refine ⟨_, by rw [nI_succ], rfl, ?_⟩
      rw [clC_s, if_neg c2]
  · obtain ⟨rfl, rfl⟩ := hI
    have c1 : nI (dim N) ≤ nI (dim N) := nI_le (Nat.le_refl _) (by omega)
    unfold fX3_closedSymbols_B4 fX3_closedSymbols_b4
    rw [T_fr, T_fr]
    dsimp only
    rw [v_gI q.2.2.2.1, e1, T_ifp c1, T_pp]
    exact ⟨_, rfl, rfl, by rw [ec]⟩
theorem C_space {st : St} (w : Int32) (q : CR bu h st) : T (fX9_space 0 w) h (fun v h' => v = (q_space w st).1 ∧ (rg w 0 3 → h' = h) ∧ CR bu h' (q_space w st).2) := by
  have hC := q.1
  obtain ⟨a, e0, la, lv, row⟩ := q.2.2.1
  obtain ⟨F, X, lf⟩ := lv.f
  have n := tb_n lv.1 lv.2.1
  have lit : ∀ n, n < 4 → w = nI n → rg w 0 3 ∧ ti w = n := by
    intro n hn e
    have e2 : w.toInt = (n : Int) := by rw [e]; exact nI_toInt (by omega)
    refine ⟨⟨by omega, by omega⟩, ?_⟩
    unfold ti
    omega
  unfold fX9_space q_space
  rw [c_chk hC (by decide) (by decide), c_gA hC (by decide) (by decide), cr_0_1, t_gA (c_sh hC (by decide) (by decide) : Sh h 2 7 (clen 2)) (by decide) e0]
  by_cases c0 : w = 0
  · obtain ⟨r, t⟩ := lit 0 (by decide) c0
    rw [if_pos r, t, T_ifp c0, v_gI lf.2.2.2.1, T_pp]
    exact ⟨rfl, fun _ => rfl, q⟩
  by_cases c1 : w = 1
  · obtain ⟨r, t⟩ := lit 1 (by decide) c1
    rw [if_pos r, t, T_ifn c0, T_ifp c1, v_gI lf.2.2.1, T_pp]
    exact ⟨rfl, fun _ => rfl, q⟩
  by_cases c2 : w = 2
  · obtain ⟨r, t⟩ := lit 2 (by decide) c2
    obtain ⟨c, x, o1, o2⟩ := lf.2.2.2.2.2.2.2.2.2
    have al' : (aln c).1 h = some (nI (cyc st.1.1), h) := by
      unfold aln
      simp only [o2]
      rfl
    rw [if_pos r, t, T_ifn c0, T_ifn c1, T_ifp c2, v_gA (lf.2.2.2.2.1 14 (by decide)), v_gA o1]
    refine T_call (P := fun v h' => h' = h ∧ v = nI (cyc st.1.1)) ⟨_, _, al', rfl, rfl⟩ fun v h1 p => ?_
    obtain ⟨rfl, rfl⟩ := p
    rw [T_pp]
    refine ⟨?_, fun _ => rfl, q⟩
    show nI (cyc st.1.1) / 2 = nI (cyc st.1.1 / 2)
    exact pk_div (d := 2) (by omega) (by decide) (by decide)
  by_cases c3 : w = 3
  · obtain ⟨r, t⟩ := lit 3 (by decide) c3
    rw [if_pos r, t, T_ifn c0, T_ifn c1, T_ifn c2, T_ifp c3]
    refine T_call (c_closed lv.1 lv.2.1 lf) fun v h1 p => ?_
    obtain ⟨rfl, rfl⟩ := p
    rw [T_pp]
    exact ⟨rfl, fun _ => rfl, q⟩
  have nr : ¬ rg w 0 3 := by
    intro r
    obtain ⟨e, x1, x2⟩ := rg_nI r (by decide)
    have : ti w = 0 ∨ ti w = 1 ∨ ti w = 2 ∨ ti w = 3 := by omega
    rcases this with z | z | z | z <;> rw [z] at e
    · exact c0 e
    · exact c1 e
    · exact c2 e
    · exact c3 e
  rw [if_neg nr, T_ifn c0, T_ifn c1, T_ifn c2, T_ifn c3]
  refine T_call (C_ref2 q) fun v h2 p => ?_
  rw [T_pp]
  exact ⟨p.1, fun z => absurd z nr, p.2⟩
end C21
