/-- Euclid's steps -/
noncomputable def es (n : Nat) : Nat → Nat → Nat := @Nat.rec (fun _ => Nat → Nat → Nat) (fun _ _ => 0) (fun _ ih u d => bif Nat.beq d 0 then 0 else ih d (u % d) + 1) n
theorem es_all : allN 100 (fun u => allN 100 fun d => Nat.ble (es 100 u d) 60) = true := by decide +kernel
section C6
variable {h h' : PH} {N : Nat}
theorem es_s (n u d : Nat) (hd : d ≠ 0) : es (n + 1) u d = es n d (u % d) + 1 := by
  show (bif Nat.beq d 0 then 0 else es n d (u % d) + 1) = _
  have : Nat.beq d 0 = false := by
    cases e : Nat.beq d 0 with
    | false => rfl
    | true => exact absurd (Nat.eq_of_beq_eq_true e) hd
  rw [this]
  rfl
theorem c_findAdds {g : Sg} {a : Nat} (hC : CW h) (q : SAt h 4 g) (e0 : dig h 4 0 = a + 2) (c d : Int32) {α : Type} {k : PM α} {Q : α → PH → Prop} (hk : ∀ h', Fc [5] h h' → SAt h' 4 (g.1, adS g.1 (tP g.1 (em c g.1) (em d g.1)) 1 g.2) → T k h' Q) : T (pb (fX3_find a c d) fun v => pb (fX8_addSymbol 4 v 1) fun _ => k) h Q := by
  obtain ⟨a', e0', la, lv, row⟩ := id q
  have : a = a' := by omega
  subst this
  obtain ⟨F, X, lf⟩ := lv.f
  refine T_call (c_find lv.1 lv.2.1 lf c d) fun v h3 p => ?_
  obtain ⟨rfl, rfl⟩ := p
  exact T_call (c_addSymbol hC q (tb_p lv.1 lv.2.1 (em_lt c lv.1) (em_lt d lv.1)) rfl 1) fun _ h4 p => hk h4 p.1 p.2
theorem c_pathLoop {g : Sg} {l : Nat} (hC : CW h) (q : SAt h 4 g) (e0 : dig h 4 0 = l + 2) {a b : Nat} (ha : a ≤ 99) (hb : b ≤ 99) : T (plo (fX8_addPath_B52 4) fu (0, 1, nI a, nI b, 0)) h (fun _ h' => Fc [5] h h' ∧ SAt h' 4 (g.1, wk g.1 100 0 1 (nI a) (nI b) 0 g.2)) := by
  generalize eF : wk g.1 100 0 1 (nI a) (nI b) 0 g.2 = F
  have e60 : es 100 a b ≤ 60 := Nat.le_of_ble_eq_true (allN_at (allN_at es_all a (by omega)) b (by omega))
  refine T_loop (fun n x hc => ∃ q r u d k f m, x = (q, r, nI u, nI d, nI k) ∧ n = d ∧ d < m ∧ u ≤ 99 ∧ d ≤ 99 ∧ k + es m u d ≤ 60 ∧ Fc [5] h hc ∧ SAt hc 4 (g.1, f) ∧ wk g.1 m q r (nI u) (nI d) k f = F) (fun n x hc I => ?_) fu b _ h (by unfold fu; omega) ⟨0, 1, a, b, 0, g.2, 100, rfl, rfl, by omega, ha, hb, by omega, Fc.rf hC _, q, eF⟩
  obtain ⟨q', r, u, d, k, f, m, rfl, rfl, hm, hu, hd, hk, hF, hs, hw⟩ := I
  obtain ⟨m, rfl⟩ : ∃ m', m = m' + 1 := ⟨m - 1, by omega⟩
  have hC1 := hF.1
  have e0' : dig hc 4 0 = l + 2 := by rw [fc_d hF hC (by decide) (by decide)]; exact e0
  have shA : Sh hc 4 7 (clen 4) := c_sh hC1 (by decide) (by decide)
  have k64 : ¬ nI 64 ≤ nI k := nI_ge (by omega) (by decide)
  unfold fX8_addPath_B52 fX8_addPath_b52
  simp only [T_fr]
  rw [show (64 : Int32) = nI 64 from rfl, T_ifn k64]
  by_cases c : n = 0
  · subst c
    rw [T_ifp (show nI 0 = 0 from rfl), T_pp]
    refine Or.inr ⟨(), rfl, hF, ?_⟩
    unfold wk at hw
    rw [if_pos (show nI 0 = 0 from rfl)] at hw
    rw [← hw]
    exact hs
  · have cd : ¬ nI n = 0 := nI_ne0 (by omega) (by omega)
    rw [T_ifn cd, T_ifn cd, T_ifn cd, t_gA shA (by decide) e0']
    have er : nI u - nI u / nI n * nI n = nI (u % n) := pk_rem (by omega) (by omega) (by omega)
    have ep : nI k - nI k / 2 * 2 = nI (k % 2) := pk_rem (d := 2) (by omega) (by decide) (by decide)
    have lt := Nat.mod_lt u (show 0 < n by omega)
    rw [es_s m u n c] at hk
    unfold wk at hw
    rw [if_neg cd, er] at hw
    rw [ep, er]
    by_cases cp : k % 2 = 0
    · rw [cp, T_ifp (by decide)]
      refine c_findAdds hC1 hs e0' _ _ fun hd' f' t' => ?_
      rw [T_pp]
      refine Or.inl ⟨_, u % n, rfl, lt, _, q', n, u % n, k + 1, _, m, by rw [nI_succ], rfl, by omega, by omega, by omega, by omega, hF.tr f', t', ?_⟩
      rw [if_pos cp] at hw
      exact hw
    · rw [show k % 2 = 1 by omega, T_ifn (by decide)]
      refine c_findAdds hC1 hs e0' _ _ fun hd' f' t' => ?_
      rw [T_pp]
      refine Or.inl ⟨_, u % n, rfl, lt, _, q', n, u % n, k + 1, _, m, by rw [nI_succ], rfl, by omega, by omega, by omega, by omega, hF.tr f', t', ?_⟩
      rw [if_neg cp] at hw
      exact hw
theorem c_addPath {g : Sg} (hC : CW h) (q : SAt h 4 g) (a b : Int32) : T (fX8_addPath 4 a b) h (fun r h' => Fc [5] h h' ∧ r = opv (o_walk a b g) g.1 ∧ ((o_walk a b g).1 = 0 → SAt h' 4 (g.1, (o_walk a b g).2))) := by
  obtain ⟨l, e0, la, lv, row⟩ := id q
  have shA : Sh h 4 7 (clen 4) := c_sh hC (by decide) (by decide)
  unfold fX8_addPath o_walk
  rw [c_chk hC (by decide) (by decide)]
  refine T_call (c_within _ _ _) fun r h1 P => ?_
  obtain ⟨rfl, rfl⟩ := P
  rw [show (0 : Int32).toInt = 0 from by decide, show (99 : Int32).toInt = 99 from by decide]
  by_cases c : rg a 0 99
  · rw [if_pos c, T_ifn (by decide)]
    refine T_call (c_within _ _ _) fun r h2 P => ?_
    obtain ⟨rfl, rfl⟩ := P
    rw [show (1 : Int32).toInt = 1 from by decide, show (99 : Int32).toInt = 99 from by decide]
    by_cases c2 : rg b 1 99
    · have cc := And.intro c c2
      rw [if_pos c2, T_ifn (by decide), if_pos cc, t_gA shA (by decide) e0]
      obtain ⟨a, rfl, -, e1, e2⟩ := rg_nat c (by decide) (by decide)
      obtain ⟨b, rfl, -, g1, g2⟩ := rg_nat c2 (by decide) (by decide)
      refine c_findAdds hC q e0 _ _ fun h3 f3 s3 => ?_
      have e03 : dig h3 4 0 = l + 2 := by rw [fc_d f3 hC (by decide) (by decide)]; exact e0
      refine T_call (c_pathLoop f3.1 s3 e03 (a := a) (b := b) (by omega) (by omega)) fun _ h4 P => ?_
      obtain ⟨f4, s4⟩ := P
      refine T_call (c_verdict f4.1 s4) fun r h5 P => ?_
      obtain ⟨rfl, rfl⟩ := P
      rw [T_pp]
      refine ⟨f3.tr f4, ?_, fun _ => s4⟩
      unfold opv
      show (if okB g.1 (w0 (nI a) (nI b) g) = true then nI (cnz (w0 (nI a) (nI b) g) (dim g.1)) else -3) = _
      dsimp only
      by_cases co : okB g.1 (w0 (nI a) (nI b) g) = true
      · rw [if_pos co, if_pos co, if_pos rfl]
      · rw [if_neg co, if_neg co, if_neg (by decide)]
    · rw [if_neg c2, T_ifp rfl, if_neg (fun z => c2 z.2), T_pp]
      exact ⟨Fc.rf hC _, rfl, fun z => by cases z⟩
  · rw [if_neg c, T_ifp rfl, if_neg (fun z => c z.1), T_pp]
    exact ⟨Fc.rf hC _, rfl, fun z => by cases z⟩
/-! the boundary -/
theorem c_edge {a : Nat} {F X : Nat → Nat} (h1 : 1 ≤ N) (h2 : N ≤ 25) (q : LvF h a N F X) {j c : Nat} (hj : j < dim N) (hc : c < 100) : T (fX3_edge a (nI j) (nI c)) h (fun v h' => h' = h ∧ v = ed N j c) := by
  have n := tb_n h1 h2
  have hs := tb_f h1 h2 hj
  have ts := tb_s h1 h2 hs
  have ts2 := tb_s h1 h2 ts.2.2.1
  have rF := q.2.2.2.2.2.2.2.1 j hj
  have rS := (q.2.2.2.2.2.2.1 _ hs)
  have rS2 := (q.2.2.2.2.2.2.1 _ ts.2.2.1)
  have eF : Int32.ofNat (tF N j) = nI (tF N j) := rfl
  have eS : Int32.ofNat (tS N (tF N j)) = nI (tS N (tF N j)) := rfl
  have e1 : ∀ k, Int32.ofNat k = nI k := fun _ => rfl
  unfold fX3_edge ed
  rw [v_chk q.1, v_gA (q.2.2.2.2.1 10 (by decide)), v_lI rF (by omega), v_gA (q.2.2.2.2.1 8 (by decide)), eF, v_lI rS.2.2.2.2.2.1 (by omega), e1]
  by_cases c1 : tK N (tF N j) = c
  · rw [T_ifp (by rw [c1]), if_pos c1, v_gA (q.2.2.2.2.1 8 (by decide)), v_gA (q.2.2.2.2.1 5 (by decide)), v_lI rS.2.2.1 (by omega), eS, v_lI rS2.2.2.2.2.2.1 (by omega), e1]
    by_cases c2 : tK N (tS N (tF N j)) = c
    · rw [T_ifp (by rw [c2]), if_pos c2, T_pp]
      exact ⟨rfl, rfl⟩
    · rw [T_ifn (by rw [nI_eq (by omega) (by omega)]; exact c2), if_neg c2, T_pp]
      exact ⟨rfl, rfl⟩
  · rw [T_ifn (by rw [nI_eq (by omega) (by omega)]; exact c1), if_neg c1, v_gA (q.2.2.2.2.1 8 (by decide)), v_gA (q.2.2.2.2.1 5 (by decide)), v_lI rS.2.2.1 (by omega), eS, v_lI rS2.2.2.2.2.2.1 (by omega), e1]
    by_cases c2 : tK N (tS N (tF N j)) = c
    · rw [T_ifp (by rw [c2]), if_pos c2, T_pp]
      exact ⟨rfl, rfl⟩
    · rw [T_ifn (by rw [nI_eq (by omega) (by omega)]; exact c2), if_neg c2, T_pp]
      exact ⟨rfl, rfl⟩
theorem c_boundaryAt {g : Sg} (hC : CW h) (q : SAt h 2 g) {c : Nat} (hc : c < 100) : T (fX8_boundaryAt 2 (nI c)) h (fun v h' => h' = h ∧ v = bd g.1 g.2 c (dim g.1)) := by
  obtain ⟨a, e0, la, lv, row⟩ := q
  have row : ∀ i, i < 9 → gj h 3 i = g.2 i := row
  have w1 := lv.1
  have w2 := lv.2.1
  have n := tb_n w1 w2
  obtain ⟨F, X, lf⟩ := lv.f
  have shA : Sh h 2 7 (clen 2) := c_sh hC (by decide) (by decide)
  have edim : Int32.ofNat (dim g.1) = nI (dim g.1) := rfl
  unfold fX8_boundaryAt
  rw [c_chk hC (by decide) (by decide)]
  refine T_call (P := fun v h' => h' = h ∧ v = bd g.1 g.2 c (dim g.1)) ?_ (fun _ ha p => by rw [T_pp]; exact p)
  refine T_forS (dim g.1) (fun m v h' => h' = h ∧ v = bd g.1 g.2 c m) (fun i v ha hi hI => ?_) (fun v ha hI => ?_) (by omega) (i0 := 0) (by omega) ⟨rfl, rfl⟩
  · obtain ⟨rfl, rfl⟩ := hI
    have c1 : ¬ nI (dim g.1) ≤ nI i := nI_ge hi (by omega)
    unfold fX8_boundaryAt_B5 fX8_boundaryAt_b5
    rw [T_frJ, T_fr]
    dsimp only
    rw [t_gA shA (by decide) e0, v_gI lf.2.2.2.1, edim, T_ifn c1, c_gA hC (by decide) (by decide), cr_2_1, c_lJ hC (by decide) (by decide) (by rw [cl_3]; omega), row i (by omega), t_gA shA (by decide) e0]
    refine T_call (c_edge w1 w2 lf hi hc) fun v hb p => ?_
    obtain ⟨rfl, rfl⟩ := p
    rw [T_pp]
    refine ⟨_, ?_, rfl, rfl⟩
    rw [nI_succ, Int64.mul_comm]
    rfl
  · obtain ⟨rfl, rfl⟩ := hI
    have c1 : nI (dim g.1) ≤ nI (dim g.1) := nI_le (Nat.le_refl _) (by omega)
    unfold fX8_boundaryAt_B5 fX8_boundaryAt_b5
    rw [T_frJ, T_fr]
    dsimp only
    rw [t_gA shA (by decide) e0, v_gI lf.2.2.2.1, edim, T_ifp c1, T_pp]
    exact ⟨_, rfl, rfl, rfl⟩
end C6
