section S8
variable {h h' : PH} {N : Nat}
theorem nI_dg {s : Nat} (hs : s < 1000) : nI s = Int32.ofNat (dgI 1 (s + 1) - 1) := by
  unfold dgI
  rw [show (s + 1 + 4294967296 - 1) % 4294967296 + 1 - 1 = s by omega]
  rfl
theorem adS_z {p : Nat} {t : Int64} {f : Nat → Int64} (hz : ∀ i, dim N ≤ i → f i = 0) : ∀ i, dim N ≤ i → adS N p t f i = 0 := by
  intro i hi
  unfold adS
  rw [if_neg (fun z => by have := z.2; omega)]
  exact hz i hi
def SK : List Nat := [1, 2, 3, 4, 5, 6, 7, 8, 9, 10, 12, 13, 14, 24, 25, 26, 27, 34, 35, 105, 106, 107, 108, 113, 114]
/-- an operation on the sum: 0 or a refusal, and the coordinates as they would be -/
noncomputable def q_do (o : Int32 × (Nat → Int64)) (st : St) : Int32 × St := if o.1 = 0 then (nI (cnz o.2 16), ((st.1.1, o.2), kpp st.2.1 st.1, st.2.2)) else if o.1 = -2 then (-2, rf2 st) else (-3, rf3 st)
def oOK (o : Int32 × (Nat → Int64)) (g : Sg) : Prop := (o.1 = 0 ∨ o.1 = -2 ∨ o.1 = -3) ∧ ((∀ i, dim g.1 ≤ i → g.2 i = 0) → ∀ i, dim g.1 ≤ i → o.2 i = 0)
theorem M_do {st : St} {o : Int32 × (Nat → Int64)} {cx : PM Int32} (ho : oOK o st.1) (hM : MW h) (t : T cx h (fun r h' => r = o.1 ∧ MR h' st ∧ (r = 0 → ThAt h' o.2) ∧ Fr SK h h')) : T (pb (chk 9 0) fun _ => pb cx fun v1 => (@ite _ (0 ≤ v1) (dLe 0 v1) (pb (fX10_keep 0) fun _ => pb (fX10_becomes 0) fun v6 => pp v6) (pb (fX10_refuses 0 v1) fun v8 => pp v8))) h (fun v h' => v = (q_do o st).1 ∧ MR h' (q_do o st).2) := by
  rw [m_chk hM]
  refine T_call t fun r h1 p => ?_
  obtain ⟨rfl, q, ht, -⟩ := p
  unfold q_do
  rcases ho.1 with e | e | e
  · rw [e, T_ifp (by decide), if_pos rfl]
    have ht := ht e
    obtain ⟨a1, a2, a3, a4, a5, a6, a7, a8⟩ := q
    refine T_call (m_keep a1 a4 a3 a2.2.1) fun _ h2 p => ?_
    obtain ⟨f1, k1⟩ := p
    refine T_call (m_becomes f1.1 (ht.fr f1 (by decide) (by decide)) (n0 := st.1.1) (by rw [fr_dr f1 (by decide) (by decide)]; exact a3.1)) fun v h3 p => ?_
    obtain ⟨rfl, f2, s2⟩ := p
    rw [T_pp]
    have f := (f1.sub (S' := [11, 15, 103]) (by decide)).seq f2 (by decide)
    exact ⟨rfl, f.1, ⟨a2.1, a2.2.1, ho.2 a2.2.2⟩, s2, k1.fr f2 (by decide) (by decide), WS_kpp a5 a2, a6.fr f (by decide) (by decide), a7.fr f (by decide), a8.fr f (by decide)⟩
  · rw [e, T_ifn (by decide), if_neg (by decide), if_pos rfl]
    refine T_call (M_ref2 q) fun v h2 p => ?_
    rw [T_pp]
    exact p
  · rw [e, T_ifn (by decide), if_neg (by decide), if_neg (by decide)]
    refine T_call (M_ref3 q) fun v h2 p => ?_
    rw [T_pp]
    exact p
/-! adds -/
noncomputable def o_add (s v : Int32) (g : Sg) : Int32 × (Nat → Int64) := if rg s 0 ((cnt g.1 : Int) - 1) ∧ rg v (-999) 999 then (if okB g.1 (adS g.1 (ti s + 1) v.toInt64 g.2) = true then 0 else -3, adS g.1 (ti s + 1) v.toInt64 g.2) else (-2, g.2)
theorem oOK_add (s v : Int32) (g : Sg) : oOK (o_add s v g) g := by
  unfold o_add
  split
  · refine ⟨?_, fun hz => adS_z hz⟩
    dsimp only
    split
    · exact Or.inl rfl
    · exact Or.inr (Or.inr rfl)
  · exact ⟨Or.inr (Or.inl rfl), fun hz => hz⟩
theorem M_canAdd {st : St} (s v : Int32) (q : MR h st) : T (fX10_canAdd 0 s v) h (fun r h' => r = (o_add s v st.1).1 ∧ MR h' st ∧ (r = 0 → ThAt h' (o_add s v st.1).2) ∧ Fr SK h h') := by
  unfold fX10_canAdd
  have hM := q.1
  have n := tb_n q.2.1.1 q.2.1.2.1
  rw [m_chk hM]
  refine T_call (M_isSymbol s q) fun r h1 p => ?_
  obtain ⟨rfl, q1, ok, f⟩ := p
  unfold o_add
  by_cases c : rg s 0 ((cnt st.1.1 : Int) - 1)
  · rw [if_pos c, T_ifn (by decide)]
    refine T_call (m_inR (a := -999) (b := 999) (by decide) (by decide)) fun r h2 p => ?_
    obtain ⟨rfl, rfl⟩ := p
    by_cases c2 : rg v (-999) 999
    · have cc := And.intro c c2
      rw [if_pos c2, T_ifn (by decide), if_pos cc]
      obtain ⟨s, rfl, e, e1, e2⟩ := rg_nat c (by decide) (by omega)
      refine T_call (m_laysSum q1.1 q1.2.2.1) fun _ h3 p => ?_
      obtain ⟨f3, t3⟩ := p
      have ok3 : okL st.1.1 h3 = true := by rw [okL_fr f3 (by decide)]; exact ok
      refine T_call (m_addsTo f3.1 q1.2.1.1 q1.2.1.2.1 ok3 t3 (p := s + 1) (by omega) (nI_dg (by omega)) _) fun _ h4 p => ?_
      obtain ⟨f4, t4⟩ := p
      have ok4 : okL st.1.1 h4 = true := by rw [okL_fr f4 (by decide)]; exact ok3
      refine T_call (m_canBe f4.1 q1.2.1.1 q1.2.1.2.1 ok4 t4) fun r h5 p => ?_
      obtain ⟨rfl, rfl⟩ := p
      rw [T_pp, e]
      exact ⟨rfl, q1.fr ((f3.sub (S' := [34, 35, 105, 106]) (by decide)).seq f4 (by decide)) (by decide), fun _ => t4, ((f.sub (by decide)).seq f3 (by decide)).seq f4 (by decide)⟩
    · rw [if_neg c2, T_ifp rfl, if_neg (fun z => c2 z.2), T_pp]
      exact ⟨rfl, q1, (fun z => by cases z), f.sub (by decide)⟩
  · rw [if_neg c, T_ifp rfl, if_neg (fun z => c z.1), T_pp]
    exact ⟨rfl, q1, (fun z => by cases z), f.sub (by decide)⟩
theorem M_adds {st : St} (s v : Int32) (q : MR h st) : T (fX10_adds 0 s v) h (fun r h' => r = (q_do (o_add s v st.1) st).1 ∧ MR h' (q_do (o_add s v st.1) st).2) := M_do (oOK_add s v st.1) q.1 (M_canAdd s v q)
/-! walks -/
noncomputable def wk (N : Nat) : Nat → Int32 → Int32 → Int32 → Int32 → Nat → (Nat → Int64) → (Nat → Int64)
  | 0, _, _, _, _, _, f => f
  | n + 1, q, r, u, d, k, f => if d = 0 then f else wk N n (u / d * q + r) q d (u - u / d * d) (k + 1) (adS N (tP N (em (if k % 2 = 0 then -(u / d * q + r) else u / d * q + r) N) (em q N)) 1 f)
theorem wk_z (hz : ∀ f : Nat → Int64, (∀ i, dim N ≤ i → f i = 0) → ∀ p i, dim N ≤ i → adS N p 1 f i = 0) : ∀ n q r u d k f, (∀ i, dim N ≤ i → f i = 0) → ∀ i, dim N ≤ i → wk N n q r u d k f i = 0 := by
  intro n
  induction n with
  | zero => intro q r u d k f hf; exact hf
  | succ n ih =>
    intro q r u d k f hf
    unfold wk
    split
    · exact hf
    · exact ih _ _ _ _ _ _ (fun i hi => hz f hf _ i hi)
noncomputable def w0 (a b : Int32) (g : Sg) : Nat → Int64 := wk g.1 100 0 1 a b 0 (adS g.1 (tP g.1 (em 0 g.1) (em 1 g.1)) 1 g.2)
noncomputable def o_walk (a b : Int32) (g : Sg) : Int32 × (Nat → Int64) := if rg a 0 99 ∧ rg b 1 99 then (if okB g.1 (w0 a b g) = true then 0 else -3, w0 a b g) else (-2, g.2)
theorem oOK_walk (a b : Int32) (g : Sg) : oOK (o_walk a b g) g := by
  unfold o_walk
  split
  · refine ⟨?_, fun hz => ?_⟩
    · dsimp only
      split
      · exact Or.inl rfl
      · exact Or.inr (Or.inr rfl)
    · exact wk_z (fun f hf p i hi => adS_z hf i hi) _ _ _ _ _ _ _ (adS_z hz)
  · exact ⟨Or.inr (Or.inl rfl), fun hz => hz⟩
theorem m_ofAdds (hM : MW h) (h1 : 1 ≤ N) (h2 : N ≤ 25) (h11 : dig h 11 0 = N + 1) (ok : okL N h = true) {f : Nat → Int64} (hf : ThAt h f) (c d : Int32) {α : Type} {k : PM α} {Q : α → PH → Prop} (hk : ∀ h', Fr [34, 35, 105, 106] h h' → ThAt h' (adS N (tP N (em c N) (em d N)) 1 f) → T k h' Q) : T (pb (fX10_of 0 c d) fun v => pb (fX10_addsTo 0 v 1) fun _ => k) h Q := by
  refine T_call (m_of hM h1 h2 h11 ok c d) fun v h3 p => ?_
  obtain ⟨rfl, rfl⟩ := p
  exact T_call (m_addsTo hM h1 h2 ok hf (tb_p h1 h2 (em_lt c h1) (em_lt d h1)) rfl 1) fun _ h4 p => hk h4 p.1 p.2
theorem m_walkLoop (hM : MW h) (h1 : 1 ≤ N) (h2 : N ≤ 25) (h11 : dig h 11 0 = N + 1) (ok : okL N h = true) {f : Nat → Int64} (hf : ThAt h f) {a b : Nat} (ha : a ≤ 99) (hb : b ≤ 99) : T (plo (fX10_canWalk_B61 0) fu (0, 1, nI a, nI b, 0)) h (fun _ h' => Fr [34, 35, 105, 106] h h' ∧ ThAt h' (wk N 100 0 1 (nI a) (nI b) 0 f)) := by
  generalize eF : wk N 100 0 1 (nI a) (nI b) 0 f = F
  refine T_loop (fun n x hc => ∃ q r u d k g m, x = (q, r, nI u, nI d, nI k) ∧ n = d ∧ d < m ∧ u ≤ 99 ∧ d ≤ 99 ∧ k + d ≤ 99 ∧ (k = 0 → q = 0 ∧ r = 1) ∧ Fr [34, 35, 105, 106] h hc ∧ ThAt hc g ∧ wk N m q r (nI u) (nI d) k g = F) (fun n x hc I => ?_) fu b _ h (by unfold fu; omega) ⟨0, 1, a, b, 0, f, 100, rfl, rfl, by omega, ha, hb, by omega, fun _ => ⟨rfl, rfl⟩, Fr.rf hM _, hf, eF⟩
  obtain ⟨q, r, u, d, k, g, m, rfl, rfl, hm, hu, hd, hk, hk0, hF, hg, hw⟩ := I
  obtain ⟨m, rfl⟩ : ∃ m', m = m' + 1 := ⟨m - 1, by omega⟩
  have hM1 := hF.1
  have h11' : dig hc 11 0 = N + 1 := by rw [fr_dr hF (by decide) (by decide)]; exact h11
  have ok' : okL N hc = true := by rw [okL_fr hF (by decide)]; exact ok
  unfold fX10_canWalk_B61 fX10_canWalk_b61
  simp only [T_fr]
  by_cases c : n = 0
  · subst c
    rw [T_ifp (show nI 0 = 0 from rfl), T_pp]
    refine Or.inr ⟨(), rfl, hF, ?_⟩
    unfold wk at hw
    rw [if_pos (show nI 0 = 0 from rfl)] at hw
    rw [← hw]
    exact hg
  · have cd : ¬ nI n = 0 := nI_ne0 (by omega) (by omega)
    rw [T_ifn cd, T_ifn cd, T_ifn cd]
    have er : nI u - nI u / nI n * nI n = nI (u % n) := pk_rem (by omega) (by omega) (by omega)
    have lt := Nat.mod_lt u (show 0 < n by omega)
    unfold wk at hw
    rw [if_neg cd, er] at hw
    by_cases ck : k = 0
    · subst ck
      obtain ⟨rfl, rfl⟩ := hk0 rfl
      rw [T_ifp (by decide), T_ifp (by decide), T_ifn (by decide), er]
      refine m_ofAdds hM1 h1 h2 h11' ok' hg _ _ fun hd' f' t' => ?_
      rw [T_pp]
      refine Or.inl ⟨_, u % n, rfl, lt, 1, 0, n, u % n, 1, _, m, rfl, rfl, by omega, by omega, by omega, by omega, fun z => by omega, hF.tr f', t', ?_⟩
      rw [Int32.mul_zero, Int32.zero_add, if_pos rfl] at hw
      exact hw
    · have cz : ¬ nI k = 0 := nI_ne0 (by omega) (by omega)
      have ep : nI k - nI k / 2 * 2 = nI (k % 2) := pk_rem (d := 2) (by omega) (by decide) (by decide)
      rw [T_ifn cz, T_ifn cz, ep, er]
      by_cases cp : k % 2 = 1
      · rw [cp, T_ifp (by decide)]
        refine m_ofAdds hM1 h1 h2 h11' ok' hg _ _ fun hd' f' t' => ?_
        rw [T_pp]
        refine Or.inl ⟨_, u % n, rfl, lt, _, q, n, u % n, k + 1, _, m, by rw [nI_succ], rfl, by omega, by omega, by omega, by omega, fun z => by omega, hF.tr f', t', ?_⟩
        rw [if_neg (by omega)] at hw
        exact hw
      · rw [show k % 2 = 0 by omega, T_ifn (by decide)]
        refine m_ofAdds hM1 h1 h2 h11' ok' hg _ _ fun hd' f' t' => ?_
        rw [T_pp]
        refine Or.inl ⟨_, u % n, rfl, lt, _, q, n, u % n, k + 1, _, m, by rw [nI_succ], rfl, by omega, by omega, by omega, by omega, fun z => by omega, hF.tr f', t', ?_⟩
        rw [if_pos (by omega)] at hw
        exact hw
theorem M_canWalk {st : St} (a b : Int32) (q : MR h st) : T (fX10_canWalk 0 a b) h (fun r h' => r = (o_walk a b st.1).1 ∧ MR h' st ∧ (r = 0 → ThAt h' (o_walk a b st.1).2) ∧ Fr SK h h') := by
  unfold fX10_canWalk
  have hM := q.1
  rw [m_chk hM]
  refine T_call (m_inR (a := 0) (b := 99) (by decide) (by decide)) fun r h1 p => ?_
  obtain ⟨rfl, rfl⟩ := p
  unfold o_walk
  by_cases c : rg a 0 99
  · rw [if_pos c, T_ifn (by decide)]
    refine T_call (m_inR (a := 1) (b := 99) (by decide) (by decide)) fun r h2 p => ?_
    obtain ⟨rfl, rfl⟩ := p
    by_cases c2 : rg b 1 99
    · have cc := And.intro c c2
      rw [if_pos c2, T_ifn (by decide), if_pos cc]
      obtain ⟨a, rfl, e, e1, e2⟩ := rg_nat c (by decide) (by decide)
      obtain ⟨b, rfl, g, g1, g2⟩ := rg_nat c2 (by decide) (by decide)
      refine T_call (M_lays q) fun _ h3 p => ?_
      obtain ⟨q1, ok, f⟩ := p
      refine T_call (m_laysSum q1.1 q1.2.2.1) fun _ h4 p => ?_
      obtain ⟨f4, t4⟩ := p
      have w := q1.2.1
      have ok4 : okL st.1.1 h4 = true := by rw [okL_fr f4 (by decide)]; exact ok
      have h114 : dig h4 11 0 = st.1.1 + 1 := by rw [fr_dr f4 (by decide) (by decide)]; exact q1.2.2.1.1
      refine m_ofAdds f4.1 w.1 w.2.1 h114 ok4 t4 _ _ fun h5 f5 t5 => ?_
      have ok5 : okL st.1.1 h5 = true := by rw [okL_fr f5 (by decide)]; exact ok4
      have h115 : dig h5 11 0 = st.1.1 + 1 := by rw [fr_dr f5 (by decide) (by decide)]; exact h114
      refine T_call (m_walkLoop f5.1 w.1 w.2.1 h115 ok5 t5 (a := a) (b := b) (by omega) (by omega)) fun _ h6 p => ?_
      obtain ⟨f6, t6⟩ := p
      have ok6 : okL st.1.1 h6 = true := by rw [okL_fr f6 (by decide)]; exact ok5
      refine T_call (m_canBe f6.1 w.1 w.2.1 ok6 t6) fun r h7 p => ?_
      obtain ⟨rfl, rfl⟩ := p
      rw [T_pp]
      exact ⟨rfl, q1.fr (((f4.sub (S' := [34, 35, 105, 106]) (by decide)).tr f5).tr f6) (by decide), fun _ => t6, (((f.sub (by decide)).seq f4 (by decide)).seq f5 (by decide)).seq f6 (by decide)⟩
    · rw [if_neg c2, T_ifp rfl, if_neg (fun z => c2 z.2), T_pp]
      exact ⟨rfl, q, (fun z => by cases z), Fr.rf q.1 _⟩
  · rw [if_neg c, T_ifp rfl, if_neg (fun z => c z.1), T_pp]
    exact ⟨rfl, q, (fun z => by cases z), Fr.rf q.1 _⟩
theorem M_walks {st : St} (a b : Int32) (q : MR h st) : T (fX10_walks 0 a b) h (fun r h' => r = (q_do (o_walk a b st.1) st).1 ∧ MR h' (q_do (o_walk a b st.1) st).2) := M_do (oOK_walk a b st.1) q.1 (M_canWalk a b q)
/-! boundary, cuspidal -/
noncomputable def ed (N j c : Nat) : Int32 := (if tK N (tF N j) = c then 1 else 0) - (if tK N (tS N (tF N j)) = c then 1 else 0)
noncomputable def bd (N : Nat) (f : Nat → Int64) (c : Nat) : Nat → Int64
  | 0 => 0
  | n + 1 => bd N f c n + (ed N n c).toInt64 * f n
theorem m_boundaryOf (hM : MW h) (h1 : 1 ≤ N) (h2 : N ≤ 25) (h11 : dig h 11 0 = N + 1) (ok : okL N h = true) {j c : Nat} (hj : j < dim N) (hc : c < 100) : T (fX10_boundaryOf 0 (nI c) (nI j)) h (fun v h' => h' = h ∧ v = ed N j c) := by
  have n := tb_n h1 h2
  have o := okL_at ok
  have gF := dig_gi (o.2.2.2.2.2.2.1 j hj)
  have hs := tb_f h1 h2 hj
  have ts := tb_s h1 h2 hs
  have ts2 := tb_s h1 h2 ts.2.2.1
  have gK := dig_gi (o.2.2.2.2.2.1 _ hs).2.2.1
  have gK2 := dig_gi (o.2.2.2.2.2.1 _ ts.2.2.1).2.2.1
  unfold fX10_boundaryOf
  unfold ed
  rw [m_chk hM, m_gA hM (by decide) (by decide), mr_16, m_lI hM (by decide) rfl (by rw [ml_10]; omega), gF, m_gA hM (by decide) (by decide), mr_12, m_lI hM (by decide) rfl (by rw [ml_9]; omega), gK]
  by_cases c1 : tK N (tF N j) = c
  · rw [T_ifp (by rw [c1]), if_pos c1, m_gA hM (by decide) (by decide), mr_12]
    refine T_call (m_s hM h1 h2 h11 ok hs) fun v h3 p => ?_
    obtain ⟨rfl, rfl⟩ := p
    rw [m_lI hM (by decide) rfl (by rw [ml_9]; omega), gK2]
    by_cases c2 : tK N (tS N (tF N j)) = c
    · rw [T_ifp (by rw [c2]), if_pos c2, T_pp]
      exact ⟨rfl, rfl⟩
    · rw [T_ifn (by rw [nI_eq (by omega) (by omega)]; exact c2), if_neg c2, T_pp]
      exact ⟨rfl, rfl⟩
  · rw [T_ifn (by rw [nI_eq (by omega) (by omega)]; exact c1), if_neg c1, m_gA hM (by decide) (by decide), mr_12]
    refine T_call (m_s hM h1 h2 h11 ok hs) fun v h3 p => ?_
    obtain ⟨rfl, rfl⟩ := p
    rw [m_lI hM (by decide) rfl (by rw [ml_9]; omega), gK2]
    by_cases c2 : tK N (tS N (tF N j)) = c
    · rw [T_ifp (by rw [c2]), if_pos c2, T_pp]
      exact ⟨rfl, rfl⟩
    · rw [T_ifn (by rw [nI_eq (by omega) (by omega)]; exact c2), if_neg c2, T_pp]
      exact ⟨rfl, rfl⟩
theorem m_laysTrace (hM : MW h) : T (fX10_laysTrace 0) h (fun _ h' => Fr [105, 106] h h' ∧ gj h' 0 5 = 0 ∧ gj h' 0 6 = 1) := by
  unfold fX10_laysTrace
  rw [m_chk hM, m_sJ hM (by decide), m_sJ (MW_wJ0 rfl hM) (by decide), T_pp]
  refine ⟨((Fr.rf hM _).J0 rfl (by decide)).J0 rfl (by decide), ?_, ?_⟩
  · rw [gj_wJ_nk (by decide), gj_wJm hM (by decide), if_pos ⟨rfl, rfl⟩]
  · rw [gj_wJm (MW_wJ0 rfl hM) (by decide), if_pos ⟨rfl, rfl⟩]
theorem m_laysBoundary (hM : MW h) (h1 : 1 ≤ N) (h2 : N ≤ 25) (ok : okL N h = true) {f : Nat → Int64} (hs : SgAt h 11 0 (N, f)) {c : Nat} (hc : c < 100) : T (fX10_laysBoundary 0 (nI c)) h (fun _ h' => Fr [105, 106] h h' ∧ gj h' 0 5 = bd N f c (dim N) ∧ gj h' 0 6 = 1) := by
  have n := tb_n h1 h2
  have g14 := dig_gi (okL_at ok).2.2.2.1
  unfold fX10_laysBoundary
  rw [m_chk hM]
  refine T_call (m_laysTrace hM) fun _ h3 p => ?_
  obtain ⟨f3, p5, p6⟩ := p
  refine T_call (P := fun _ h' => Fr [105, 106] h h' ∧ gj h' 0 5 = bd N f c (dim N) ∧ gj h' 0 6 = 1) ?_ (fun _ ha p => by rw [T_pp]; exact p)
  refine T_for (dim N) (fun m h' => Fr [105, 106] h h' ∧ gj h' 0 5 = bd N f c m ∧ gj h' 0 6 = 1) (fun i ha hi hI => ?_) (fun ha hI => ?_) (by omega) (i0 := 0) (by omega) ⟨f3, p5, p6⟩
  · obtain ⟨hF, i5, i6⟩ := hI
    have hM1 := hF.1
    have g14' : gi ha 0 14 = nI (dim N) := by rw [fr_gi0 hF (by decide)]; exact g14
    have c1 : ¬ nI (dim N) ≤ nI i := nI_ge hi (by omega)
    have s1 := (hs.2 i (by omega))
    rw [Nat.zero_add, Nat.zero_add, ← fr_gjr hF (by decide) (by decide), ← fr_gjr hF (by decide) (by decide)] at s1
    obtain ⟨s1, s2⟩ := s1
    have h11' : dig ha 11 0 = N + 1 := by rw [fr_dr hF (by decide) (by decide)]; exact hs.1
    have ok' : okL N ha = true := by rw [okL_fr hF (by decide)]; exact ok
    unfold fX10_laysBoundary_B6 fX10_laysBoundary_b6
    rw [T_fr, m_gI hM1 (by decide), g14', T_ifn c1, m_gJ hM1 (by decide), m_gJ hM1 (by decide), i5, i6]
    refine T_call (m_boundaryOf hM1 h1 h2 h11' ok' hi hc) fun v hb p => ?_
    obtain ⟨rfl, rfl⟩ := p
    simp (disch := first | assumption | decide | omega | (simp only [ml_0, ml_1, ml_2, ml_3, ml_4, ml_5, ml_6, ml_7, ml_8, ml_9, ml_10, ml_11, ml_12, ml_13, ml_14, ml_15, ml_16, ml_17, ml_18, ml_19, ml_20, ml_21, ml_22, ml_23, ml_24, ml_25, ml_26, ml_27, ml_28, ml_29, ml_30, ml_31, ml_32, ml_33, ml_34, ml_35, ml_36]; omega) | (simp only [ml_0, ml_1, ml_2, ml_3, ml_4, ml_5, ml_6, ml_7, ml_8, ml_9, ml_10, ml_11, ml_12, ml_13, ml_14, ml_15, ml_16, ml_17, ml_18, ml_19, ml_20, ml_21, ml_22, ml_23, ml_24, ml_25, ml_26, ml_27, ml_28, ml_29, ml_30, ml_31, ml_32, ml_33, ml_34, ml_35, ml_36]; decide) | (apply MW_wIr (by decide); (repeat' (first | assumption | apply MW_wIr (by decide) | apply MW_wJr (by decide) | apply MW_wI0 rfl | apply MW_wJ0 rfl)); done) | (apply MW_wJr (by decide); (repeat' (first | assumption | apply MW_wIr (by decide) | apply MW_wJr (by decide) | apply MW_wI0 rfl | apply MW_wJ0 rfl)); done) | (apply MW_wI0 rfl; (repeat' (first | assumption | apply MW_wIr (by decide) | apply MW_wJr (by decide) | apply MW_wI0 rfl | apply MW_wJ0 rfl)); done) | (apply MW_wJ0 rfl; (repeat' (first | assumption | apply MW_wIr (by decide) | apply MW_wJr (by decide) | apply MW_wI0 rfl | apply MW_wJ0 rfl)); done)) only [T_fr, T_frJ, li_0, li_1, li_2, li_3, li_4, li_5, li_6, li_7, li_8, li_9, li_10, li_11, li_12, li_13, li_14, li_15, li_16, li_17, li_25, li_30, li_31, li_32, li_33, li_43, li_45, li_48, li_57, li_59, li_60, li_61, li_99, li_110, li_116, li_119, li_120, li_122, li_127, li_165, li_198, li_256, pk_mul, nI_add, m_chk, m_gA, mr_0, mr_1, mr_2, mr_4, mr_9, mr_10, mr_11, mr_12, mr_15, mr_16, mr_17, mr_18, mr_19, mr_20, mr_21, mr_22, mr_23, mr_24, mr_25, mr_27, mr_28, mr_29, mr_30, mr_31, mr_32, mr_33, mr_34, mr_36, mr_37, mr_38, mr_39, mr_40, mr_41, mr_42, mr_43, mr_44, m_gI, m_gJ, m_lI, m_lJ, m_tI, m_tJ, m_sI, m_sJ, T_pp, T_ifn, T_ifp, not_false_eq_true, not_true_eq_false, gi_wI_ne, gi_wJ_ne, gj_wI_ne, gj_wJ_ne, gi_wI_nk, gi_wJ_nk, gj_wI_nk, gj_wJ_nk, s1, s2]
    refine T_call (m_more1 hM1 _ _ _) fun _ hd p => ?_
    obtain ⟨r, p5, p6⟩ := p
    rw [T_pp]
    exact ⟨rfl, hF.tr r, p5, p6⟩
  · obtain ⟨hF, i5, i6⟩ := hI
    have hM1 := hF.1
    have g14' : gi ha 0 14 = nI (dim N) := by rw [fr_gi0 hF (by decide)]; exact g14
    have c1 : nI (dim N) ≤ nI (dim N) := nI_le (Nat.le_refl _) (by omega)
    unfold fX10_laysBoundary_B6 fX10_laysBoundary_b6
    rw [T_fr, m_gI hM1 (by decide), g14', T_ifp c1, T_pp]
    exact ⟨(), rfl, hF, i5, i6⟩
noncomputable def q_boundary (c w : Int32) (st : St) : Int64 × St := if rg c 0 ((cus st.1.1 : Int) - 1) ∧ rg w 0 1 then (if ti w = 0 then bd st.1.1 st.1.2 (ti c) (dim st.1.1) else 1, st) else (bL, rf2 st)
theorem M_boundary {st : St} (c w : Int32) (q : MR h st) : T (fX10_boundary 0 c w) h (fun v h' => v = (q_boundary c w st).1 ∧ MR h' (q_boundary c w st).2) := by
  unfold fX10_boundary
  have hM := q.1
  have n := tb_n q.2.1.1 q.2.1.2.1
  rw [m_chk hM]
  refine T_call (M_lays q) fun _ h1 p => ?_
  obtain ⟨q1, ok, f⟩ := p
  have hM1 := q1.1
  unfold q_boundary
  rw [m_gI hM1 (by decide), dig_gi (okL_at ok).2.2.1]
  refine T_call (m_inR (a := 0) (b := (cus st.1.1 : Int) - 1) (by decide) (sub1_toInt (by omega))) fun v h2 p => ?_
  obtain ⟨rfl, rfl⟩ := p
  by_cases c2 : rg c 0 ((cus st.1.1 : Int) - 1)
  · rw [if_pos c2, T_ifn (by decide)]
    obtain ⟨c, rfl, g, g1, g2⟩ := rg_nat c2 (by decide) (by omega)
    refine T_call (m_inR (a := 0) (b := 1) (by decide) (by decide)) fun v h3 p => ?_
    obtain ⟨rfl, rfl⟩ := p
    by_cases c3 : rg w 0 1
    · have cc := And.intro c2 c3
      rw [if_pos c3, T_ifn (by decide), if_pos cc]
      obtain ⟨w, rfl, k, k1, k2⟩ := rg_nat c3 (by decide) (by decide)
      refine T_call (m_laysBoundary hM1 q1.2.1.1 q1.2.1.2.1 ok (f := st.1.2) q1.2.2.1 (c := c) (by omega)) fun _ h4 p => ?_
      obtain ⟨f4, p5, p6⟩ := p
      have q4 := q1.fr f4 (by decide)
      rw [k, g]
      by_cases c4 : w = 0
      · have cw : nI w = 0 := by rw [c4]; rfl
        rw [if_pos c4, T_ifp cw, m_gJ f4.1 (by decide), p5, T_pp]
        exact ⟨rfl, q4⟩
      · have cw : ¬ nI w = 0 := nI_ne0 (by omega) (by omega)
        rw [if_neg c4, T_ifn cw, m_gJ f4.1 (by decide), p6, T_pp]
        exact ⟨rfl, q4⟩
    · rw [if_neg c3, T_ifp rfl, if_neg (fun z => c3 z.2)]
      refine T_call (M_refBy2 q1 _) fun v h4 p => ?_
      rw [T_pp]
      exact p
  · rw [if_neg c2, T_ifp rfl, if_neg (fun z => c2 z.1)]
    refine T_call (M_refBy2 q1 _) fun v h4 p => ?_
    rw [T_pp]
    exact p
noncomputable def cuB (N : Nat) (f : Nat → Int64) : Bool := allN (cus N) fun c => decide (bd N f c (dim N) = 0)
theorem allN_s (n : Nat) (p : Nat → Bool) : allN (n + 1) p = (p n && allN n p) := by
  show (bif p n then allN n p else false) = _
  cases p n <;> rfl
theorem M_isCuspidal {st : St} (q : MR h st) : T (fX10_isCuspidal 0) h (fun v h' => v = (if cuB st.1.1 st.1.2 = true then 1 else 0) ∧ MR h' st ∧ okL st.1.1 h' = true) := by
  unfold fX10_isCuspidal
  have hM := q.1
  have w := q.2.1
  have n := tb_n w.1 w.2.1
  rw [m_chk hM]
  refine T_call (M_lays q) fun _ h1 p => ?_
  obtain ⟨q1, ok, f⟩ := p
  refine T_call (P := fun v h' => v = (if cuB st.1.1 st.1.2 = true then 1 else 0) ∧ Fr [105, 106] h1 h') ?_ (fun v ha p => ?_)
  · refine T_forS (cus st.1.1) (fun m v h' => v = (if allN m (fun c => decide (bd st.1.1 st.1.2 c (dim st.1.1) = 0)) = true then 1 else 0) ∧ Fr [105, 106] h1 h') (fun i v ha hi hI => ?_) (fun v ha hI => ?_) (by omega) (i0 := 0) (by omega) ⟨rfl, Fr.rf q1.1 _⟩
    · obtain ⟨rfl, hF⟩ := hI
      have hM1 := hF.1
      have g13' : gi ha 0 13 = nI (cus st.1.1) := by rw [fr_gi0 hF (by decide)]; exact dig_gi (okL_at ok).2.2.1
      have c1 : ¬ nI (cus st.1.1) ≤ nI i := nI_ge hi (by omega)
      have ok' : okL st.1.1 ha = true := by rw [okL_fr hF (by decide)]; exact ok
      unfold fX10_isCuspidal_B8 fX10_isCuspidal_b8
      rw [T_fr, T_fr]
      dsimp only
      rw [m_gI hM1 (by decide), g13', T_ifn c1]
      refine T_call (m_laysBoundary hM1 w.1 w.2.1 ok' (f := st.1.2) (q1.2.2.1.fr hF (by decide) (by decide)) (c := i) (by omega)) fun _ hb p => ?_
      obtain ⟨fb, p5, p6⟩ := p
      rw [allN_s]
      by_cases ca : allN i (fun c => decide (bd st.1.1 st.1.2 c (dim st.1.1) = 0)) = true
      · rw [if_pos ca, T_ifn (by decide), m_gJ fb.1 (by decide), p5, T_ite, T_pp, T_pp, cmp_eq, ca]
        refine ⟨fun z => ⟨1, by rw [nI_succ], ?_, hF.tr fb⟩, fun z => ⟨0, by rw [nI_succ], ?_, hF.tr fb⟩⟩
        · rw [decide_eq_true z]; rfl
        · rw [decide_eq_false z]; rfl
      · rw [if_neg ca, T_ifp rfl, T_pp]
        refine ⟨0, by rw [nI_succ], ?_, hF.tr fb⟩
        rw [if_neg]
        intro z
        rw [Bool.and_eq_true] at z
        exact ca z.2
    · obtain ⟨rfl, hF⟩ := hI
      have hM1 := hF.1
      have g13' : gi ha 0 13 = nI (cus st.1.1) := by rw [fr_gi0 hF (by decide)]; exact dig_gi (okL_at ok).2.2.1
      have c1 : nI (cus st.1.1) ≤ nI (cus st.1.1) := nI_le (Nat.le_refl _) (by omega)
      unfold fX10_isCuspidal_B8 fX10_isCuspidal_b8
      rw [T_fr, T_fr]
      dsimp only
      rw [m_gI hM1 (by decide), g13', T_ifp c1, T_pp]
      exact ⟨_, rfl, rfl, hF⟩
  · obtain ⟨rfl, hF⟩ := p
    rw [t_pz (by split <;> simp), T_pp]
    exact ⟨rfl, q1.fr hF (by decide), by rw [okL_fr hF (by decide)]; exact ok⟩
noncomputable def q_cuspidal (st : St) : Int32 × St := (if cuB st.1.1 st.1.2 = true then 1 else 0, st)
theorem M_cuspidal {st : St} (q : MR h st) : T (fX10_cuspidal 0) h (fun v h' => v = (q_cuspidal st).1 ∧ MR h' (q_cuspidal st).2) := by
  unfold fX10_cuspidal q_cuspidal
  rw [m_chk q.1]
  refine T_call (M_isCuspidal q) fun v h1 p => ?_
  obtain ⟨rfl, q1, -⟩ := p
  by_cases c : cuB st.1.1 st.1.2 = true
  · rw [if_pos c, T_ifn (by decide), T_pp]
    exact ⟨rfl, q1⟩
  · rw [if_neg c, T_ifp rfl, T_pp]
    exact ⟨rfl, q1⟩
end S8
