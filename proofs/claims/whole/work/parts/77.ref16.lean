/-- a command's effect on level and sum: 0 or a refusal, and what it would be -/
noncomputable def exs (c : Cm) (g : Sg) : Int32 × Sg :=
  if c.1 = 110 then (if rg c.2.1 1 25 then (0, (ti c.2.1, fun _ => 0)) else (-2, g))
  else if c.1 = 43 then ((o_add c.2.2 c.2.1 g).1, (g.1, (o_add c.2.2 c.2.1 g).2))
  else if c.1 = 116 then ((o_apply c.2.1 g).1, (g.1, (o_apply c.2.1 g).2))
  else if c.1 = 119 then ((o_walk c.2.1 c.2.2 g).1, (g.1, (o_walk c.2.1 c.2.2 g).2))
  else (0, (g.1, fun _ => 0))
noncomputable def exL : List Cm → Sg → Nat → Nat ⊕ Sg
  | [], g, _ => .inr g
  | c :: cs, g, k => if (exs c g).1 = 0 then exL cs (exs c g).2 (k + 1) else .inl k
section S16
variable {h h' : PH} {tx : Nat → Int32} {L : Nat}
theorem exs_ok (c : Cm) {g : Sg} (w : WS g) : ((exs c g).1 = 0 ∨ (exs c g).1 = -2 ∨ (exs c g).1 = -3) ∧ ((exs c g).1 = 0 → WS (exs c g).2) := by
  unfold exs
  split
  · split
    · rename_i c2
      obtain ⟨-, e1, e2⟩ := rg_nI c2 (by decide)
      exact ⟨Or.inl rfl, fun _ => WS_zero (by omega) (by omega)⟩
    · exact ⟨Or.inr (Or.inl rfl), fun z => by cases z⟩
  · split
    · exact ⟨(oOK_add _ _ g).1, fun _ => ⟨w.1, w.2.1, (oOK_add _ _ g).2 w.2.2⟩⟩
    · split
      · exact ⟨(oOK_apply _ g).1, fun _ => ⟨w.1, w.2.1, (oOK_apply _ g).2 w.2.2⟩⟩
      · split
        · exact ⟨(oOK_walk _ _ g).1, fun _ => ⟨w.1, w.2.1, (oOK_walk _ _ g).2 w.2.2⟩⟩
        · exact ⟨Or.inl rfl, fun _ => WS_zero w.1 w.2.1⟩
def SKr : List Nat := [1, 2, 3, 4, 5, 6, 7, 8, 9, 10, 11, 12, 13, 14, 24, 25, 26, 27, 34, 35, 105, 106, 107, 108, 113, 114, 150]
/-- a command is tried and done -/
theorem m_canDoes {st : St} {c x y : Int32} (hc : isC c) (q : MR h st) (hx : ¬ c = 122 → gi h 0 48 = x ∧ (c = 43 ∨ c = 119 → gi h 0 49 = y)) : T (pb (fX10_can 0 c) fun v15 => pb (sI 9 50 0 v15) fun _ => pb (gI 9 50 0) fun v18 => (@ite _ (v18 = 0) (dEq v18 0) (pb (fX10_does 0 c) fun _ => pp (1 : Int32)) (pp (1 : Int32)))) h (fun v h' => v = 1 ∧ MR h' (if (exs (c, x, y) st.1).1 = 0 then (exs (c, x, y) st.1).2 else st.1, st.2) ∧ gi h' 0 50 = (exs (c, x, y) st.1).1 ∧ Fr SKr h h') := by
  have ok := exs_ok (c, x, y) q.2.1
  generalize eo : exs (c, x, y) st.1 = o at ok
  have can : T (fX10_can 0 c) h (fun r h' => r = o.1 ∧ MR h' st ∧ (r = 0 → (c = 110 → x = nI (ti x) ∧ ti x ≤ 25 ∧ o.2 = (ti x, fun _ => 0)) ∧ (c = 122 → o.2 = (st.1.1, fun _ => 0)) ∧ (c ≠ 110 → c ≠ 122 → o.2.1 = st.1.1 ∧ ThAt h' o.2.2)) ∧ Fr SK h h') := by
    unfold fX10_can
    rw [m_chk q.1]
    have hM := q.1
    rcases hc with rfl | rfl | rfl | rfl | rfl
    · obtain ⟨g48, -⟩ := hx (by decide)
      have e : o = if rg x 1 25 then (0, (ti x, fun _ => 0)) else (-2, st.1) := by rw [← eo]; unfold exs; dsimp only; rw [if_pos rfl]
      rw [T_ifn (by decide), T_ifp rfl, m_gI hM (by decide), g48]
      refine T_call (m_inR (a := 1) (b := 25) (by decide) (by decide)) fun v h1 p => ?_
      obtain ⟨rfl, rfl⟩ := p
      by_cases c2 : rg x 1 25
      · rw [if_pos c2, T_ifn (by decide), T_pp, e, if_pos c2]
        obtain ⟨e0, e1, e2⟩ := rg_nI c2 (by decide)
        exact ⟨rfl, q, fun _ => ⟨fun _ => ⟨e0, by omega, rfl⟩, (fun z => absurd z (by decide)), fun z => absurd rfl z⟩, Fr.rf hM _⟩
      · rw [if_neg c2, T_ifp rfl, T_pp, e, if_neg c2]
        exact ⟨rfl, q, (fun z => by cases z), Fr.rf hM _⟩
    · obtain ⟨g48, g49⟩ := hx (by decide)
      have g49 := g49 (Or.inl rfl)
      have e : o = ((o_add y x st.1).1, (st.1.1, (o_add y x st.1).2)) := by rw [← eo]; unfold exs; dsimp only; rw [if_neg (by decide), if_pos rfl]
      rw [T_ifp rfl, m_gI hM (by decide), m_gI hM (by decide), g48, g49]
      refine T_call (M_canAdd y x q) fun v h1 p => ?_
      obtain ⟨rfl, q1, t1, f1⟩ := p
      rw [T_pp, e]
      exact ⟨rfl, q1, fun z => ⟨(fun z => absurd z (by decide)), (fun z => absurd z (by decide)), fun _ _ => ⟨rfl, t1 z⟩⟩, f1⟩
    · obtain ⟨g48, -⟩ := hx (by decide)
      have e : o = ((o_apply x st.1).1, (st.1.1, (o_apply x st.1).2)) := by rw [← eo]; unfold exs; dsimp only; rw [if_neg (by decide), if_neg (by decide), if_pos rfl]
      rw [T_ifn (by decide), T_ifn (by decide), T_ifp rfl, m_gI hM (by decide), g48]
      refine T_call (M_canApply x q) fun v h1 p => ?_
      obtain ⟨rfl, q1, t1, f1⟩ := p
      rw [T_pp, e]
      exact ⟨rfl, q1, fun z => ⟨(fun z => absurd z (by decide)), (fun z => absurd z (by decide)), fun _ _ => ⟨rfl, t1 z⟩⟩, f1⟩
    · obtain ⟨g48, g49⟩ := hx (by decide)
      have g49 := g49 (Or.inr rfl)
      have e : o = ((o_walk x y st.1).1, (st.1.1, (o_walk x y st.1).2)) := by rw [← eo]; unfold exs; dsimp only; rw [if_neg (by decide), if_neg (by decide), if_neg (by decide), if_pos rfl]
      rw [T_ifn (by decide), T_ifn (by decide), T_ifn (by decide), T_ifp rfl, m_gI hM (by decide), m_gI hM (by decide), g48, g49]
      refine T_call (M_canWalk x y q) fun v h1 p => ?_
      obtain ⟨rfl, q1, t1, f1⟩ := p
      rw [T_pp, e]
      exact ⟨rfl, q1, fun z => ⟨(fun z => absurd z (by decide)), (fun z => absurd z (by decide)), fun _ _ => ⟨rfl, t1 z⟩⟩, f1⟩
    · have e : o = (0, (st.1.1, fun _ => 0)) := by rw [← eo]; unfold exs; dsimp only; rw [if_neg (by decide), if_neg (by decide), if_neg (by decide), if_neg (by decide)]
      rw [T_ifn (by decide), T_ifn (by decide), T_ifn (by decide), T_ifn (by decide), T_pp, e]
      exact ⟨rfl, q, fun _ => ⟨(fun z => absurd z (by decide)), (fun _ => rfl), fun _ z => absurd rfl z⟩, Fr.rf hM _⟩
  refine T_call can fun r h1 p => ?_
  obtain ⟨rfl, q1, t1, f1⟩ := p
  have hM1 := q1.1
  have hM2 : MW (wI h1 0 50 o.1) := MW_wI0 rfl hM1
  have f2 : Fr [150] h1 (wI h1 0 50 o.1) := (Fr.rf hM1 [150]).I0 rfl (by decide)
  have q2 := q1.fr f2 (by decide)
  have f12 : Fr SKr h (wI h1 0 50 o.1) := (f1.sub (by decide)).seq f2 (by decide)
  have g50 : gi (wI h1 0 50 o.1) 0 50 = o.1 := by rw [gi_wIm hM1 (by decide), if_pos ⟨rfl, rfl⟩]
  rw [m_sI hM1 (by decide), m_gI hM2 (by decide), g50]
  by_cases cz : o.1 = 0
  · rw [T_ifp cz, if_pos cz]
    obtain ⟨tn1, tz1, to1⟩ := t1 cz
    have ws := ok.2 cz
    have fin : ∀ (hE : PH), Fr [11] (wI h1 0 50 o.1) hE → SgAt hE 11 0 o.2 → (MR hE (o.2, st.2) ∧ gi hE 0 50 = o.1 ∧ Fr SKr h hE) := by
      intro hE fE sE
      obtain ⟨a1, a2, a3, a4, a5, a6, a7, a8⟩ := q2
      refine ⟨⟨fE.1, ws, sE, a4.fr fE (by decide) (by decide), a5, a6.fr fE (by decide) (by decide), a7.fr fE (by decide), a8.fr fE (by decide)⟩, by rw [fr_gi0 fE (by decide)]; exact g50, f12.seq fE (by decide)⟩
    have does : T (fX10_does 0 c) (wI h1 0 50 o.1) (fun _ hE => Fr [11] (wI h1 0 50 o.1) hE ∧ SgAt hE 11 0 o.2) := by
      unfold fX10_does
      rw [m_chk hM2]
      by_cases c1 : c = 110
      · obtain ⟨ex, lx, e2⟩ := tn1 c1
        obtain ⟨g48, -⟩ := hx (by rw [c1]; decide)
        have g48' : gi (wI h1 0 50 o.1) 0 48 = x := by rw [gi_wI_nk (by decide), fr_gi0 f1 (by decide)]; exact g48
        rw [T_ifp c1, m_gI hM2 (by decide), g48', ex]
        refine T_call (m_levelNow hM2 (N := st.1.1) lx q2.2.2.1.1) fun v hE p => ?_
        rw [T_pp, e2]
        exact ⟨p.2.1, p.2.2⟩
      · rw [T_ifn c1]
        by_cases c2 : c = 122
        · rw [T_ifp c2]
          refine T_call (m_zeroes hM2) fun v hE p => ?_
          rw [T_pp, tz1 c2]
          refine ⟨p.1, ?_, fun i hi => ?_⟩
          · rw [p.2.1]
            exact q2.2.2.1.1
          · rw [Nat.zero_add, Nat.zero_add]
            exact p.2.2 i hi
        · rw [T_ifn c2]
          obtain ⟨e1, t1'⟩ := to1 c1 c2
          refine T_call (m_becomes hM2 (t1'.fr f2 (by decide) (by decide)) (n0 := st.1.1) q2.2.2.1.1) fun v hE p => ?_
          rw [T_pp]
          refine ⟨p.2.1, ?_⟩
          have : o.2 = (st.1.1, o.2.2) := by rw [← e1]
          rw [this]
          exact p.2.2
    refine T_call does fun _ hE p => ?_
    rw [T_pp]
    obtain ⟨b1, b2, b3⟩ := fin hE p.1 p.2
    exact ⟨rfl, b1, b2, b3⟩
  · rw [T_ifn cz, if_neg cz, T_pp]
    exact ⟨rfl, q2, g50, f12⟩
/-- one command of the text -/
noncomputable def roB (x1 c : Int32) : PM Int32 :=
  pb (gI 9 46 0) fun v4 => pb (sI 9 46 0 (v4 + (1 : Int32))) fun _ => pb (fX10_takesNumbers 0 c) fun v6 =>
  (@ite _ (v6 = 0) (dEq v6 0) (pp (0 : Int32)) (pb (fX10_here 0) fun v9 => (@ite _ (v9 = (59 : Int32)) (dEq v9 (59 : Int32)) (pb (gI 9 46 0) fun v12 => pb (sI 9 46 0 (v12 + (1 : Int32))) fun _ => (@ite _ (x1 = 0) (dEq x1 0) (pp (1 : Int32)) (pb (fX10_can 0 c) fun v15 => pb (sI 9 50 0 v15) fun _ => pb (gI 9 50 0) fun v18 => (@ite _ (v18 = 0) (dEq v18 0) (pb (fX10_does 0 c) fun _ => pp (1 : Int32)) (pp (1 : Int32)))))) (pp (0 : Int32)))))
theorem ro_eq (x1 : Int32) : fX10_readsOrder 0 x1 = pb (chk 9 0) fun _ => pb (fX10_here 0) fun v1 => (@ite _ (v1 = (110 : Int32)) (dEq v1 (110 : Int32)) (roB x1 v1) (@ite _ (v1 = (43 : Int32)) (dEq v1 (43 : Int32)) (roB x1 v1) (@ite _ (v1 = (116 : Int32)) (dEq v1 (116 : Int32)) (roB x1 v1) (@ite _ (v1 = (119 : Int32)) (dEq v1 (119 : Int32)) (roB x1 v1) (@ite _ (v1 = (122 : Int32)) (dEq v1 (122 : Int32)) (roB x1 v1) (pp (0 : Int32))))))) := rfl
theorem T_ro {Q : Int32 → PH → Prop} {x1 v1 : Int32} (hc : isC v1) (t : T (roB x1 v1) h Q) : T (@ite _ (v1 = (110 : Int32)) (dEq v1 (110 : Int32)) (roB x1 v1) (@ite _ (v1 = (43 : Int32)) (dEq v1 (43 : Int32)) (roB x1 v1) (@ite _ (v1 = (116 : Int32)) (dEq v1 (116 : Int32)) (roB x1 v1) (@ite _ (v1 = (119 : Int32)) (dEq v1 (119 : Int32)) (roB x1 v1) (@ite _ (v1 = (122 : Int32)) (dEq v1 (122 : Int32)) (roB x1 v1) (pp (0 : Int32))))))) h Q := by
  rcases hc with rfl | rfl | rfl | rfl | rfl
  · rw [T_ifp rfl]; exact t
  · rw [T_ifn (by decide), T_ifp rfl]; exact t
  · rw [T_ifn (by decide), T_ifn (by decide), T_ifp rfl]; exact t
  · rw [T_ifn (by decide), T_ifn (by decide), T_ifn (by decide), T_ifp rfl]; exact t
  · rw [T_ifn (by decide), T_ifn (by decide), T_ifn (by decide), T_ifn (by decide), T_ifp rfl]; exact t
theorem T_roN {Q : Int32 → PH → Prop} {x1 v1 : Int32} (hc : ¬ isC v1) (t : Q 0 h) : T (@ite _ (v1 = (110 : Int32)) (dEq v1 (110 : Int32)) (roB x1 v1) (@ite _ (v1 = (43 : Int32)) (dEq v1 (43 : Int32)) (roB x1 v1) (@ite _ (v1 = (116 : Int32)) (dEq v1 (116 : Int32)) (roB x1 v1) (@ite _ (v1 = (119 : Int32)) (dEq v1 (119 : Int32)) (roB x1 v1) (@ite _ (v1 = (122 : Int32)) (dEq v1 (122 : Int32)) (roB x1 v1) (pp (0 : Int32))))))) h Q := by
  rw [T_ifn (fun z => hc (Or.inl z)), T_ifn (fun z => hc (Or.inr (Or.inl z))), T_ifn (fun z => hc (Or.inr (Or.inr (Or.inl z)))), T_ifn (fun z => hc (Or.inr (Or.inr (Or.inr (Or.inl z))))), T_ifn (fun z => hc (Or.inr (Or.inr (Or.inr (Or.inr z))))), T_pp]
  exact t
def S4 : List Nat := [146, 147, 148, 149]
/-- up to the semicolon -/
theorem m_roHead (hM : MW h) (ht : Txt h tx L) {p : Nat} (hp : p ≤ L) (h46 : dig h 0 46 = p + 1) (x1 : Int32) {Q : Int32 → PH → Prop} (bad : ∀ h', Fr S4 h h' → dig h' 0 46 = (cm tx L p).2.2 + 1 → (cm tx L p).2.2 ≤ L → (cm tx L p).1 = false → Q 0 h') (good : ∀ h', Fr S4 h h' → dig h' 0 46 = (cm tx L p).2.2 + 1 → (cm tx L p).2.2 ≤ L → p + 2 ≤ (cm tx L p).2.2 → (cm tx L p).1 = true → isC (cm tx L p).2.1.1 → (¬ (cm tx L p).2.1.1 = 122 → gi h' 0 48 = (cm tx L p).2.1.2.1 ∧ ((cm tx L p).2.1.1 = 43 ∨ (cm tx L p).2.1.1 = 119 → gi h' 0 49 = (cm tx L p).2.1.2.2)) → T (@ite _ (x1 = 0) (dEq x1 0) (pp (1 : Int32)) (pb (fX10_can 0 (cm tx L p).2.1.1) fun v15 => pb (sI 9 50 0 v15) fun _ => pb (gI 9 50 0) fun v18 => (@ite _ (v18 = 0) (dEq v18 0) (pb (fX10_does 0 (cm tx L p).2.1.1) fun _ => pp (1 : Int32)) (pp (1 : Int32))))) h' Q) : T (fX10_readsOrder 0 x1) h Q := by
  have L120 := ht.1
  rw [ro_eq, m_chk hM]
  refine T_call (m_here hM ht hp h46) fun v h1 P => ?_
  obtain ⟨f1, e1, rfl⟩ := P
  have hM1 := f1.1
  have g1 := dig_gi e1
  have sl := sk_le (tx := tx) hp
  have sg := sk_ge (tx := tx) (L := L) p
  by_cases c : isC (hr tx L p)
  · refine T_ro c ?_
    have skl : sk tx L p < L := by
      by_cases z : sk tx L p < L
      · exact z
      · have := (hr_none ht p).mpr z
        rw [this] at c
        exact absurd c (by decide)
    unfold roB
    rw [m_gI hM1 (by decide), g1, m_sI hM1 (by decide)]
    have hM2 : MW (wI h1 0 46 (nI (sk tx L p) + 1)) := MW_wI0 rfl hM1
    have f2 : Fr S4 h (wI h1 0 46 (nI (sk tx L p) + 1)) := (f1.sub (by decide)).I0 rfl (by decide)
    have d2 : dig (wI h1 0 46 (nI (sk tx L p) + 1)) 0 46 = sk tx L p + 1 + 1 := by rw [dig_wIm hM1 (by decide), if_pos ⟨rfl, rfl⟩, nI_1, eI_nI (by omega)]
    refine T_call (m_takesNumbers hM2 (ht.fr f2 (by decide) (by decide)) (p := sk tx L p + 1) (by omega) d2 (hr tx L p)) fun v h3 P => ?_
    obtain ⟨f3, d3, l3, rfl, g3⟩ := P
    have hM3 := f3.1
    have f13 : Fr S4 h h3 := f2.seq f3 (by decide)
    by_cases ok : (tn tx L (hr tx L p) (sk tx L p + 1)).1 = true
    · rw [if_pos ok, T_ifn (by decide)]
      refine T_call (m_here hM3 (ht.fr f13 (by decide) (by decide)) l3 d3) fun v h4 P => ?_
      obtain ⟨f4, d4, rfl⟩ := P
      have hM4 := f4.1
      have f14 : Fr S4 h h4 := f13.seq f4 (by decide)
      have ge := sk_ge (tx := tx) (L := L) (tn tx L (hr tx L p) (sk tx L p + 1)).2.2.2
      have le4 := sk_le (tx := tx) l3
      by_cases c5 : hr tx L (tn tx L (hr tx L p) (sk tx L p + 1)).2.2.2 = 59
      · have ecm : cm tx L p = (true, (hr tx L p, (tn tx L (hr tx L p) (sk tx L p + 1)).2.1, (tn tx L (hr tx L p) (sk tx L p + 1)).2.2.1), sk tx L (tn tx L (hr tx L p) (sk tx L p + 1)).2.2.2 + 1) := by
          unfold cm
          rw [if_pos c, if_pos ok, if_pos c5]
        have sl2 : sk tx L (tn tx L (hr tx L p) (sk tx L p + 1)).2.2.2 < L := by
          by_cases z : sk tx L (tn tx L (hr tx L p) (sk tx L p + 1)).2.2.2 < L
          · exact z
          · have := (hr_none ht _).mpr z
            rw [c5] at this
            exact absurd this (by decide)
        have tge : sk tx L p + 1 ≤ (tn tx L (hr tx L p) (sk tx L p + 1)).2.2.2 := by
          have nge : ∀ (s : Bool) (k : Nat), k ≤ (nm tx L s k).2.2 := by
            intro s k
            have a := (nds_le (tx := tx) (L := L) 3 (nb2 tx L s k) 0).1
            have b := sk_ge (tx := tx) (L := L) k
            have d : sk tx L k ≤ nb2 tx L s k := by
              unfold nb2
              split <;> omega
            show k ≤ (nds tx L 3 (nb2 tx L s k) 0).1
            omega
          unfold tn
          split
          · exact Nat.le_refl _
          · split
            · split
              · exact Nat.le_trans (nge _ _) (nge _ _)
              · exact nge _ _
            · exact nge _ _
        rw [T_ifp c5, m_gI hM4 (by decide), dig_gi d4, m_sI hM4 (by decide)]
        have hM5 : MW (wI h4 0 46 (nI (sk tx L (tn tx L (hr tx L p) (sk tx L p + 1)).2.2.2) + 1)) := MW_wI0 rfl hM4
        have g := good (wI h4 0 46 (nI (sk tx L (tn tx L (hr tx L p) (sk tx L p + 1)).2.2.2) + 1)) (f14.I0 rfl (by decide))
        rw [ecm] at g
        refine g ?_ (by dsimp only; omega) (by dsimp only; omega) rfl c (fun z => ?_)
        · rw [dig_wIm hM4 (by decide), if_pos ⟨rfl, rfl⟩, nI_1, eI_nI (by omega)]
        · obtain ⟨k1, k2⟩ := g3 ok z
          refine ⟨?_, fun y => ?_⟩
          · rw [gi_wI_nk (by decide), fr_gi0 f4 (by decide)]; exact k1
          · rw [gi_wI_nk (by decide), fr_gi0 f4 (by decide)]; exact k2 y
      · have ecm : cm tx L p = (false, (0, 0, 0), sk tx L (tn tx L (hr tx L p) (sk tx L p + 1)).2.2.2) := by
          unfold cm
          rw [if_pos c, if_pos ok, if_neg c5]
        rw [T_ifn c5, T_pp]
        have b := bad h4 f14
        rw [ecm] at b
        exact b d4 le4 rfl
    · have ecm : cm tx L p = (false, (0, 0, 0), (tn tx L (hr tx L p) (sk tx L p + 1)).2.2.2) := by
        unfold cm
        rw [if_pos c, if_neg ok]
      rw [if_neg ok, T_ifp rfl, T_pp]
      have b := bad h3 f13
      rw [ecm] at b
      exact b d3 l3 rfl
  · have ecm : cm tx L p = (false, (0, 0, 0), sk tx L p) := by
      unfold cm
      rw [if_neg c]
    refine T_roN c ?_
    have b := bad h1 (f1.sub (by decide))
    rw [ecm] at b
    exact b e1 sl rfl
end S16
