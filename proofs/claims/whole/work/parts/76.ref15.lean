section S15
variable {h h' : PH} {tx : Nat → Int32} {L : Nat}
theorem nb2_le {sg : Bool} {p : Nat} (hp : p ≤ L) (ht : Txt h tx L) : nb2 tx L sg p ≤ L := by
  unfold nb2
  have := sk_le (tx := tx) hp
  split
  · rename_i c
    have : sk tx L p < L := by
      by_cases z : sk tx L p < L
      · exact z
      · have := (hr_none ht p).mpr z
        rw [c.2] at this
        exact absurd this (by decide)
    omega
  · exact this
theorem nm_le {sg : Bool} {p : Nat} (hp : p ≤ L) (ht : Txt h tx L) : (nm tx L sg p).2.2 ≤ L := (nds_le 3 _ 0).2.1 (nb2_le hp ht)
/-- behind the figures: is it a number, and its value -/
theorem m_takesEnd (hM : MW h) (ht : Txt h tx L) {p2 : Nat} (hp2 : p2 ≤ L) {F : Nat × Int32} (hF : F = nds tx L 3 p2 0) (e46 : dig h 0 46 = F.1 + 1) : T (@ite _ (nI (F.1 - p2) ≤ 0) (dLe (nI (F.1 - p2)) 0) (pp (0 : Int32)) (pb (gI 9 46 0) fun v29 => pb (fX10_isFigure 0 v29) fun v30 => (@ite _ (v30 = 0) (dEq v30 0) (pp (1 : Int32)) (pp (0 : Int32))))) h (fun v h' => h' = h ∧ v = if p2 < F.1 ∧ ¬ isD tx L F.1 then 1 else 0) := by
  have l3 := nds_le (tx := tx) (L := L) 3 p2 0
  rw [← hF] at l3
  by_cases c : p2 < F.1
  · have c1 : ¬ nI (F.1 - p2) ≤ 0 := nI_nle (by omega) (by omega)
    rw [T_ifn c1, m_gI hM (by decide), dig_gi e46]
    refine T_call (m_isFigure hM ht (l3.2.1 hp2)) fun v h1 P => ?_
    obtain ⟨rfl, rfl⟩ := P
    by_cases c2 : isD tx L F.1
    · rw [if_pos c2, T_ifn (by decide), T_pp, if_neg (fun z => z.2 c2)]
      exact ⟨rfl, rfl⟩
    · rw [if_neg c2, T_ifp rfl, T_pp, if_pos ⟨c, c2⟩]
      exact ⟨rfl, rfl⟩
  · have c1 : nI (F.1 - p2) ≤ 0 := by
      rw [show F.1 - p2 = 0 by omega]
      decide
    rw [T_ifp c1, T_pp, if_neg (fun z => c z.1)]
    exact ⟨rfl, rfl⟩
theorem m_takes (hM : MW h) (ht : Txt h tx L) {p : Nat} (hp : p ≤ L) (h46 : dig h 0 46 = p + 1) (sg : Bool) : T (fX10_takes 0 (if sg = true then 1 else 0)) h (fun v h' => Fr [146, 147] h h' ∧ dig h' 0 46 = (nm tx L sg p).2.2 + 1 ∧ gi h' 0 47 = (nm tx L sg p).2.1 ∧ v = if (nm tx L sg p).1 = true then 1 else 0) := by
  unfold fX10_takes
  rw [m_chk hM]
  refine T_call (m_here hM ht hp h46) fun v h1 P => ?_
  obtain ⟨f1, e1, rfl⟩ := P
  have hM1 := f1.1
  have sl := sk_le (tx := tx) hp
  have L120 := ht.1
  have g1 := dig_gi e1
  by_cases cm' : hr tx L p = 45 ∧ sg = true
  · obtain ⟨c1, c2⟩ := cm'
    have skl : sk tx L p < L := by
      by_cases z : sk tx L p < L
      · exact z
      · have := (hr_none ht p).mpr z
        rw [c1] at this
        exact absurd this (by decide)
    have eb : nb2 tx L sg p = sk tx L p + 1 := by unfold nb2; rw [if_pos ⟨c2, c1⟩]
    rw [T_ifp c1, if_pos c2, T_ifn (by decide), m_gI hM1 (by decide), g1, m_sI hM1 (by decide), m_sI (MW_wI0 rfl hM1) (by decide)]
    have hM2 : MW (wI h1 0 46 (nI (sk tx L p) + 1)) := MW_wI0 rfl hM1
    have hM3 : MW (wI (wI h1 0 46 (nI (sk tx L p) + 1)) 0 47 0) := MW_wI0 rfl hM2
    have f3 : Fr [146, 147] h (wI (wI h1 0 46 (nI (sk tx L p) + 1)) 0 47 0) := ((f1.sub (by decide)).I0 rfl (by decide)).I0 rfl (by decide)
    have ht3 := ht.fr f3 (by decide) (by decide)
    refine T_call (m_digits hM3 ht3 (p := nb2 tx L sg p) (nb2_le hp ht) ?_ ?_ _ _) fun v h4 P => ?_
    · unfold wI
      rw [wr_dig_nk (eI_lt _) (by decide), wr_dig (eI_lt _) (by rw [hM1.1]; decide), if_pos ⟨rfl, rfl⟩, nI_1, eI_nI (by omega), eb]
    · rw [dig_wIm hM2 (by decide), if_pos ⟨rfl, rfl⟩]
    · obtain ⟨f4, d46, d47, rfl⟩ := P
      have hM4 := f4.1
      rw [m_gI hM4 (by decide), gi_eI d47, m_sI hM4 (by decide)]
      have hM5 : MW (wI h4 0 47 (-(nds tx L 3 (nb2 tx L sg p) 0).2)) := MW_wI0 rfl hM4
      have f5 : Fr [146, 147] h (wI h4 0 47 (-(nds tx L 3 (nb2 tx L sg p) 0).2)) := (f3.tr f4).I0 rfl (by decide)
      have ht5 := ht.fr f5 (by decide) (by decide)
      have d465 : dig (wI h4 0 47 (-(nds tx L 3 (nb2 tx L sg p) 0).2)) 0 46 = (nds tx L 3 (nb2 tx L sg p) 0).1 + 1 := by
        rw [dig_wIm hM4 (by decide), if_neg (by decide)]
        exact d46
      refine T_mono (m_takesEnd hM5 ht5 (nb2_le hp ht) rfl d465) fun v h6 P => ?_
      obtain ⟨rfl, rfl⟩ := P
      refine ⟨f5, d465, ?_, ?_⟩
      · rw [gi_wIm hM4 (by decide), if_pos ⟨rfl, rfl⟩]
        unfold nm
        rw [if_pos ⟨c2, c1⟩]
      · unfold nm
        simp only [decide_eq_true_eq]
  · have eb : nb2 tx L sg p = sk tx L p := by unfold nb2; rw [if_neg (fun z => cm' ⟨z.2, z.1⟩)]
    have main : T (pb (gI 9 46 0) fun v4 => pb (sI 9 46 0 (v4 + (0 : Int32))) fun _ => pb (fX10_here 0) fun v8 => pb (sI 9 47 0 (0 : Int32)) fun _ => pb (plo (fX10_takes_B58 0 (0 : Int32) v8) fu (0 : Int32)) fun z23 => pb (gI 9 47 0) fun v25 => pb (sI 9 47 0 v25) fun _ => (@ite _ (v8 = (-1 : Int32)) (dEq v8 (-1 : Int32)) (pp (0 : Int32)) ((@ite _ (z23 ≤ 0) (dLe z23 0) (pp (0 : Int32)) (pb (gI 9 46 0) fun v29 => pb (fX10_isFigure 0 v29) fun v30 => (@ite _ (v30 = 0) (dEq v30 0) (pp (1 : Int32)) (pp (0 : Int32)))))))) h1 (fun v h' => Fr [146, 147] h h' ∧ dig h' 0 46 = (nm tx L sg p).2.2 + 1 ∧ gi h' 0 47 = (nm tx L sg p).2.1 ∧ v = if (nm tx L sg p).1 = true then 1 else 0) := by
      rw [m_gI hM1 (by decide), g1, m_sI hM1 (by decide)]
      have hM2 : MW (wI h1 0 46 (nI (sk tx L p) + 0)) := MW_wI0 rfl hM1
      have f2 : Fr [146, 147] h (wI h1 0 46 (nI (sk tx L p) + 0)) := (f1.sub (by decide)).I0 rfl (by decide)
      have d2 : dig (wI h1 0 46 (nI (sk tx L p) + 0)) 0 46 = sk tx L p + 1 := by
        rw [dig_wIm hM1 (by decide), if_pos ⟨rfl, rfl⟩, li_0, nI_add, eI_nI (by omega)]
      refine T_call (m_here hM2 (ht.fr f2 (by decide) (by decide)) sl d2) fun v h3 P => ?_
      obtain ⟨f3, e3, rfl⟩ := P
      rw [sk_sk] at e3
      rw [hr_sk]
      have hM3 := f3.1
      have f13 : Fr [146, 147] h h3 := f2.seq f3 (by decide)
      rw [m_sI hM3 (by decide)]
      have hM4 : MW (wI h3 0 47 0) := MW_wI0 rfl hM3
      have f4 : Fr [146, 147] h (wI h3 0 47 0) := f13.I0 rfl (by decide)
      refine T_call (m_digits hM4 (ht.fr f4 (by decide) (by decide)) (p := nb2 tx L sg p) (nb2_le hp ht) ?_ ?_ _ _) fun v h5 P => ?_
      · rw [dig_wIm hM3 (by decide), if_neg (by decide), e3, eb]
      · rw [dig_wIm hM3 (by decide), if_pos ⟨rfl, rfl⟩]
      · obtain ⟨f5, d46, d47, rfl⟩ := P
        have hM5 := f5.1
        rw [m_gI hM5 (by decide), gi_eI d47, m_sI hM5 (by decide)]
        have hM6 : MW (wI h5 0 47 (nds tx L 3 (nb2 tx L sg p) 0).2) := MW_wI0 rfl hM5
        have f6 : Fr [146, 147] h (wI h5 0 47 (nds tx L 3 (nb2 tx L sg p) 0).2) := (f4.tr f5).I0 rfl (by decide)
        have d466 : dig (wI h5 0 47 (nds tx L 3 (nb2 tx L sg p) 0).2) 0 46 = (nds tx L 3 (nb2 tx L sg p) 0).1 + 1 := by
          rw [dig_wIm hM5 (by decide), if_neg (by decide)]
          exact d46
        have eg : gi (wI h5 0 47 (nds tx L 3 (nb2 tx L sg p) 0).2) 0 47 = (nm tx L sg p).2.1 := by
          rw [gi_wIm hM5 (by decide), if_pos ⟨rfl, rfl⟩]
          unfold nm
          rw [if_neg (fun z => cm' ⟨z.2, z.1⟩)]
        by_cases cN : hr tx L p = -1
        · have z := (hr_none ht p).mp cN
          have e0 : nds tx L 3 (nb2 tx L sg p) 0 = (nb2 tx L sg p, 0) := by
            rw [eb]
            show (if isD tx L (sk tx L p) then _ else _) = _
            rw [if_neg (fun y => z y.1)]
          rw [T_ifp cN, T_pp]
          refine ⟨f6, d466, eg, ?_⟩
          have : (nm tx L sg p).1 = false := by
            unfold nm
            rw [e0]
            exact decide_eq_false (fun y => Nat.lt_irrefl _ y.1)
          rw [this]
          rfl
        · rw [T_ifn cN]
          refine T_mono (m_takesEnd hM6 (ht.fr f6 (by decide) (by decide)) (nb2_le hp ht) rfl d466) fun v h7 P => ?_
          obtain ⟨rfl, rfl⟩ := P
          refine ⟨f6, d466, eg, ?_⟩
          unfold nm
          simp only [decide_eq_true_eq]
    by_cases c1 : hr tx L p = 45
    · have c2 : ¬ sg = true := fun z => cm' ⟨c1, z⟩
      rw [T_ifp c1, if_neg c2, T_ifp rfl]
      exact main
    · rw [T_ifn c1]
      exact main
theorem m_takesNumbers (hM : MW h) (ht : Txt h tx L) {p : Nat} (hp : p ≤ L) (h46 : dig h 0 46 = p + 1) (c : Int32) : T (fX10_takesNumbers 0 c) h (fun v h' => Fr [146, 147, 148, 149] h h' ∧ dig h' 0 46 = (tn tx L c p).2.2.2 + 1 ∧ (tn tx L c p).2.2.2 ≤ L ∧ v = (if (tn tx L c p).1 = true then 1 else 0) ∧ ((tn tx L c p).1 = true → ¬ c = 122 → gi h' 0 48 = (tn tx L c p).2.1 ∧ (c = 43 ∨ c = 119 → gi h' 0 49 = (tn tx L c p).2.2.1))) := by
  unfold fX10_takesNumbers
  rw [m_chk hM]
  by_cases c1 : c = 122
  · have e : tn tx L c p = (true, 0, 0, p) := by unfold tn; rw [if_pos c1]
    rw [T_ifp c1, T_pp, e]
    exact ⟨Fr.rf hM _, h46, hp, rfl, fun _ z => absurd c1 z⟩
  · rw [T_ifn c1]
    have second : ∀ {h1 : PH} {sg : Bool}, sg = decide (c = 43) → Fr [146, 147] h h1 → dig h1 0 46 = (nm tx L sg p).2.2 + 1 → gi h1 0 47 = (nm tx L sg p).2.1 → (nm tx L sg p).1 = true → T (pb (gI 9 47 0) fun v21 => pb (sI 9 48 0 v21) fun _ => (@ite _ (c = (43 : Int32)) (dEq c (43 : Int32)) (pb (fX10_takes 0 (0 : Int32)) fun v24 => pb (gI 9 47 0) fun v26 => pb (sI 9 49 0 v26) fun _ => pb (pz v24) fun _ => pp v24) ((@ite _ (c = (119 : Int32)) (dEq c (119 : Int32)) (pb (fX10_takes 0 (0 : Int32)) fun v29 => pb (gI 9 47 0) fun v31 => pb (sI 9 49 0 v31) fun _ => pb (pz v29) fun _ => pp v29) (pp (1 : Int32)))))) h1 (fun v h' => Fr [146, 147, 148, 149] h h' ∧ dig h' 0 46 = (tn tx L c p).2.2.2 + 1 ∧ (tn tx L c p).2.2.2 ≤ L ∧ v = (if (tn tx L c p).1 = true then 1 else 0) ∧ ((tn tx L c p).1 = true → ¬ c = 122 → gi h' 0 48 = (tn tx L c p).2.1 ∧ (c = 43 ∨ c = 119 → gi h' 0 49 = (tn tx L c p).2.2.1))) := by
      intro h1 sg hsg f1 e46 e47 eok
      have hM1 := f1.1
      rw [m_gI hM1 (by decide), e47, m_sI hM1 (by decide)]
      have hM2 : MW (wI h1 0 48 (nm tx L sg p).2.1) := MW_wI0 rfl hM1
      have f2 : Fr [146, 147, 148, 149] h (wI h1 0 48 (nm tx L sg p).2.1) := (f1.sub (by decide)).I0 rfl (by decide)
      have d2 : dig (wI h1 0 48 (nm tx L sg p).2.1) 0 46 = (nm tx L sg p).2.2 + 1 := by rw [dig_wIm hM1 (by decide), if_neg (by decide)]; exact e46
      have g48 : gi (wI h1 0 48 (nm tx L sg p).2.1) 0 48 = (nm tx L sg p).2.1 := by rw [gi_wIm hM1 (by decide), if_pos ⟨rfl, rfl⟩]
      have lp := nm_le (sg := sg) hp ht
      by_cases c2 : c = 43 ∨ c = 119
      · have e : tn tx L c p = ((nm tx L false (nm tx L sg p).2.2).1, (nm tx L sg p).2.1, (nm tx L false (nm tx L sg p).2.2).2.1, (nm tx L false (nm tx L sg p).2.2).2.2) := by
          unfold tn
          rw [if_neg c1, ← hsg, if_pos eok, if_pos c2]
        have go : T (pb (fX10_takes 0 (0 : Int32)) fun v24 => pb (gI 9 47 0) fun v26 => pb (sI 9 49 0 v26) fun _ => pb (pz v24) fun _ => pp v24) (wI h1 0 48 (nm tx L sg p).2.1) (fun v h' => Fr [146, 147, 148, 149] h h' ∧ dig h' 0 46 = (tn tx L c p).2.2.2 + 1 ∧ (tn tx L c p).2.2.2 ≤ L ∧ v = (if (tn tx L c p).1 = true then 1 else 0) ∧ ((tn tx L c p).1 = true → ¬ c = 122 → gi h' 0 48 = (tn tx L c p).2.1 ∧ (c = 43 ∨ c = 119 → gi h' 0 49 = (tn tx L c p).2.2.1))) := by
          have ht2 := ht.fr f2 (by decide) (by decide)
          have t := m_takes hM2 ht2 lp d2 false
          refine T_call t fun v h3 P => ?_
          obtain ⟨f3, d3, g3, rfl⟩ := P
          have hM3 := f3.1
          rw [m_gI hM3 (by decide), g3, m_sI hM3 (by decide), t_pz (by split <;> simp), T_pp, e]
          refine ⟨(f2.seq f3 (by decide)).I0 rfl (by decide), ?_, nm_le lp ht, rfl, fun _ _ => ⟨?_, fun _ => ?_⟩⟩
          · rw [dig_wIm hM3 (by decide), if_neg (by decide)]; exact d3
          · rw [gi_wI_nk (by decide), fr_gi0 f3 (by decide)]; exact g48
          · rw [gi_wIm hM3 (by decide), if_pos ⟨rfl, rfl⟩]
        by_cases c3 : c = 43
        · rw [T_ifp c3]; exact go
        · rw [T_ifn c3, T_ifp (c2.resolve_left c3)]; exact go
      · have e : tn tx L c p = (true, (nm tx L sg p).2.1, 0, (nm tx L sg p).2.2) := by
          unfold tn
          rw [if_neg c1, ← hsg, if_pos eok, if_neg c2]
        rw [T_ifn (fun z => c2 (Or.inl z)), T_ifn (fun z => c2 (Or.inr z)), T_pp, e]
        exact ⟨f2, d2, lp, rfl, fun _ _ => ⟨g48, fun z => absurd z c2⟩⟩
    have bad : ∀ {h1 : PH} {sg : Bool}, sg = decide (c = 43) → Fr [146, 147] h h1 → dig h1 0 46 = (nm tx L sg p).2.2 + 1 → ¬ (nm tx L sg p).1 = true → (Fr [146, 147, 148, 149] h h1 ∧ dig h1 0 46 = (tn tx L c p).2.2.2 + 1 ∧ (tn tx L c p).2.2.2 ≤ L ∧ (0 : Int32) = (if (tn tx L c p).1 = true then 1 else 0) ∧ ((tn tx L c p).1 = true → ¬ c = 122 → gi h1 0 48 = (tn tx L c p).2.1 ∧ (c = 43 ∨ c = 119 → gi h1 0 49 = (tn tx L c p).2.2.1))) := by
      intro h1 sg hsg f1 e46 eok
      have e : tn tx L c p = (false, 0, 0, (nm tx L sg p).2.2) := by
        unfold tn
        rw [if_neg c1, ← hsg, if_neg eok]
      rw [e]
      exact ⟨f1.sub (by decide), e46, nm_le hp ht, rfl, fun z => by cases z⟩
    by_cases c3 : c = 43
    · rw [T_ifp c3]
      refine T_call (m_takes hM ht hp h46 true) fun v h1 P => ?_
      obtain ⟨f1, d1, g1, rfl⟩ := P
      by_cases eok : (nm tx L true p).1 = true
      · rw [if_pos eok, T_ifn (by decide)]
        exact second (sg := true) (by rw [decide_eq_true c3]) f1 d1 g1 eok
      · rw [if_neg eok, T_ifp rfl, T_pp]
        exact bad (sg := true) (by rw [decide_eq_true c3]) f1 d1 eok
    · rw [T_ifn c3]
      refine T_call (m_takes hM ht hp h46 false) fun v h1 P => ?_
      obtain ⟨f1, d1, g1, rfl⟩ := P
      by_cases eok : (nm tx L false p).1 = true
      · rw [if_pos eok, T_ifn (by decide)]
        exact second (sg := false) (by rw [decide_eq_false c3]) f1 d1 g1 eok
      · rw [if_neg eok, T_ifp rfl, T_pp]
        exact bad (sg := false) (by rw [decide_eq_false c3]) f1 d1 eok
end S15
