/-! THE TEXT: what a command is; tx the bytes, L how many -/
def skp (tx : Nat → Int32) (L : Nat) : Nat → Nat → Nat
  | 0, p => p
  | n + 1, p => if p < L ∧ tx p = 32 then skp tx L n (p + 1) else p
def sk (tx : Nat → Int32) (L p : Nat) : Nat := skp tx L (L - p) p
def hr (tx : Nat → Int32) (L p : Nat) : Int32 := if sk tx L p < L then tx (sk tx L p) else -1
abbrev isD (tx : Nat → Int32) (L p : Nat) : Prop := p < L ∧ rg (tx p) 48 57
def nds (tx : Nat → Int32) (L : Nat) : Nat → Nat → Int32 → Nat × Int32
  | 0, p, v => (p, v)
  | n + 1, p, v => if isD tx L p then nds tx L n (p + 1) (10 * v + tx p - 48) else (p, v)
def ngt (tx : Nat → Int32) (L : Nat) (sg : Bool) (p : Nat) : Prop := sg = true ∧ hr tx L p = 45
def nb2 (tx : Nat → Int32) (L : Nat) (sg : Bool) (p : Nat) : Nat := if sg = true ∧ hr tx L p = 45 then sk tx L p + 1 else sk tx L p
def nm (tx : Nat → Int32) (L : Nat) (sg : Bool) (p : Nat) : Bool × Int32 × Nat :=
  (decide (nb2 tx L sg p < (nds tx L 3 (nb2 tx L sg p) 0).1 ∧ ¬ isD tx L (nds tx L 3 (nb2 tx L sg p) 0).1), if sg = true ∧ hr tx L p = 45 then -(nds tx L 3 (nb2 tx L sg p) 0).2 else (nds tx L 3 (nb2 tx L sg p) 0).2, (nds tx L 3 (nb2 tx L sg p) 0).1)
def tn (tx : Nat → Int32) (L : Nat) (c : Int32) (p : Nat) : Bool × Int32 × Int32 × Nat :=
  if c = 122 then (true, 0, 0, p)
  else if (nm tx L (decide (c = 43)) p).1 = true then (if c = 43 ∨ c = 119 then ((nm tx L false (nm tx L (decide (c = 43)) p).2.2).1, (nm tx L (decide (c = 43)) p).2.1, (nm tx L false (nm tx L (decide (c = 43)) p).2.2).2.1, (nm tx L false (nm tx L (decide (c = 43)) p).2.2).2.2) else (true, (nm tx L (decide (c = 43)) p).2.1, 0, (nm tx L (decide (c = 43)) p).2.2))
  else (false, 0, 0, (nm tx L (decide (c = 43)) p).2.2)
abbrev isC (c : Int32) : Prop := c = 110 ∨ c = 43 ∨ c = 116 ∨ c = 119 ∨ c = 122
abbrev Cm : Type := Int32 × Int32 × Int32
def cm (tx : Nat → Int32) (L p : Nat) : Bool × Cm × Nat :=
  if isC (hr tx L p) then
    (if (tn tx L (hr tx L p) (sk tx L p + 1)).1 = true then
      (if hr tx L (tn tx L (hr tx L p) (sk tx L p + 1)).2.2.2 = 59 then (true, (hr tx L p, (tn tx L (hr tx L p) (sk tx L p + 1)).2.1, (tn tx L (hr tx L p) (sk tx L p + 1)).2.2.1), sk tx L (tn tx L (hr tx L p) (sk tx L p + 1)).2.2.2 + 1)
      else (false, (0, 0, 0), sk tx L (tn tx L (hr tx L p) (sk tx L p + 1)).2.2.2))
    else (false, (0, 0, 0), (tn tx L (hr tx L p) (sk tx L p + 1)).2.2.2))
  else (false, (0, 0, 0), sk tx L p)
def prL (tx : Nat → Int32) (L : Nat) : Nat → Nat → Nat ⊕ List Cm
  | 0, p => .inl p
  | n + 1, p => if (cm tx L p).1 = true then (if hr tx L (cm tx L p).2.2 = -1 then .inr [(cm tx L p).2.1] else match prL tx L n (cm tx L p).2.2 with
    | .inl f => .inl f
    | .inr l => .inr ((cm tx L p).2.1 :: l)) else .inl (cm tx L p).2.2
section S14
variable {h h' : PH} {tx : Nat → Int32} {L : Nat}
theorem sk_s (p : Nat) : sk tx L p = if p < L ∧ tx p = 32 then sk tx L (p + 1) else p := by
  unfold sk
  by_cases c : p < L
  · rw [show L - p = (L - (p + 1)) + 1 by omega]
    rfl
  · rw [show L - p = 0 by omega, if_neg (fun z => c z.1)]
    rfl
theorem skp_le : ∀ n p, p ≤ skp tx L n p ∧ (p ≤ L → skp tx L n p ≤ L) := by
  intro n
  induction n with
  | zero => intro p; exact ⟨Nat.le_refl _, fun z => z⟩
  | succ n ih =>
    intro p
    unfold skp
    split
    · rename_i c
      have := ih (p + 1)
      exact ⟨by omega, fun _ => this.2 (by omega)⟩
    · exact ⟨Nat.le_refl _, fun z => z⟩
theorem sk_ge (p : Nat) : p ≤ sk tx L p := (skp_le _ p).1
theorem sk_le {p : Nat} (hp : p ≤ L) : sk tx L p ≤ L := (skp_le _ p).2 hp
theorem sk_end : ∀ n p, L - p ≤ n → ¬ (sk tx L p < L ∧ tx (sk tx L p) = 32) := by
  intro n
  induction n with
  | zero =>
    intro p hp z
    have := sk_ge (tx := tx) (L := L) p
    omega
  | succ n ih =>
    intro p hp
    rw [sk_s]
    split
    · rename_i c
      exact ih (p + 1) (by omega)
    · rename_i c
      exact c
theorem sk_id {p : Nat} (c : ¬ (p < L ∧ tx p = 32)) : sk tx L p = p := by rw [sk_s, if_neg c]
theorem sk_sk (p : Nat) : sk tx L (sk tx L p) = sk tx L p := sk_id (sk_end _ p (Nat.le_refl _))
theorem hr_sk (p : Nat) : hr tx L (sk tx L p) = hr tx L p := by unfold hr; rw [sk_sk]
theorem nds_le : ∀ n p v, p ≤ (nds tx L n p v).1 ∧ (p ≤ L → (nds tx L n p v).1 ≤ L) ∧ (nds tx L n p v).1 ≤ p + n := by
  intro n
  induction n with
  | zero => intro p v; exact ⟨Nat.le_refl _, fun z => z, Nat.le_refl _⟩
  | succ n ih =>
    intro p v
    unfold nds
    split
    · rename_i c
      have := ih (p + 1) (10 * v + tx p - 48)
      exact ⟨by omega, fun _ => this.2.1 (by omega), by omega⟩
    · exact ⟨Nat.le_refl _, fun z => z, by omega⟩
/-- the text in the heap -/
def Txt (h : PH) (tx : Nat → Int32) (L : Nat) : Prop := L ≤ 120 ∧ dig h 0 45 = L + 1 ∧ ∀ i, i < L → gi h 36 i = tx i ∧ rg (tx i) 0 127
theorem Txt.fr {S : List Nat} (q : Txt h tx L) (f : Fr S h h') (h1 : 36 ∉ S) (h2 : 145 ∉ S) : Txt h' tx L := ⟨q.1, by rw [fr_d0 f h2]; exact q.2.1, fun i hi => by rw [fr_gir f (by decide) h1]; exact q.2.2 i hi⟩
theorem hr_none (q : Txt h tx L) (p : Nat) : hr tx L p = -1 ↔ ¬ sk tx L p < L := by
  unfold hr
  split
  · rename_i c
    refine ⟨fun e => ?_, fun z => absurd c z⟩
    have := (q.2.2 _ c).2.1
    rw [e] at this
    exact absurd this (by decide)
  · rename_i c
    exact ⟨fun _ => c, fun _ => rfl⟩
theorem m_here (hM : MW h) (ht : Txt h tx L) {p : Nat} (hp : p ≤ L) (h46 : dig h 0 46 = p + 1) : T (fX10_here 0) h (fun v h' => Fr [146] h h' ∧ dig h' 0 46 = sk tx L p + 1 ∧ v = hr tx L p) := by
  unfold fX10_here
  have L120 := ht.1
  rw [m_chk hM]
  refine T_call (P := fun _ h' => Fr [146] h h' ∧ dig h' 0 46 = sk tx L p + 1) ?_ fun _ ha P => ?_
  · refine T_loop (fun n _ ha => ∃ k, n = L - k ∧ k ≤ L ∧ Fr [146] h ha ∧ dig ha 0 46 = k + 1 ∧ sk tx L k = sk tx L p) (fun n x ha I => ?_) fu (L - p) () h (by unfold fu; omega) ⟨p, rfl, hp, Fr.rf hM _, h46, rfl⟩
    obtain ⟨k, rfl, hk, hF, e46, es⟩ := I
    have hM1 := hF.1
    have g46 := dig_gi e46
    have g45 : gi ha 0 45 = nI L := by rw [fr_gi0 hF (by decide)]; exact dig_gi ht.2.1
    unfold fX10_here_B0 fX10_here_b0
    rw [m_gI hM1 (by decide), m_gI hM1 (by decide), g46, g45]
    by_cases c : k < L
    · have g36 : gi ha 36 k = tx k := by rw [fr_gir hF (by decide) (by decide)]; exact (ht.2.2 k c).1
      rw [T_ifn (nI_ge c (by omega)), m_gA hM1 (by decide) (by decide), mr_44, m_gI hM1 (by decide), g46, m_lI hM1 (by decide) rfl (by rw [ml_36]; omega), g36]
      by_cases c2 : tx k = 32
      · rw [T_ifp c2, m_gI hM1 (by decide), g46, m_sI hM1 (by decide), T_pp]
        refine Or.inl ⟨(), L - (k + 1), rfl, by omega, k + 1, rfl, by omega, hF.I0 rfl (by decide), ?_, ?_⟩
        · rw [dig_wIm hM1 (by decide), if_pos ⟨rfl, rfl⟩, nI_1, eI_nI (by omega)]
        · rw [← es, sk_s k, if_pos ⟨c, c2⟩]
      · rw [T_ifn c2, T_pp]
        refine Or.inr ⟨(), rfl, hF, ?_⟩
        rw [e46, ← es, sk_id (fun z => c2 z.2)]
    · rw [T_ifp (nI_le (by omega) (by omega)), T_pp]
      refine Or.inr ⟨(), rfl, hF, ?_⟩
      rw [e46, ← es, sk_id (fun z => c z.1)]
  · obtain ⟨hF, e46⟩ := P
    have hM1 := hF.1
    have g46 := dig_gi e46
    have g45 : gi ha 0 45 = nI L := by rw [fr_gi0 hF (by decide)]; exact dig_gi ht.2.1
    have sl := sk_le (tx := tx) hp
    rw [m_gI hM1 (by decide), m_gI hM1 (by decide), g46, g45]
    unfold hr
    by_cases c : sk tx L p < L
    · have g36 : gi ha 36 (sk tx L p) = tx (sk tx L p) := by rw [fr_gir hF (by decide) (by decide)]; exact (ht.2.2 _ c).1
      rw [T_ifn (nI_ge c (by omega)), m_gA hM1 (by decide) (by decide), mr_44, m_gI hM1 (by decide), g46, m_lI hM1 (by decide) rfl (by rw [ml_36]; omega), g36, T_pp, if_pos c]
      exact ⟨hF, e46, rfl⟩
    · rw [T_ifp (nI_le (by omega) (by omega)), T_pp, if_neg c]
      exact ⟨hF, e46, rfl⟩
theorem m_isFigure (hM : MW h) (ht : Txt h tx L) {p : Nat} (hp : p ≤ L) : T (fX10_isFigure 0 (nI p)) h (fun v h' => h' = h ∧ v = if isD tx L p then 1 else 0) := by
  unfold fX10_isFigure
  have L120 := ht.1
  rw [m_chk hM, m_gI hM (by decide), dig_gi ht.2.1]
  by_cases c : p < L
  · rw [T_ifn (nI_ge c (by omega)), m_gA hM (by decide) (by decide), mr_44, m_lI hM (by decide) rfl (by rw [ml_36]; omega), (ht.2.2 p c).1]
    refine T_call (m_inR (a := 48) (b := 57) (by decide) (by decide)) fun v h1 P => ?_
    obtain ⟨rfl, rfl⟩ := P
    by_cases c2 : rg (tx p) 48 57
    · rw [if_pos c2, T_ifn (by decide), T_pp]
      rw [if_pos ⟨c, c2⟩]
      exact ⟨rfl, rfl⟩
    · rw [if_neg c2, T_ifp rfl, T_pp]
      rw [if_neg (fun z => c2 z.2)]
      exact ⟨rfl, rfl⟩
  · rw [T_ifp (nI_le (by omega) (by omega)), T_pp, if_neg (fun z => c z.1)]
    exact ⟨rfl, rfl⟩
theorem m_digits (hM : MW h) (ht : Txt h tx L) {p : Nat} (hp : p ≤ L) (h46 : dig h 0 46 = p + 1) (h47 : dig h 0 47 = eI 0) (x y : Int32) : T (plo (fX10_takes_B58 0 x y) fu (nI 0)) h (fun v h' => Fr [146, 147] h h' ∧ dig h' 0 46 = (nds tx L 3 p 0).1 + 1 ∧ dig h' 0 47 = eI (nds tx L 3 p 0).2 ∧ v = nI ((nds tx L 3 p 0).1 - p)) := by
  have L120 := ht.1
  generalize eF : nds tx L 3 p 0 = F
  refine T_loop (fun n z ha => ∃ i v, i ≤ 3 ∧ z = nI i ∧ n = 3 - i ∧ p + i ≤ L ∧ Fr [146, 147] h ha ∧ dig ha 0 46 = p + i + 1 ∧ dig ha 0 47 = eI v ∧ nds tx L (3 - i) (p + i) v = F) (fun n z ha I => ?_) fu 3 (nI 0) h (by decide) ⟨0, 0, by omega, rfl, rfl, by omega, Fr.rf hM _, h46, h47, eF⟩
  obtain ⟨i, v, hi, rfl, rfl, hpi, hF, e46, e47, en⟩ := I
  have hM1 := hF.1
  have g46 := dig_gi e46
  have g47 := gi_eI e47
  have ht1 := ht.fr hF (by decide) (by decide)
  unfold fX10_takes_B58 fX10_takes_b58
  rw [T_fr, m_gI hM1 (by decide), g46]
  refine T_call (m_isFigure hM1 ht1 hpi) fun w hb P => ?_
  obtain ⟨rfl, rfl⟩ := P
  by_cases c : isD tx L (p + i)
  · rw [if_pos c, T_ifn (by decide)]
    by_cases c3 : i = 3
    · rw [T_ifp (by rw [c3]; decide), T_pp]
      rw [c3] at en
      have e0 : F = (p + 3, v) := en.symm
      refine Or.inr ⟨_, rfl, hF, ?_, ?_, ?_⟩
      · rw [e46, e0, c3]
      · rw [e47, e0]
      · rw [e0, c3]
        show nI 3 = nI (p + 3 - p)
        rw [show p + 3 - p = 3 by omega]
    · have cn : ¬ nI 3 ≤ nI i := nI_ge (by omega) (by decide)
      have g36 : gi hb 36 (p + i) = tx (p + i) := (ht1.2.2 _ c.1).1
      rw [li_3, T_ifn cn]
      have hM2 : MW (wI hb 0 47 (nI 10 * v + tx (p + i) - nI 48)) := MW_wI0 rfl hM1
      simp (disch := first | assumption | decide | omega | (simp only [ml_0, ml_1, ml_2, ml_3, ml_4, ml_5, ml_6, ml_7, ml_8, ml_9, ml_10, ml_11, ml_12, ml_13, ml_14, ml_15, ml_16, ml_17, ml_18, ml_19, ml_20, ml_21, ml_22, ml_23, ml_24, ml_25, ml_26, ml_27, ml_28, ml_29, ml_30, ml_31, ml_32, ml_33, ml_34, ml_35, ml_36]; omega) | (simp only [ml_0, ml_1, ml_2, ml_3, ml_4, ml_5, ml_6, ml_7, ml_8, ml_9, ml_10, ml_11, ml_12, ml_13, ml_14, ml_15, ml_16, ml_17, ml_18, ml_19, ml_20, ml_21, ml_22, ml_23, ml_24, ml_25, ml_26, ml_27, ml_28, ml_29, ml_30, ml_31, ml_32, ml_33, ml_34, ml_35, ml_36]; decide) | (apply MW_wIr (by decide); (repeat' (first | assumption | apply MW_wIr (by decide) | apply MW_wJr (by decide) | apply MW_wI0 rfl | apply MW_wJ0 rfl)); done) | (apply MW_wJr (by decide); (repeat' (first | assumption | apply MW_wIr (by decide) | apply MW_wJr (by decide) | apply MW_wI0 rfl | apply MW_wJ0 rfl)); done) | (apply MW_wI0 rfl; (repeat' (first | assumption | apply MW_wIr (by decide) | apply MW_wJr (by decide) | apply MW_wI0 rfl | apply MW_wJ0 rfl)); done) | (apply MW_wJ0 rfl; (repeat' (first | assumption | apply MW_wIr (by decide) | apply MW_wJr (by decide) | apply MW_wI0 rfl | apply MW_wJ0 rfl)); done)) only [T_fr, T_frJ, li_0, li_1, li_2, li_3, li_4, li_5, li_6, li_7, li_8, li_9, li_10, li_11, li_12, li_13, li_14, li_15, li_16, li_17, li_25, li_30, li_31, li_32, li_33, li_43, li_45, li_48, li_57, li_59, li_60, li_61, li_99, li_110, li_116, li_119, li_120, li_122, li_127, li_165, li_198, li_256, pk_mul, nI_add, m_chk, m_gA, mr_0, mr_1, mr_2, mr_4, mr_9, mr_10, mr_11, mr_12, mr_15, mr_16, mr_17, mr_18, mr_19, mr_20, mr_21, mr_22, mr_23, mr_24, mr_25, mr_27, mr_28, mr_29, mr_30, mr_31, mr_32, mr_33, mr_34, mr_36, mr_37, mr_38, mr_39, mr_40, mr_41, mr_42, mr_43, mr_44, m_gI, m_gJ, m_lI, m_lJ, m_tI, m_tJ, m_sI, m_sJ, T_pp, T_ifn, T_ifp, not_false_eq_true, not_true_eq_false, gi_wI_ne, gi_wJ_ne, gj_wI_ne, gj_wJ_ne, gi_wI_nk, gi_wJ_nk, gj_wI_nk, gj_wJ_nk, g46, g47, g36]
      refine Or.inl ⟨_, 3 - (i + 1), rfl, by omega, i + 1, nI 10 * v + tx (p + i) - nI 48, by omega, rfl, rfl, by have := c.1; omega, (hF.I0 rfl (by decide)).I0 rfl (by decide), ?_, ?_, ?_⟩
      · rw [dig_wIm hM2 (by decide), if_pos ⟨rfl, rfl⟩, eI_nI (by omega)]
        rfl
      · unfold wI
        rw [wr_dig_nk (eI_lt _) (by decide), wr_dig (eI_lt _) (by rw [hM1.1]; decide), if_pos ⟨rfl, rfl⟩]
      · rw [← en, show 3 - i = (3 - (i + 1)) + 1 by omega]
        show _ = (if isD tx L (p + i) then _ else _)
        rw [if_pos c]
        rfl
  · rw [if_neg c, T_ifp rfl, T_pp]
    have e0 : F = (p + i, v) := by
      rw [← en]
      cases hk : 3 - i with
      | zero => rfl
      | succ k =>
        show (if isD tx L (p + i) then _ else _) = _
        rw [if_neg c]
    refine Or.inr ⟨_, rfl, hF, ?_, ?_, ?_⟩
    · rw [e46, e0]
    · rw [e47, e0]
    · rw [e0]
      show nI i = nI (p + i - p)
      rw [show p + i - p = i by omega]
end S14
