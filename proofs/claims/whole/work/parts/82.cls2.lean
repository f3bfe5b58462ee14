section C2
variable {h h' : PH} {tx : Nat → Int32} {L : Nat}
/-- the script's cells change, its text doesn't; of the three rows only place n -/
def Fm (n : Nat) (h h' : PH) : Prop := Fc [20, 22, 23, 24] h h' ∧ (∀ k, k < 5 → dig h' 20 k = dig h 20 k) ∧ ∀ a k, a ∈ [22, 23, 24] → k ≠ n → dig h' a k = dig h a k
theorem Fm.rf (hC : CW h) (n : Nat) : Fm n h h := ⟨Fc.rf hC _, fun _ _ => rfl, fun _ _ _ _ => rfl⟩
theorem Fm.tr {n : Nat} {h1 h2 h3 : PH} (a : Fm n h1 h2) (b : Fm n h2 h3) : Fm n h1 h3 := ⟨a.1.tr b.1, fun k hk => by rw [b.2.1 k hk, a.2.1 k hk], fun x k hx hk => by rw [b.2.2 x k hx hk, a.2.2 x k hx hk]⟩
theorem Fo.m {K : List Nat} {n : Nat} (hC : CW h) (f : Fo K h h') (hK : ∀ k, k < 5 → k ∉ K) : Fm n h h' := ⟨f.fc.sub (by decide), fun k hk => f.2.2.2.1 k (hK k hk), fun a k ha _ => f.2.2.1 a k (by revert a; decide) (Nat.lt_of_lt_of_le (by revert a; decide) hC.1)⟩
theorem cr3 (a : Nat) (ha : a ∈ [22, 23, 24]) (n : Nat) : cref a n = 0 := by
  by_cases c : cref a n = 0
  · exact c
  · obtain ⟨-, h2⟩ := cref_lt c
    have key : ∀ a, a ∈ [22, 23, 24] → ∀ k, k < clen a → cref a k = 0 := by decide
    exact key a ha n h2
theorem Fm.row {n a : Nat} {v : Int32} {h0 : PH} (f : Fm n h0 h) (ha : a ∈ [22, 23, 24]) : Fm n h0 (wI h a n v) := by
  have hr : cref a n = 0 := cr3 a ha n
  refine ⟨f.1.I hr (List.mem_cons_of_mem _ ha), fun k hk => ?_, fun b k hb hk => ?_⟩
  · unfold wI
    have ne : ∀ a, a ∈ [22, 23, 24] → 20 ≠ a := by decide
    rw [wr_dig_ne (ne a ha)]
    exact f.2.1 k hk
  · unfold wI
    rw [wr_dig_nk (eI_lt v) hk]
    exact f.2.2 b k hb hk
theorem CTx.fm {n : Nat} (q : CTx h tx L) (hC : CW h) (f : Fm n h h') : CTx h' tx L := ⟨q.1, by rw [f.2.1 1 (by decide)]; exact q.2.1, fun i hi => by rw [fc_gi f.1 hC (by decide) (by decide)]; exact q.2.2 i hi⟩
theorem hr_lt {q : Nat} {c : Int32} (e : hr tx L q = c) (hc : c ≠ -1) : sk tx L q < L := by
  by_cases z : sk tx L q < L
  · exact z
  · unfold hr at e
    rw [if_neg z] at e
    exact absurd e.symm hc
def CmdAt (h : PH) (n : Nat) (c : Cm) : Prop := gi h 22 n = c.1 ∧ (¬ c.1 = 122 → gi h 23 n = c.2.1) ∧ (c.1 = 43 ∨ c.1 = 119 → gi h 24 n = c.2.2)
noncomputable def semi : PM Int32 := pb (fX7_skipBlanks 20) fun _ => pb (fX7_byteHere 20) fun v16 => (@ite _ (v16 = (59 : Int32)) (dEq v16 (59 : Int32)) (pb (gI 6 6 20) fun v19 => pb (sI 6 6 20 (v19 + (1 : Int32))) fun _ => pb (gI 6 5 20) fun v21 => pb (sI 6 5 20 (v21 + (1 : Int32))) fun _ => pp (1 : Int32)) (pp (0 : Int32)))
theorem c_semi (hC : CW h) (ht : CTx h tx L) {p n : Nat} (hp : p ≤ L) (hn : n < 60) (h6 : dig h 20 6 = p + 1) (h5 : dig h 20 5 = n + 1) : T semi h (fun v h' => Fo [5, 6] h h' ∧ ((hr tx L p = 59 ∧ v = 1 ∧ dig h' 20 6 = sk tx L p + 1 + 1 ∧ dig h' 20 5 = n + 1 + 1) ∨ (hr tx L p ≠ 59 ∧ v = 0 ∧ dig h' 20 6 = sk tx L p + 1))) := by
  unfold semi
  have L120 := ht.1
  have sl := sk_le (tx := tx) hp
  refine T_call (c_skipBlanks hC ht hp h6) fun _ h1 P => ?_
  obtain ⟨f1, d1⟩ := P
  have hC1 := f1.1
  have ht1 := ht.fo hC f1 (by decide)
  refine T_call (c_byteHere hC1 ht1 sl d1) fun v h2 P => ?_
  obtain ⟨rfl, rfl⟩ := P
  have ehr : (if sk tx L p < L then tx (sk tx L p) else -1) = hr tx L p := rfl
  rw [ehr]
  by_cases c : hr tx L p = 59
  · rw [T_ifp c, c_gI hC1 (by decide) (by decide) (by decide), dig_gi d1, c_sI hC1 (by decide) (by decide) (by decide)]
    have hC2 : CW (wI h2 20 6 (nI (sk tx L p) + 1)) := CW_wI rfl hC1
    have e5 : dig (wI h2 20 6 (nI (sk tx L p) + 1)) 20 5 = n + 1 := by rw [dig_wIc hC1 (by decide), if_neg (by decide), f1.2.2.2.1 5 (by decide)]; exact h5
    rw [c_gI hC2 (by decide) (by decide) (by decide), dig_gi e5, c_sI hC2 (by decide) (by decide) (by decide), T_pp]
    refine ⟨((f1.sub (by decide)).I (by decide) rfl).I (by decide) rfl, Or.inl ⟨c, rfl, ?_, ?_⟩⟩
    · rw [dig_wIc hC2 (by decide), if_neg (by decide), dig_wIc hC1 (by decide), if_pos ⟨rfl, rfl⟩, nI_1, eI_nI (by omega)]
    · rw [dig_wIc hC2 (by decide), if_pos ⟨rfl, rfl⟩, nI_1, eI_nI (by omega)]
  · rw [T_ifn c, T_pp]
    exact ⟨f1.sub (by decide), Or.inr ⟨c, rfl, d1⟩⟩
/-- what parseCommand leaves -/
def PCm (tx : Nat → Int32) (L p n : Nat) (h : PH) (v : Int32) (h' : PH) : Prop := Fm n h h' ∧ dig h' 20 6 = (cm tx L p).2.2 + 1 ∧ (cm tx L p).2.2 ≤ L ∧ ((v = 1 ∧ (cm tx L p).1 = true ∧ p + 2 ≤ (cm tx L p).2.2 ∧ dig h' 20 5 = n + 1 + 1 ∧ CmdAt h' n (cm tx L p).2.1) ∨ (v = 0 ∧ (cm tx L p).1 = false))
theorem nge (s : Bool) (k : Nat) : k ≤ (nm tx L s k).2.2 := by
  have a := (nds_le (tx := tx) (L := L) 3 (nb2 tx L s k) 0).1
  have b := sk_ge (tx := tx) (L := L) k
  have d : sk tx L k ≤ nb2 tx L s k := by
    unfold nb2
    split <;> omega
  show k ≤ (nds tx L 3 (nb2 tx L s k) 0).1
  omega
theorem nm_le' {sg : Bool} {p : Nat} (hp : p ≤ L) (ht : CTx h tx L) : (nm tx L sg p).2.2 ≤ L := (nds_le 3 _ 0).2.1 (nb2_le' hp ht)
/-- the end of a command whose numbers stand -/
theorem c_semiEnd {h0 : PH} (hC0 : CW h0) (hC : CW h) (ht : CTx h tx L) {p n : Nat} (hn : n < 60) (f : Fm n h0 h) (skl : sk tx L p < L) (hc : isC (hr tx L p)) (ok : (tn tx L (hr tx L p) (sk tx L p + 1)).1 = true) (l3 : (tn tx L (hr tx L p) (sk tx L p + 1)).2.2.2 ≤ L) (g3 : sk tx L p + 1 ≤ (tn tx L (hr tx L p) (sk tx L p + 1)).2.2.2) (h6 : dig h 20 6 = (tn tx L (hr tx L p) (sk tx L p + 1)).2.2.2 + 1) (h5 : dig h 20 5 = n + 1) (hcm : CmdAt h n (hr tx L p, (tn tx L (hr tx L p) (sk tx L p + 1)).2.1, (tn tx L (hr tx L p) (sk tx L p + 1)).2.2.1)) : T semi h (PCm tx L p n h0) := by
  refine T_mono (c_semi hC ht l3 hn h6 h5) fun v h' P => ?_
  obtain ⟨fo, P⟩ := P
  have sg := sk_ge (tx := tx) (L := L) p
  have ge := sk_ge (tx := tx) (L := L) (tn tx L (hr tx L p) (sk tx L p + 1)).2.2.2
  have le4 := sk_le (tx := tx) l3
  have fm : Fm n h h' := fo.m hC (by decide)
  rcases P with ⟨c5, rfl, d6, d5⟩ | ⟨c5, rfl, d6⟩
  · have ecm : cm tx L p = (true, (hr tx L p, (tn tx L (hr tx L p) (sk tx L p + 1)).2.1, (tn tx L (hr tx L p) (sk tx L p + 1)).2.2.1), sk tx L (tn tx L (hr tx L p) (sk tx L p + 1)).2.2.2 + 1) := by
      unfold cm
      rw [if_pos hc, if_pos ok, if_pos c5]
    have sl2 : sk tx L (tn tx L (hr tx L p) (sk tx L p + 1)).2.2.2 < L := by
      exact hr_lt c5 (by decide)
    unfold PCm
    rw [ecm]
    refine ⟨f.tr fm, d6, by dsimp only; omega, Or.inl ⟨rfl, rfl, by dsimp only; omega, d5, ?_⟩⟩
    obtain ⟨k1, k2, k3⟩ := hcm
    refine ⟨?_, fun z => ?_, fun z => ?_⟩
    · rw [fc_gi fo.fc hC (by decide) (by decide)]; exact k1
    · rw [fc_gi fo.fc hC (by decide) (by decide)]; exact k2 z
    · rw [fc_gi fo.fc hC (by decide) (by decide)]; exact k3 z
  · have ecm : cm tx L p = (false, (0, 0, 0), sk tx L (tn tx L (hr tx L p) (sk tx L p + 1)).2.2.2) := by
      unfold cm
      rw [if_pos hc, if_pos ok, if_neg c5]
    unfold PCm
    rw [ecm]
    exact ⟨f.tr fm, d6, le4, Or.inr ⟨rfl, rfl⟩⟩
theorem c_bad {h0 : PH} {p n : Nat} (f : Fm n h0 h) (hc : isC (hr tx L p)) (ok : ¬ (tn tx L (hr tx L p) (sk tx L p + 1)).1 = true) (l3 : (tn tx L (hr tx L p) (sk tx L p + 1)).2.2.2 ≤ L) (h6 : dig h 20 6 = (tn tx L (hr tx L p) (sk tx L p + 1)).2.2.2 + 1) : PCm tx L p n h0 0 h := by
  have ecm : cm tx L p = (false, (0, 0, 0), (tn tx L (hr tx L p) (sk tx L p + 1)).2.2.2) := by
    unfold cm
    rw [if_pos hc, if_neg ok]
  unfold PCm
  rw [ecm]
  exact ⟨f, h6, l3, Or.inr ⟨rfl, rfl⟩⟩
/-- one number, then the end, or a second number and the end -/
theorem c_nums {h0 : PH} (hC0 : CW h0) (hC : CW h) (ht : CTx h tx L) {p n : Nat} (hn : n < 60) (f : Fm n h0 h) (skl : sk tx L p < L) {c : Int32} (hcc : hr tx L p = c) (hc : isC c) (c1 : ¬ c = 122) (h6 : dig h 20 6 = sk tx L p + 1 + 1) (h5 : dig h 20 5 = n + 1) (hk : gi h 22 n = c) {v3 : Int32} (h3 : (v3 = 1 ∧ ¬ (c = 43 ∨ c = 119)) ∨ (v3 = 2 ∧ (c = 43 ∨ c = 119))) : T (pb (fX7_parseNumber 20 (if decide (c = 43) = true then 1 else 0)) fun v73 => (@ite _ (v73 = 0) (dEq v73 0) (pp (0 : Int32)) (pb (gA 6 3 20) fun v76 => pb (gI 6 5 20) fun v77 => pb (gI 6 7 20) fun v78 => pb (tI 17 v76 v77 v78) fun _ => (@ite _ (v3 ≤ (1 : Int32)) (dLe v3 (1 : Int32)) semi (pb (fX7_parseNumber 20 (0 : Int32)) fun v90 => (@ite _ (v90 = 0) (dEq v90 0) (pp (0 : Int32)) (pb (gA 6 4 20) fun v93 => pb (gI 6 5 20) fun v94 => pb (gI 6 7 20) fun v95 => pb (tI 17 v93 v94 v95) fun _ => semi))))))) h (PCm tx L p n h0) := by
  have L120 := ht.1
  subst hcc
  have lp : sk tx L p + 1 ≤ L := skl
  have l1 := nm_le' (sg := decide (hr tx L p = 43)) lp ht
  have g1 := nge (tx := tx) (L := L) (decide (hr tx L p = 43)) (sk tx L p + 1)
  refine T_call (c_parseNumber hC ht lp h6 (decide (hr tx L p = 43))) fun v h1 P => ?_
  obtain ⟨f1, d1, e1, rfl⟩ := P
  have hC1 := f1.1
  have ht1 := ht.fo hC f1 (by decide)
  have fm1 : Fm n h0 h1 := f.tr (f1.m hC (by decide))
  by_cases ok : (nm tx L (decide (hr tx L p = 43)) (sk tx L p + 1)).1 = true
  · rw [if_pos ok, T_ifn (by decide)]
    have e5 : dig h1 20 5 = n + 1 := by rw [f1.2.2.2.1 5 (by decide)]; exact h5
    rw [c_gA hC1 (by decide) (by decide), cr_20_3, c_gI hC1 (by decide) (by decide) (by decide), dig_gi e5, c_gI hC1 (by decide) (by decide) (by decide), e1, c_tI hC1 (by decide) (by decide) (by rw [cl_23]; exact hn)]
    have r23 : cref 23 n = 0 := cr3 23 (by decide) n
    have hC2 : CW (wI h1 23 n (nm tx L (decide (hr tx L p = 43)) (sk tx L p + 1)).2.1) := CW_wI r23 hC1
    have fm2 : Fm n h0 (wI h1 23 n (nm tx L (decide (hr tx L p = 43)) (sk tx L p + 1)).2.1) := fm1.row (by decide)
    have ht2 : CTx (wI h1 23 n (nm tx L (decide (hr tx L p = 43)) (sk tx L p + 1)).2.1) tx L := ht1.fm hC1 ((Fm.rf hC1 n).row (by decide))
    have d2 : ∀ k, dig (wI h1 23 n (nm tx L (decide (hr tx L p = 43)) (sk tx L p + 1)).2.1) 20 k = dig h1 20 k := fun k => by unfold wI; exact wr_dig_ne (by decide)
    have k22 : gi (wI h1 23 n (nm tx L (decide (hr tx L p = 43)) (sk tx L p + 1)).2.1) 22 n = hr tx L p := by rw [gi_wI_ne (by decide), fc_gi f1.fc hC (by decide) (by decide)]; exact hk
    have k23 : gi (wI h1 23 n (nm tx L (decide (hr tx L p = 43)) (sk tx L p + 1)).2.1) 23 n = (nm tx L (decide (hr tx L p = 43)) (sk tx L p + 1)).2.1 := by rw [gi_wIc hC1 (by decide), if_pos ⟨rfl, rfl⟩]
    rcases h3 with ⟨rfl, c2⟩ | ⟨rfl, c2⟩
    · have etn : tn tx L (hr tx L p) (sk tx L p + 1) = (true, (nm tx L (decide (hr tx L p = 43)) (sk tx L p + 1)).2.1, 0, (nm tx L (decide (hr tx L p = 43)) (sk tx L p + 1)).2.2) := by
        unfold tn
        rw [if_neg c1, if_pos ok, if_neg c2]
      rw [T_ifp (by decide)]
      refine c_semiEnd hC0 hC2 ht2 hn fm2 skl hc (by rw [etn]) (by rw [etn]; exact l1) (by rw [etn]; exact g1) (by rw [etn, d2]; exact d1) (by rw [d2]; exact e5) ?_
      rw [etn]
      exact ⟨k22, fun _ => k23, fun z => absurd z c2⟩
    · have etn : tn tx L (hr tx L p) (sk tx L p + 1) = ((nm tx L false (nm tx L (decide (hr tx L p = 43)) (sk tx L p + 1)).2.2).1, (nm tx L (decide (hr tx L p = 43)) (sk tx L p + 1)).2.1, (nm tx L false (nm tx L (decide (hr tx L p = 43)) (sk tx L p + 1)).2.2).2.1, (nm tx L false (nm tx L (decide (hr tx L p = 43)) (sk tx L p + 1)).2.2).2.2) := by
        unfold tn
        rw [if_neg c1, if_pos ok, if_pos c2]
      rw [T_ifn (by decide)]
      have l2 := nm_le' (sg := false) l1 ht
      have g2 := nge (tx := tx) (L := L) false (nm tx L (decide (hr tx L p = 43)) (sk tx L p + 1)).2.2
      refine T_call (c_parseNumber hC2 ht2 l1 (by rw [d2]; exact d1) false) fun v h3 P => ?_
      obtain ⟨f3, d3, e3, rfl⟩ := P
      have hC3 := f3.1
      have fm3 : Fm n h0 h3 := fm2.tr (f3.m hC2 (by decide))
      by_cases ok2 : (nm tx L false (nm tx L (decide (hr tx L p = 43)) (sk tx L p + 1)).2.2).1 = true
      · rw [if_pos ok2, T_ifn (by decide)]
        have e5' : dig h3 20 5 = n + 1 := by rw [f3.2.2.2.1 5 (by decide), d2]; exact e5
        rw [c_gA hC3 (by decide) (by decide), cr_20_4, c_gI hC3 (by decide) (by decide) (by decide), dig_gi e5', c_gI hC3 (by decide) (by decide) (by decide), e3, c_tI hC3 (by decide) (by decide) (by rw [cl_24]; exact hn)]
        have r24 : cref 24 n = 0 := cr3 24 (by decide) n
        have hC4 := CW_wI (v := (nm tx L false (nm tx L (decide (hr tx L p = 43)) (sk tx L p + 1)).2.2).2.1) r24 hC3
        have d4 : ∀ k, dig (wI h3 24 n (nm tx L false (nm tx L (decide (hr tx L p = 43)) (sk tx L p + 1)).2.2).2.1) 20 k = dig h3 20 k := fun k => by unfold wI; exact wr_dig_ne (by decide)
        have ht3 := ht2.fo hC2 f3 (by decide)
        refine c_semiEnd hC0 hC4 (ht3.fm hC3 ((Fm.rf hC3 n).row (by decide))) hn (fm3.row (by decide)) skl hc (by rw [etn]; exact ok2) (by rw [etn]; exact l2) (by rw [etn]; dsimp only; omega) (by rw [etn, d4]; exact d3) (by rw [d4]; exact e5') ?_
        rw [etn]
        refine ⟨?_, fun _ => ?_, fun _ => ?_⟩
        · rw [gi_wI_ne (by decide), fc_gi f3.fc hC2 (by decide) (by decide)]; exact k22
        · rw [gi_wI_ne (by decide), fc_gi f3.fc hC2 (by decide) (by decide)]; exact k23
        · rw [gi_wIc hC3 (by decide), if_pos ⟨rfl, rfl⟩]
      · rw [if_neg ok2, T_ifp rfl, T_pp]
        exact c_bad fm3 hc (by rw [etn]; exact ok2) (by rw [etn]; exact l2) (by rw [etn]; exact d3)
  · have etn : tn tx L (hr tx L p) (sk tx L p + 1) = (false, 0, 0, (nm tx L (decide (hr tx L p = 43)) (sk tx L p + 1)).2.2) := by
      unfold tn
      rw [if_neg c1, if_neg ok]
    rw [if_neg ok, T_ifp rfl, T_pp]
    exact c_bad fm1 hc (by rw [etn]; exact Bool.false_ne_true) (by rw [etn]; exact l1) (by rw [etn]; exact d1)
end C2
