section C3
variable {h h' : PH} {tx : Nat → Int32} {L : Nat}
theorem c_numbersOf (c : Int32) : T (fX7_numbersOf c) h (fun v h' => h' = h ∧ v = if c = 43 then 2 else if c = 110 then 1 else if c = 116 then 1 else if c = 119 then 2 else if c = 122 then 0 else -1) := by
  unfold fX7_numbersOf
  by_cases c1 : c = 43
  · rw [T_ifp c1, T_pp, if_pos c1]; exact ⟨rfl, rfl⟩
  · rw [T_ifn c1, if_neg c1]
    by_cases c2 : c = 110
    · rw [T_ifp c2, T_pp, if_pos c2]; exact ⟨rfl, rfl⟩
    · rw [T_ifn c2, if_neg c2]
      by_cases c3 : c = 116
      · rw [T_ifp c3, T_pp, if_pos c3]; exact ⟨rfl, rfl⟩
      · rw [T_ifn c3, if_neg c3]
        by_cases c4 : c = 119
        · rw [T_ifp c4, T_pp, if_pos c4]; exact ⟨rfl, rfl⟩
        · rw [T_ifn c4, if_neg c4]
          by_cases c5 : c = 122
          · rw [T_ifp c5, T_pp, if_pos c5]; exact ⟨rfl, rfl⟩
          · rw [T_ifn c5, if_neg c5, T_pp]; exact ⟨rfl, rfl⟩
theorem pcmd_eq : fX7_parseCommand 20 = pb (chk 6 20) fun _ => pb (fX7_byteHere 20) fun v1 => pb (fX7_numbersOf v1) fun v3 => (@ite _ (v3 = (-1 : Int32)) (dEq v3 (-1 : Int32)) (pp (0 : Int32)) (pb (gI 6 5 20) fun v5 => (@ite _ (v5 < (60 : Int32)) (dLt v5 (60 : Int32)) (pb (gI 6 6 20) fun v7 => pb (sI 6 6 20 (v7 + (1 : Int32))) fun _ => pb (gA 6 2 20) fun v9 => pb (gI 6 5 20) fun v10 => pb (tI 17 v9 v10 v1) fun _ => (@ite _ (v3 ≤ 0) (dLe v3 0) (@ite _ (v3 ≤ (1 : Int32)) (dLe v3 (1 : Int32)) semi (pb (fX7_parseNumber 20 (0 : Int32)) fun v23 => (@ite _ (v23 = 0) (dEq v23 0) (pp (0 : Int32)) (pb (gA 6 4 20) fun v26 => pb (gI 6 5 20) fun v27 => pb (gI 6 7 20) fun v28 => pb (tI 17 v26 v27 v28) fun _ => semi)))) (@ite _ (v1 = (43 : Int32)) (dEq v1 (43 : Int32)) (pb (fX7_parseNumber 20 (1 : Int32)) fun v73 => (@ite _ (v73 = 0) (dEq v73 0) (pp (0 : Int32)) (pb (gA 6 3 20) fun v76 => pb (gI 6 5 20) fun v77 => pb (gI 6 7 20) fun v78 => pb (tI 17 v76 v77 v78) fun _ => (@ite _ (v3 ≤ (1 : Int32)) (dLe v3 (1 : Int32)) semi (pb (fX7_parseNumber 20 (0 : Int32)) fun v90 => (@ite _ (v90 = 0) (dEq v90 0) (pp (0 : Int32)) (pb (gA 6 4 20) fun v93 => pb (gI 6 5 20) fun v94 => pb (gI 6 7 20) fun v95 => pb (tI 17 v93 v94 v95) fun _ => semi))))))) (pb (fX7_parseNumber 20 (0 : Int32)) fun v73 => (@ite _ (v73 = 0) (dEq v73 0) (pp (0 : Int32)) (pb (gA 6 3 20) fun v76 => pb (gI 6 5 20) fun v77 => pb (gI 6 7 20) fun v78 => pb (tI 17 v76 v77 v78) fun _ => (@ite _ (v3 ≤ (1 : Int32)) (dLe v3 (1 : Int32)) semi (pb (fX7_parseNumber 20 (0 : Int32)) fun v90 => (@ite _ (v90 = 0) (dEq v90 0) (pp (0 : Int32)) (pb (gA 6 4 20) fun v93 => pb (gI 6 5 20) fun v94 => pb (gI 6 7 20) fun v95 => pb (tI 17 v93 v94 v95) fun _ => semi)))))))))) (pp (0 : Int32))))) := rfl
theorem c_parseCommand (hC : CW h) (ht : CTx h tx L) {p n : Nat} (hp : p < L) (hsk : sk tx L p = p) (hn : n < 60) (h6 : dig h 20 6 = p + 1) (h5 : dig h 20 5 = n + 1) : T (fX7_parseCommand 20) h (PCm tx L p n h) := by
  have L120 := ht.1
  have ehr : hr tx L p = tx p := by unfold hr; rw [hsk, if_pos hp]
  rw [pcmd_eq, c_chk hC (by decide) (by decide)]
  refine T_call (c_byteHere hC ht (by omega) h6) fun v h1 P => ?_
  obtain ⟨rfl, rfl⟩ := P
  rw [if_pos hp, ← ehr]
  refine T_call (c_numbersOf _) fun v h2 P => ?_
  obtain ⟨rfl, rfl⟩ := P
  have skl : sk tx L p < L := by rw [hsk]; exact hp
  by_cases hc : isC (hr tx L p)
  · have start : ∀ {v3 : Int32} {K : PM Int32}, ¬ v3 = -1 → (∀ hx, CW hx → CTx hx tx L → Fm n h2 hx → dig hx 20 6 = sk tx L p + 1 + 1 → dig hx 20 5 = n + 1 → gi hx 22 n = hr tx L p → T K hx (PCm tx L p n h2)) → T (@ite _ (v3 = (-1 : Int32)) (dEq v3 (-1 : Int32)) (pp (0 : Int32)) (pb (gI 6 5 20) fun v5 => (@ite _ (v5 < (60 : Int32)) (dLt v5 (60 : Int32)) (pb (gI 6 6 20) fun v7 => pb (sI 6 6 20 (v7 + (1 : Int32))) fun _ => pb (gA 6 2 20) fun v9 => pb (gI 6 5 20) fun v10 => pb (tI 17 v9 v10 (hr tx L p)) fun _ => K) (pp (0 : Int32))))) h2 (PCm tx L p n h2) := by
      intro v3 K hv hK
      rw [T_ifn hv, c_gI hC (by decide) (by decide) (by decide), dig_gi h5, li_60, T_ifp (nI_lt hn (by decide)), c_gI hC (by decide) (by decide) (by decide), dig_gi h6, c_sI hC (by decide) (by decide) (by decide)]
      have hC1 : CW (wI h2 20 6 (nI p + 1)) := CW_wI rfl hC
      have e5 : dig (wI h2 20 6 (nI p + 1)) 20 5 = n + 1 := by rw [dig_wIc hC (by decide), if_neg (by decide)]; exact h5
      rw [c_gA hC1 (by decide) (by decide), cr_20_2, c_gI hC1 (by decide) (by decide) (by decide), dig_gi e5, c_tI hC1 (by decide) (by decide) (by rw [cl_22]; exact hn)]
      have r22 : cref 22 n = 0 := cr3 22 (by decide) n
      have fo1 : Fo [6] h2 (wI h2 20 6 (nI p + 1)) := (Fo.rf hC [6]).I (by decide) rfl
      have fm2 : Fm n h2 (wI (wI h2 20 6 (nI p + 1)) 22 n (hr tx L p)) := (fo1.m hC (by decide)).row (by decide)
      refine hK _ (CW_wI r22 hC1) (ht.fm hC fm2) fm2 ?_ ?_ ?_
      · unfold wI
        rw [wr_dig_ne (by decide), wr_dig (eI_lt _) (Nat.lt_of_lt_of_le (by decide) hC.1), if_pos ⟨rfl, rfl⟩, nI_1, eI_nI (by omega), hsk]
      · unfold wI
        rw [wr_dig_ne (by decide)]
        exact e5
      · rw [gi_wIc hC1 (by decide), if_pos ⟨rfl, rfl⟩]
    generalize ecc : hr tx L p = c at hc
    rw [ecc] at start
    rcases hc with rfl | rfl | rfl | rfl | rfl
    · rw [show (if (110 : Int32) = 43 then (2 : Int32) else if (110 : Int32) = 110 then 1 else if (110 : Int32) = 116 then 1 else if (110 : Int32) = 119 then 2 else if (110 : Int32) = 122 then 0 else -1) = 1 from by decide]
      refine start (v3 := 1) (by decide) fun hx cx tx' fx d6 d5 g22 => ?_
      rw [T_ifn (by decide), T_ifn (by decide)]
      exact c_nums hC cx tx' hn fx skl ecc (by decide) (by decide) d6 d5 g22 (Or.inl ⟨rfl, by decide⟩)
    · rw [show (if (43 : Int32) = 43 then (2 : Int32) else if (43 : Int32) = 110 then 1 else if (43 : Int32) = 116 then 1 else if (43 : Int32) = 119 then 2 else if (43 : Int32) = 122 then 0 else -1) = 2 from by decide]
      refine start (v3 := 2) (by decide) fun hx cx tx' fx d6 d5 g22 => ?_
      rw [T_ifn (by decide), T_ifp rfl]
      exact c_nums hC cx tx' hn fx skl ecc (by decide) (by decide) d6 d5 g22 (Or.inr ⟨rfl, by decide⟩)
    · rw [show (if (116 : Int32) = 43 then (2 : Int32) else if (116 : Int32) = 110 then 1 else if (116 : Int32) = 116 then 1 else if (116 : Int32) = 119 then 2 else if (116 : Int32) = 122 then 0 else -1) = 1 from by decide]
      refine start (v3 := 1) (by decide) fun hx cx tx' fx d6 d5 g22 => ?_
      rw [T_ifn (by decide), T_ifn (by decide)]
      exact c_nums hC cx tx' hn fx skl ecc (by decide) (by decide) d6 d5 g22 (Or.inl ⟨rfl, by decide⟩)
    · rw [show (if (119 : Int32) = 43 then (2 : Int32) else if (119 : Int32) = 110 then 1 else if (119 : Int32) = 116 then 1 else if (119 : Int32) = 119 then 2 else if (119 : Int32) = 122 then 0 else -1) = 2 from by decide]
      refine start (v3 := 2) (by decide) fun hx cx tx' fx d6 d5 g22 => ?_
      rw [T_ifn (by decide), T_ifn (by decide)]
      exact c_nums hC cx tx' hn fx skl ecc (by decide) (by decide) d6 d5 g22 (Or.inr ⟨rfl, by decide⟩)
    · rw [show (if (122 : Int32) = 43 then (2 : Int32) else if (122 : Int32) = 110 then 1 else if (122 : Int32) = 116 then 1 else if (122 : Int32) = 119 then 2 else if (122 : Int32) = 122 then 0 else -1) = 0 from by decide]
      refine start (v3 := 0) (by decide) fun hx cx tx' fx d6 d5 g22 => ?_
      rw [T_ifp (by decide), T_ifp (by decide)]
      have etn : tn tx L (hr tx L p) (sk tx L p + 1) = (true, 0, 0, sk tx L p + 1) := by
        unfold tn
        rw [ecc, if_pos rfl]
      refine c_semiEnd hC cx tx' hn fx skl (by rw [ecc]; decide) (by rw [etn]) (by rw [etn]; exact skl) (by rw [etn]; exact Nat.le_refl _) (by rw [etn]; exact d6) d5 ?_
      rw [etn, ecc]
      exact ⟨g22, fun z => absurd rfl z, fun z => absurd z (show ¬ ((122 : Int32) = 43 ∨ (122 : Int32) = 119) from by decide)⟩
  · have ev : (if hr tx L p = 43 then (2 : Int32) else if hr tx L p = 110 then 1 else if hr tx L p = 116 then 1 else if hr tx L p = 119 then 2 else if hr tx L p = 122 then 0 else -1) = -1 := by
      rw [if_neg (fun z => hc (Or.inr (Or.inl z))), if_neg (fun z => hc (Or.inl z)), if_neg (fun z => hc (Or.inr (Or.inr (Or.inl z)))), if_neg (fun z => hc (Or.inr (Or.inr (Or.inr (Or.inl z))))), if_neg (fun z => hc (Or.inr (Or.inr (Or.inr (Or.inr z)))))]
    rw [ev, T_ifp rfl, T_pp]
    have ecm : cm tx L p = (false, (0, 0, 0), sk tx L p) := by
      unfold cm
      rw [if_neg hc]
    unfold PCm
    rw [ecm]
    exact ⟨Fm.rf hC n, by rw [hsk]; exact h6, by dsimp only; omega, Or.inr ⟨rfl, rfl⟩⟩
theorem gi_of {a k : Nat} (e : dig h' a k = dig h a k) : gi h' a k = gi h a k := by unfold gi; rw [e]
theorem CmdAt.fm {n j : Nat} {c : Cm} (q : CmdAt h j c) (f : Fm n h h') (hj : j ≠ n) : CmdAt h' j c := by
  obtain ⟨q1, q2, q3⟩ := q
  refine ⟨?_, fun z => ?_, fun z => ?_⟩
  · rw [gi_of (f.2.2 22 j (by decide) hj)]; exact q1
  · rw [gi_of (f.2.2 23 j (by decide) hj)]; exact q2 z
  · rw [gi_of (f.2.2 24 j (by decide) hj)]; exact q3 z
theorem CmdAt.fo {K : List Nat} {j : Nat} {c : Cm} (q : CmdAt h j c) (hC : CW h) (f : Fo K h h') : CmdAt h' j c := by
  obtain ⟨q1, q2, q3⟩ := q
  refine ⟨?_, fun z => ?_, fun z => ?_⟩
  · rw [fc_gi f.fc hC (by decide) (by decide)]; exact q1
  · rw [fc_gi f.fc hC (by decide) (by decide)]; exact q2 z
  · rw [fc_gi f.fc hC (by decide) (by decide)]; exact q3 z
theorem prL_sk (m q : Nat) : prL tx L (m + 1) (sk tx L q) = prL tx L (m + 1) q := by rw [prL_s, prL_s, cm_sk]
/-- the script's cells may change, not its text -/
def FF (h h' : PH) : Prop := Fc [20, 22, 23, 24] h h' ∧ ∀ k, k < 5 → dig h' 20 k = dig h 20 k
theorem FF.tr {h1 h2 h3 : PH} (a : FF h1 h2) (b : FF h2 h3) : FF h1 h3 := ⟨a.1.tr b.1, fun k hk => by rw [b.2 k hk, a.2 k hk]⟩
theorem Fo.ff {K : List Nat} (f : Fo K h h') (hK : ∀ k, k < 5 → k ∉ K) : FF h h' := ⟨f.fc.sub (by decide), fun k hk => f.2.2.2.1 k (hK k hk)⟩
theorem Fm.ff {n : Nat} (f : Fm n h h') : FF h h' := ⟨f.1, f.2.1⟩
theorem CTx.ff (q : CTx h tx L) (hC : CW h) (f : FF h h') : CTx h' tx L := ⟨q.1, by rw [f.2 1 (by decide)]; exact q.2.1, fun i hi => by rw [fc_gi f.1 hC (by decide) (by decide)]; exact q.2.2 i hi⟩
theorem hr_end {q : Nat} (ht : CTx h tx L) : hr tx L q = -1 ↔ ¬ sk tx L q < L := by
  unfold hr
  split
  · rename_i c
    refine ⟨fun e => ?_, fun z => absurd c z⟩
    have := (ht.2.2 _ c).2.1
    rw [e] at this
    exact absurd this (by decide)
  · rename_i c
    exact ⟨fun _ => c, fun _ => rfl⟩
theorem c_parse (hC : CW h) (ht : CTx h tx L) : T (fX7_parse 20) h (fun v h' => FF h h' ∧ ((∃ p, v = nI p ∧ p ≤ L ∧ prL tx L 121 0 = .inl p) ∨ (∃ cs, v = -1 ∧ prL tx L 121 0 = .inr cs ∧ cs.length ≤ 60 ∧ dig h' 20 5 = cs.length + 1 ∧ ∀ k c, cs[k]? = some c → CmdAt h' k c))) := by
  have L120 := ht.1
  unfold fX7_parse
  rw [c_chk hC (by decide) (by decide), c_sI hC (by decide) (by decide) (by decide)]
  have hC1 : CW (wI h 20 5 0) := CW_wI rfl hC
  rw [c_sI hC1 (by decide) (by decide) (by decide)]
  have hC2 : CW (wI (wI h 20 5 0) 20 6 0) := CW_wI rfl hC1
  have f2 : Fo [5, 6] h (wI (wI h 20 5 0) 20 6 0) := ((Fo.rf hC [5, 6]).I (by decide) rfl).I (by decide) rfl
  have d6 : dig (wI (wI h 20 5 0) 20 6 0) 20 6 = 0 + 1 := by rw [dig_wIc hC1 (by decide), if_pos ⟨rfl, rfl⟩]; rfl
  have d5 : dig (wI (wI h 20 5 0) 20 6 0) 20 5 = 0 + 1 := by rw [dig_wIc hC1 (by decide), if_neg (by decide), dig_wIc hC (by decide), if_pos ⟨rfl, rfl⟩]; rfl
  have ht2 := ht.fo hC f2 (by decide)
  refine T_call (c_skipBlanks hC2 ht2 (Nat.zero_le _) d6) fun _ h3 P => ?_
  obtain ⟨f3, e6⟩ := P
  have hC3 := f3.1
  have f13 : FF h h3 := (f2.ff (by decide)).tr (f3.ff (by decide))
  have ht3 := ht.ff hC f13
  have e5 : dig h3 20 5 = 0 + 1 := by rw [f3.2.2.2.1 5 (by decide)]; exact d5
  have sl := sk_le (tx := tx) (Nat.zero_le L)
  rw [c_gI hC3 (by decide) (by decide) (by decide), c_gI hC3 (by decide) (by decide) (by decide), dig_gi e6, dig_gi ht3.2.1]
  generalize eR : prL tx L 121 0 = R
  by_cases c0 : sk tx L 0 = L
  · rw [T_ifp (by rw [c0]), c_gI hC3 (by decide) (by decide) (by decide), dig_gi e6, T_pp]
    refine ⟨f13, Or.inl ⟨_, rfl, sl, ?_⟩⟩
    have hz : hr tx L 0 = -1 := (hr_end ht).mpr (by omega)
    have ecm : cm tx L 0 = (false, (0, 0, 0), sk tx L 0) := by
      unfold cm
      rw [hz, if_neg (by decide)]
    rw [← eR, prL_s, ecm]
    rfl
  · rw [T_ifn (by rw [nI_eq (by omega) (by omega)]; exact c0)]
    refine T_call (P := fun z h' => FF h h' ∧ ((∃ p, z = .inl (nI p) ∧ p ≤ L ∧ R = .inl p) ∨ (∃ cs, z = .inr () ∧ R = .inr cs ∧ cs.length ≤ 60 ∧ dig h' 20 5 = cs.length + 1 ∧ ∀ k c, cs[k]? = some c → CmdAt h' k c))) ?_ fun z h' P => ?_
    · refine T_loop (fun n x ha => ∃ (k p : Nat) (l : List Cm) (m : Nat), x = nI k ∧ n = 60 - k ∧ k ≤ 60 ∧ l.length = k ∧ p ≤ L ∧ sk tx L p = p ∧ 2 * k ≤ p ∧ FF h ha ∧ dig ha 20 6 = p + 1 ∧ dig ha 20 5 = k + 1 ∧ (∀ j c, l[j]? = some c → CmdAt ha j c) ∧ ((p < L ∧ L - p < m ∧ R = Sum.map id (fun y => l ++ y) (prL tx L m p)) ∨ (p = L ∧ R = .inr l))) (fun n x ha I => ?_) fu 60 (nI 0) h3 (by decide) ⟨0, sk tx L 0, [], 121, rfl, rfl, by omega, rfl, sl, sk_sk 0, by omega, f13, e6, e5, (fun j c z => by cases z), Or.inl ⟨by omega, by omega, ?_⟩⟩
      · obtain ⟨k, p, l, m, rfl, rfl, hk, hl, lp, hsk, h2k, fa, a6, a5, hcm, I⟩ := I
        have hCa := fa.1.1
        have hta := ht.ff hC fa
        unfold fX7_parse_B32 fX7_parse_b32
        rw [T_fr]
        by_cases ck : k = 60
        · rw [T_ifp (by rw [ck]; decide), T_pp]
          refine Or.inr ⟨_, rfl, fa, Or.inr ⟨l, rfl, ?_, by omega, by rw [hl]; exact a5, hcm⟩⟩
          rcases I with ⟨z, -⟩ | ⟨-, z⟩
          · omega
          · exact z
        · rw [li_60, T_ifn (nI_ge (by omega) (by decide)), c_gI hCa (by decide) (by decide) (by decide), c_gI hCa (by decide) (by decide) (by decide), dig_gi a6, dig_gi hta.2.1]
          rcases I with ⟨pl, lm, er⟩ | ⟨rfl, er⟩
          · rw [T_ifn (nI_ge pl (by omega))]
            obtain ⟨m, rfl⟩ : ∃ y, m = y + 1 := ⟨m - 1, by omega⟩
            refine T_call (c_parseCommand hCa hta pl hsk (by omega) a6 a5) fun v hb P => ?_
            obtain ⟨fb, b6, lb, P⟩ := P
            have hCb := fb.1.1
            have fhb : FF h hb := fa.tr fb.ff
            rw [prL_s] at er
            rcases P with ⟨rfl, ok, adv, b5, hc⟩ | ⟨rfl, ok⟩
            · rw [if_pos ok] at er
              rw [T_ifn (by decide)]
              refine T_call (c_skipBlanks hCb (ht.ff hC fhb) lb b6) fun _ hd P => ?_
              obtain ⟨fd, d6'⟩ := P
              have fhd : FF h hd := fhb.tr (fd.ff (by decide))
              have sl2 := sk_le (tx := tx) lb
              have sg2 := sk_ge (tx := tx) (L := L) (cm tx L p).2.2
              rw [T_pp]
              refine Or.inl ⟨_, 60 - (k + 1), rfl, by omega, k + 1, sk tx L (cm tx L p).2.2, l ++ [(cm tx L p).2.1], m, by rw [nI_succ], rfl, by omega, by simp [hl], sl2, sk_sk _, by omega, fhd, d6', by rw [fd.2.2.2.1 5 (by decide)]; exact b5, fun j c hj => ?_, ?_⟩
              · by_cases cj : j = k
                · have : c = (cm tx L p).2.1 := by
                    rw [cj, List.getElem?_append_right (by omega), hl, Nat.sub_self] at hj
                    exact (Option.some.inj hj).symm
                  rw [this, cj]
                  exact hc.fo hCb fd
                · have lj : j < l.length := by
                    have := (List.getElem?_eq_some_iff.mp hj).1
                    rw [List.length_append, List.length_singleton] at this
                    omega
                  rw [List.getElem?_append_left lj] at hj
                  exact ((hcm j c hj).fm fb cj).fo hCb fd
              · by_cases ce : hr tx L (cm tx L p).2.2 = -1
                · rw [if_pos ce] at er
                  have := (hr_end ht).mp ce
                  exact Or.inr ⟨by omega, er⟩
                · rw [if_neg ce] at er
                  have sl3 : sk tx L (cm tx L p).2.2 < L := by
                    by_cases z : sk tx L (cm tx L p).2.2 < L
                    · exact z
                    · exact absurd ((hr_end ht).mpr z) ce
                  refine Or.inl ⟨sl3, by omega, ?_⟩
                  obtain ⟨m, rfl⟩ : ∃ y, m = y + 1 := ⟨m - 1, by omega⟩
                  rw [prL_sk, er]
                  cases prL tx L (m + 1) (cm tx L p).2.2 with
                  | inl f => rfl
                  | inr y => simp
            · rw [T_ifp rfl, c_gI hCb (by decide) (by decide) (by decide), dig_gi b6, T_pp]
              rw [ok] at er
              exact Or.inr ⟨_, rfl, fhb, Or.inl ⟨_, rfl, lb, er⟩⟩
          · rw [T_ifp (nI_le (Nat.le_refl _) (by omega)), T_pp]
            exact Or.inr ⟨_, rfl, fa, Or.inr ⟨l, rfl, er, by omega, by rw [hl]; exact a5, hcm⟩⟩
      · rw [prL_sk 120 0, eR]
        cases R <;> rfl
    · obtain ⟨fh, P⟩ := P
      rcases P with ⟨p, rfl, lp, e⟩ | ⟨cs, rfl, e, l60, e5', hc⟩
      · dsimp only
        rw [T_pp]
        exact ⟨fh, Or.inl ⟨p, rfl, lp, e⟩⟩
      · dsimp only
        rw [T_pp]
        exact ⟨fh, Or.inr ⟨cs, rfl, e, l60, e5', hc⟩⟩
end C3
