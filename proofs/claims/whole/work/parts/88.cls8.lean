section C8
variable {h h' : PH}
theorem SAt.copy {d s : Nat} {g : Sg} (hC : CW h) (hd : isSt d) (hs : isSt s) (q : SAt h s g) : T (fX8_copyFrom d s) h (fun _ h' => Fc [d, cref d 1] h h' ∧ SAt h' d g) := by
  obtain ⟨a, e0, la, lv, row⟩ := q
  obtain ⟨-, -, -, -, d5, -⟩ := st_f _ (isSt_lt hd) hd
  have lt27 : ∀ x ∈ [d, cref d 1], x < 27 ∧ x ≠ 1 := by
    intro x hx
    have er := st_row _ (isSt_lt hd) hd
    simp only [List.mem_cons, List.not_mem_nil, or_false] at hx
    have hd' := hd
    unfold isSt at hd'
    rcases hx with rfl | rfl
    · exact ⟨isSt_lt hd, by omega⟩
    · refine ⟨d5, ?_⟩
      rw [er]
      split <;> omega
  refine T_mono (c_copyFrom hC hd hs e0 la) fun _ h2 P => ?_
  obtain ⟨f2, p2, p3⟩ := P
  refine ⟨f2, a, p2, la, lv.fc f2 lt27, fun i hi => ?_⟩
  have r := row i hi
  unfold gj at r ⊢
  rw [p3 i hi]
  exact r
theorem c_keep {l : List Sg} {g : Sg} (hC : CW h) (q : HAt h l) (hg : SAt h 2 g) : T (fX2_keep 6 2) h (fun _ h' => Fc SH h h' ∧ HAt h' (kpp l g)) := by
  obtain ⟨h6, e1, κ, hκ, inj, hs⟩ := q
  unfold fX2_keep kpp
  rw [c_chk hC (by decide) (by decide), c_gI hC (by decide) (by decide) (by decide), dig_gi e1]
  by_cases c : l.length = 6
  · have c6 : nI l.length = (6 : Int32) := by rw [c]; rfl
    rw [T_ifp c6, if_pos c]
    have e1' : dig h 6 1 = 5 + 1 + 1 := by rw [e1, c]
    refine T_call (c_forget hC hκ (n := 5) (by decide) e1') fun _ h2 P => ?_
    obtain ⟨f2, p1, p2⟩ := P
    have tl : l.tail.length = 5 := by rw [List.length_tail, c]
    have k2 : ∀ k, k < 6 → 8 ≤ (if k < 5 then κ (k + 1) else κ 0) ∧ (if k < 5 then κ (k + 1) else κ 0) ≤ 13 ∧ dig h2 7 k = (if k < 5 then κ (k + 1) else κ 0) + 2 := by
      intro k hk
      refine ⟨?_, ?_, p2 k hk⟩
      · by_cases c5 : k < 5
        · rw [if_pos c5]; exact (hκ (k + 1) (by omega)).1
        · rw [if_neg c5]; exact (hκ 0 (by omega)).1
      · by_cases c5 : k < 5
        · rw [if_pos c5]; exact (hκ (k + 1) (by omega)).2.1
        · rw [if_neg c5]; exact (hκ 0 (by omega)).2.1
    have i2 : ∀ i j, i < 6 → j < 6 → (if i < 5 then κ (i + 1) else κ 0) = (if j < 5 then κ (j + 1) else κ 0) → i = j := by
      intro i j hi hj e
      by_cases ci : i < 5
      · rw [if_pos ci] at e
        by_cases cj : j < 5
        · rw [if_pos cj] at e
          have := inj _ _ (by omega) (by omega) e
          omega
        · rw [if_neg cj] at e
          have := inj _ _ (by omega) (by omega) e
          omega
      · rw [if_neg ci] at e
        by_cases cj : j < 5
        · rw [if_pos cj] at e
          have := inj _ _ (by omega) (by omega) e
          omega
        · omega
    have s2 : ∀ k s, l.tail[k]? = some s → SAt h2 (if k < 5 then κ (k + 1) else κ 0) s := by
      intro k s e
      have lk : k < 5 := by
        have := (List.getElem?_eq_some_iff.mp e).1
        omega
      rw [if_pos lk]
      rw [List.getElem?_tail] at e
      have b := hκ (k + 1) (by omega)
      have kst : isSt (κ (k + 1)) := Or.inr (Or.inr ⟨b.1, b.2.1⟩)
      have er := st_row _ (isSt_lt kst) kst
      rw [if_neg (by omega)] at er
      have n1 : κ (k + 1) ∉ [6, 7] := by simp only [List.mem_cons, List.not_mem_nil, or_false, not_or]; omega
      have n2 : cref (κ (k + 1)) 1 ∉ [6, 7] := by rw [er]; simp only [List.mem_cons, List.not_mem_nil, or_false, not_or]; omega
      exact (hs _ _ e).fc hC f2 kst n1 n2 (by decide)
    have hg2 : SAt h2 2 g := hg.fc hC f2 (Or.inl rfl) (by decide) (by decide) (by decide)
    have tl6 : l.tail.length < 6 := by omega
    have p1' : dig h2 6 1 = l.tail.length + 1 := by rw [p1, tl]
    refine T_mono (c_keepIn f2.1 tl6 p1' k2 i2 s2 hg2) fun _ h3 P => ?_
    exact ⟨(f2.sub (by decide)).tr P.1, P.2⟩
  · have c6 : ¬ nI l.length = (6 : Int32) := by
      intro e
      have e2 : nI l.length = nI 6 := e
      have := congrArg Int32.toInt e2
      rw [nI_toInt (by omega), nI_toInt (by decide)] at this
      omega
    have l6 : l.length < 6 := by omega
    rw [T_ifn c6, if_neg c]
    exact c_keepIn hC l6 e1 hκ inj hs hg
/-- the newest of the kept states comes back -/
theorem c_restore {l : List Sg} {g : Sg} (hC : CW h) (q : HAt h (l ++ [g])) : T (fX2_restore 6 2) h (fun _ h' => Fc [2, 3, 6] h h' ∧ SAt h' 2 g ∧ HAt h' l) := by
  obtain ⟨h6, e1, κ, hκ, inj, hs⟩ := q
  have hlen : (l ++ [g]).length = l.length + 1 := by simp
  rw [hlen] at h6 e1
  have l6 : l.length < 6 := by omega
  have kk := hκ l.length l6
  have kst : isSt (κ l.length) := Or.inr (Or.inr ⟨kk.1, kk.2.1⟩)
  have c1 : ¬ nI (l.length + 1) ≤ 0 := nI_ge (a := 0) (b := l.length + 1) (by omega) (by omega)
  have es : nI (l.length + 1) - nI 1 = nI l.length := by rw [pk_sub (by omega)]; rfl
  unfold fX2_restore
  rw [c_chk hC (by decide) (by decide), c_gI hC (by decide) (by decide) (by decide), dig_gi e1, T_ifn c1, c_gI hC (by decide) (by decide) (by decide), dig_gi e1, li_1, es, c_sI hC (by decide) (by decide) (by decide)]
  have hC1 : CW (wI h 6 1 (nI l.length)) := CW_wI rfl hC
  have f1 : Fc [6] h (wI h 6 1 (nI l.length)) := (Fc.rf hC [6]).I rfl (by decide)
  have d1 : dig (wI h 6 1 (nI l.length)) 6 1 = l.length + 1 := by rw [dig_wIc hC (by decide), if_pos ⟨rfl, rfl⟩, eI_nI (by omega)]
  have d7 : ∀ k, dig (wI h 6 1 (nI l.length)) 7 k = dig h 7 k := fun k => fc_d f1 hC (by decide) (by decide)
  have r7 : dig (wI h 6 1 (nI l.length)) 7 l.length = κ l.length + 2 := by rw [d7]; exact kk.2.2
  rw [c_gA hC1 (by decide) (by decide), cr_6_0, c_gI hC1 (by decide) (by decide) (by decide), dig_gi d1, t_lA (c7_sh hC1) l6 (by decide) r7]
  have st1 : ∀ k s, (l ++ [g])[k]? = some s → SAt (wI h 6 1 (nI l.length)) (κ k) s := by
    intro k s e
    have lk := (List.getElem?_eq_some_iff.mp e).1
    rw [hlen] at lk
    have b := hκ k (by omega)
    have kst' : isSt (κ k) := Or.inr (Or.inr ⟨b.1, b.2.1⟩)
    have er := st_row _ (isSt_lt kst') kst'
    rw [if_neg (by omega)] at er
    have n1 : κ k ∉ [6] := by simp only [List.mem_singleton]; omega
    have n2 : cref (κ k) 1 ∉ [6] := by rw [er]; simp only [List.mem_singleton]; omega
    exact (hs _ _ e).fc hC f1 kst' n1 n2 (by decide)
  have last : (l ++ [g])[l.length]? = some g := by rw [List.getElem?_append_right (Nat.le_refl _), Nat.sub_self]; rfl
  refine T_call (SAt.copy hC1 (Or.inl rfl) kst (st1 _ _ last)) fun _ h2 P => ?_
  obtain ⟨f2, p2⟩ := P
  have f2 : Fc [2, 3] (wI h 6 1 (nI l.length)) h2 := f2
  rw [T_pp]
  refine ⟨(f1.sub (by decide)).seq f2 (by decide), p2, by omega, ?_, κ, fun k hk => ⟨(hκ k hk).1, (hκ k hk).2.1, ?_⟩, inj, fun k s e => ?_⟩
  · rw [fc_d f2 hC1 (by decide) (by decide)]; exact d1
  · rw [fc_d f2 hC1 (by decide) (by decide), d7]; exact (hκ k hk).2.2
  · have lk := (List.getElem?_eq_some_iff.mp e).1
    have b := hκ k (by omega)
    have kst' : isSt (κ k) := Or.inr (Or.inr ⟨b.1, b.2.1⟩)
    have er := st_row _ (isSt_lt kst') kst'
    rw [if_neg (by omega)] at er
    have n1 : κ k ∉ [2, 3] := by simp only [List.mem_cons, List.not_mem_nil, or_false, not_or]; omega
    have n2 : cref (κ k) 1 ∉ [2, 3] := by rw [er]; simp only [List.mem_cons, List.not_mem_nil, or_false, not_or]; omega
    have e2 : (l ++ [g])[k]? = some s := by rw [List.getElem?_append_left lk]; exact e
    exact (st1 k s e2).fc hC1 f2 kst' n1 n2 (by decide)
end C8
