section C7
variable {h h' : PH}
theorem SAt.fc {S : List Nat} {d : Nat} {g : Sg} (q : SAt h d g) (hC : CW h) (f : Fc S h h') (hd : isSt d) (h1 : d ∉ S) (h2 : cref d 1 ∉ S) (hs : ∀ x ∈ S, x < 27 ∧ x ≠ 1) : SAt h' d g := by
  obtain ⟨a, e0, la, lv, row⟩ := q
  obtain ⟨-, -, -, -, d5, -⟩ := st_f d (isSt_lt hd) hd
  exact ⟨a, by rw [fc_d f hC (isSt_lt hd) h1]; exact e0, la, lv.fc f hs, fun i hi => by rw [fc_gj f hC d5 h2]; exact row i hi⟩
theorem c_tA {α : Type} {Q : α → PH → Prop} {te t a k n m b : Nat} {f : Unit → PM α} (sb : Sh h b te m) (sa : Sh h a t n) (hk : k < n) (hn : n < 2147483648) (hb : b < 1152921504606846976) : T (pb (tA te t a (nI k) b) f) h Q = T (f ()) (wR h a k b) Q := by
  have e : ∀ (g : Unit → PM α), T (pb (tA te t a (nI k) b) g) h Q = T (pb (chk te b) fun _ => pb (sR t k a (some b)) g) h Q := by
    intro g
    unfold tA
    rw [aix_nI (by omega)]
    rw [T_pb, T_pb, T_pb]
    congr 1
    funext _ h1
    rw [T_pb]
  rw [e, t_chk sb, t_sR sa hk hb]
theorem t_lA {α : Type} {Q : α → PH → Prop} {t a k n b : Nat} {f : Nat → PM α} (s : Sh h a t n) (hk : k < n) (hn : n < 2147483648) (hb : dig h a k = b + 2) : T (pb (lA t a (nI k)) f) h Q = T (f b) h Q := by
  unfold lA
  rw [aix_nI (by omega)]
  exact t_gA s hk hb
/-- the kept states, the oldest first; their cells stand in some order -/
def HAt (h : PH) (l : List Sg) : Prop := l.length ≤ 6 ∧ dig h 6 1 = l.length + 1 ∧ ∃ κ : Nat → Nat, (∀ k, k < 6 → 8 ≤ κ k ∧ κ k ≤ 13 ∧ dig h 7 k = κ k + 2) ∧ (∀ i j, i < 6 → j < 6 → κ i = κ j → i = j) ∧ ∀ k s, l[k]? = some s → SAt h (κ k) s
def SH : List Nat := [6, 7, 8, 9, 10, 11, 12, 13, 14, 15, 16, 17, 18, 19]
theorem c7_sh (hC : CW h) : Sh h 7 22 6 := c_sh hC (by decide) (by decide)
theorem fc_wR {S : List Nat} {a k b : Nat} {h0 : PH} (f : Fc S h0 h) (hb : b < 1152921504606846976) (ha : cref a k = 0) (hs : a ∈ S) : Fc S h0 (wR h a k b) := fc_wr f (by omega) (by omega) ha hs
theorem cref7 (k : Nat) : cref 7 k = 0 := by
  by_cases c : cref 7 k = 0
  · exact c
  · obtain ⟨-, h2⟩ := cref_lt c
    have key : ∀ k, k < clen 7 → cref 7 k = 0 := by decide
    exact key k h2
theorem dig_wR {a k b : Nat} (hC : CW h) (ha : a < 27) (hb : b < 1152921504606846976) (c j : Nat) : dig (wR h a k b) c j = if c = a ∧ j = k then b + 2 else dig h c j := wr_dig (by omega) (Nat.lt_of_lt_of_le ha hC.1) c j
theorem c_forget (hC : CW h) {κ : Nat → Nat} (hκ : ∀ k, k < 6 → 8 ≤ κ k ∧ κ k ≤ 13 ∧ dig h 7 k = κ k + 2) {n : Nat} (hn : n ≤ 6) (h1 : dig h 6 1 = n + 1 + 1) : T (fX2_forgetOldest 6) h (fun _ h' => Fc [6, 7] h h' ∧ dig h' 6 1 = n + 1 ∧ ∀ k, k < 6 → dig h' 7 k = (if k < 5 then κ (k + 1) else κ 0) + 2) := by
  have kst : ∀ k, k < 6 → isSt (κ k) ∧ κ k < 1152921504606846976 := fun k hk => ⟨Or.inr (Or.inr ⟨(hκ k hk).1, (hκ k hk).2.1⟩), by have := (hκ k hk).2.1; omega⟩
  have ksh : ∀ {hx : PH} (k : Nat), CW hx → k < 6 → Sh hx (κ k) 7 2 := by
    intro hx k hCx hk
    obtain ⟨d1, d2, -⟩ := st_f _ (isSt_lt (kst k hk).1) (kst k hk).1
    have := c_sh hCx (isSt_lt (kst k hk).1) d1
    rw [d2] at this
    exact this
  unfold fX2_forgetOldest
  rw [c_chk hC (by decide) (by decide), c_gA hC (by decide) (by decide), cr_6_0, li_0, t_lA (c7_sh hC) (by decide) (by decide) (hκ 0 (by decide)).2.2]
  refine T_call (P := fun _ h' => Fc [6, 7] h h' ∧ dig h' 6 1 = n + 1 + 1 ∧ ∀ k, k < 6 → dig h' 7 k = (if k < 5 then κ (k + 1) else κ k) + 2) ?_ fun _ h2 P => ?_
  · refine T_for 6 (fun i h' => 1 ≤ i ∧ Fc [6, 7] h h' ∧ dig h' 6 1 = n + 1 + 1 ∧ ∀ k, k < 6 → dig h' 7 k = (if k + 1 < i then κ (k + 1) else κ k) + 2) (fun i ha hi hI => ?_) (fun ha hI => ?_) (by decide) (i0 := 1) (by decide) ⟨by omega, Fc.rf hC _, h1, fun k hk => by rw [if_neg (by omega)]; exact (hκ k hk).2.2⟩
    · obtain ⟨hi1, hF, e1, hI⟩ := hI
      have hCa := hF.1
      have c1 : ¬ nI 6 ≤ nI i := nI_ge hi (by decide)
      have ri := hI i hi
      rw [if_neg (by omega)] at ri
      have es : nI i - nI 1 = nI (i - 1) := pk_sub (by omega)
      unfold fX2_forgetOldest_B9 fX2_forgetOldest_b9
      rw [T_fr, li_6, T_ifn c1, c_gA hCa (by decide) (by decide), cr_6_0, c_gA hCa (by decide) (by decide), cr_6_0, t_lA (c7_sh hCa) hi (by decide) ri, li_1, es, c_tA (ksh i hCa hi) (c7_sh hCa) (by omega) (by decide) (kst i hi).2, T_pp]
      refine ⟨by rw [nI_add], by omega, fc_wR hF (kst i hi).2 (cref7 _) (by decide), ?_, fun k hk => ?_⟩
      · rw [dig_wR hCa (by decide) (kst i hi).2, if_neg (fun z => absurd z.1 (by decide))]
        exact e1
      · rw [dig_wR hCa (by decide) (kst i hi).2]
        by_cases ck : k = i - 1
        · rw [if_pos ⟨rfl, ck⟩, if_pos (by omega), show k + 1 = i by omega]
        · rw [if_neg (fun z => ck z.2), hI k hk]
          by_cases c3 : k + 1 < i
          · rw [if_pos c3, if_pos (by omega)]
          · rw [if_neg c3, if_neg (by omega)]
    · obtain ⟨hi1, hF, e1, hI⟩ := hI
      unfold fX2_forgetOldest_B9 fX2_forgetOldest_b9
      rw [T_fr, T_ifp (by decide), T_pp]
      refine ⟨(), rfl, hF, e1, fun k hk => ?_⟩
      rw [hI k hk]
      by_cases c3 : k < 5
      · rw [if_pos (by omega), if_pos c3]
      · rw [if_neg (by omega), if_neg c3]
  · obtain ⟨hF, e1, hI⟩ := P
    have hC2 := hF.1
    rw [c_gA hC2 (by decide) (by decide), cr_6_0, show (5 : Int32) = nI 5 from rfl, c_tA (ksh 0 hC2 (by decide)) (c7_sh hC2) (by decide) (by decide) (kst 0 (by decide)).2]
    have hC3 : CW (wR h2 7 5 (κ 0)) := CW_wR (cref7 _) (kst 0 (by decide)).2 hC2
    have f3 : Fc [6, 7] h (wR h2 7 5 (κ 0)) := fc_wR hF (kst 0 (by decide)).2 (cref7 _) (by decide)
    have e3 : dig (wR h2 7 5 (κ 0)) 6 1 = n + 1 + 1 := by rw [dig_wR hC2 (by decide) (kst 0 (by decide)).2, if_neg (by decide)]; exact e1
    have es : nI (n + 1) - nI 1 = nI n := by rw [pk_sub (by omega)]; rfl
    rw [c_gI hC3 (by decide) (by decide) (by decide), dig_gi e3, li_1, es, c_sI hC3 (by decide) (by decide) (by decide), T_pp]
    refine ⟨f3.I rfl (by decide), ?_, fun k hk => ?_⟩
    · rw [dig_wIc hC3 (by decide), if_pos ⟨rfl, rfl⟩, eI_nI (by omega)]
    · rw [dig_wIc hC3 (by decide), if_neg (fun z => absurd z.1 (by decide)), dig_wR hC2 (by decide) (kst 0 (by decide)).2]
      by_cases ck : k = 5
      · rw [if_pos ⟨rfl, ck⟩, if_neg (by omega)]
      · rw [if_neg (fun z => ck z.2), hI k hk, if_pos (by omega), if_pos (by omega)]
/-- a state goes into the cell that comes next -/
theorem c_keepIn {l : List Sg} {g : Sg} {κ : Nat → Nat} (hC : CW h) (hl : l.length < 6) (h1 : dig h 6 1 = l.length + 1) (hκ : ∀ k, k < 6 → 8 ≤ κ k ∧ κ k ≤ 13 ∧ dig h 7 k = κ k + 2) (inj : ∀ i j, i < 6 → j < 6 → κ i = κ j → i = j) (hs : ∀ k s, l[k]? = some s → SAt h (κ k) s) (hg : SAt h 2 g) : T (pb (gA 2 0 6) fun v3 => pb (gI 2 1 6) fun v4 => pb (lA 22 v3 v4) fun v5 => pb (fX8_copyFrom v5 2) fun _ => pb (gI 2 1 6) fun v8 => pb (sI 2 1 6 (v8 + (1 : Int32))) fun _ => pp ()) h (fun _ h' => Fc SH h h' ∧ HAt h' (l ++ [g])) := by
  have kk := hκ l.length hl
  have kst : isSt (κ l.length) := Or.inr (Or.inr ⟨kk.1, kk.2.1⟩)
  obtain ⟨a, e0, la, lv, row⟩ := hg
  obtain ⟨d1, d2, d3, d4, d5, d6, d7, d8⟩ := st_f _ (isSt_lt kst) kst
  have er := st_row _ (isSt_lt kst) kst
  rw [if_neg (by omega)] at er
  rw [c_gA hC (by decide) (by decide), cr_6_0, c_gI hC (by decide) (by decide) (by decide), dig_gi h1, t_lA (c7_sh hC) hl (by decide) kk.2.2]
  refine T_call (c_copyFrom hC kst (Or.inl rfl) e0 la) fun _ h2 P => ?_
  obtain ⟨f2, p2, p3⟩ := P
  have hC2 := f2.1
  have m6 : 6 ∉ [κ l.length, cref (κ l.length) 1] := by
    rw [er]
    simp only [List.mem_cons, List.not_mem_nil, or_false, not_or]
    omega
  have m7 : 7 ∉ [κ l.length, cref (κ l.length) 1] := by
    rw [er]
    simp only [List.mem_cons, List.not_mem_nil, or_false, not_or]
    omega
  have e1 : dig h2 6 1 = l.length + 1 := by rw [fc_d f2 hC (by decide) m6]; exact h1
  rw [c_gI hC2 (by decide) (by decide) (by decide), dig_gi e1, c_sI hC2 (by decide) (by decide) (by decide), T_pp]
  have hC3 : CW (wI h2 6 1 (nI l.length + 1)) := CW_wI rfl hC2
  have f3 : Fc [6] h2 (wI h2 6 1 (nI l.length + 1)) := (Fc.rf hC2 [6]).I rfl (by decide)
  have sub : ∀ x ∈ [κ l.length, cref (κ l.length) 1], x ∈ SH := by
    intro x hx
    rw [er] at hx
    have key : ∀ x, 8 ≤ x → x ≤ 19 → x ∈ SH := by
      intro x a b
      rcases (show x = 8 ∨ x = 9 ∨ x = 10 ∨ x = 11 ∨ x = 12 ∨ x = 13 ∨ x = 14 ∨ x = 15 ∨ x = 16 ∨ x = 17 ∨ x = 18 ∨ x = 19 by omega) with rfl | rfl | rfl | rfl | rfl | rfl | rfl | rfl | rfl | rfl | rfl | rfl <;> decide
    simp only [List.mem_cons, List.not_mem_nil, or_false] at hx
    rcases hx with rfl | rfl
    · exact key _ (by omega) (by omega)
    · exact key _ (by omega) (by omega)
  have lt27 : ∀ x ∈ [κ l.length, cref (κ l.length) 1], x < 27 ∧ x ≠ 1 := by
    intro x hx
    rw [er] at hx
    simp only [List.mem_cons, List.not_mem_nil, or_false] at hx
    omega
  have f : Fc SH h (wI h2 6 1 (nI l.length + 1)) := (f2.sub sub).seq f3 (by decide)
  have hlen : (l ++ [g]).length = l.length + 1 := by simp
  refine ⟨f, by omega, ?_, κ, fun k hk => ⟨(hκ k hk).1, (hκ k hk).2.1, ?_⟩, inj, fun k s hks => ?_⟩
  · rw [hlen, dig_wIc hC2 (by decide), if_pos ⟨rfl, rfl⟩, nI_1, eI_nI (by omega)]
  · rw [dig_wIc hC2 (by decide), if_neg (fun z => absurd z.1 (by decide)), fc_d f2 hC (by decide) m7]
    exact (hκ k hk).2.2
  · have lk : k < l.length + 1 := by
      have := (List.getElem?_eq_some_iff.mp hks).1
      omega
    have kst' : isSt (κ k) := Or.inr (Or.inr ⟨(hκ k (by omega)).1, (hκ k (by omega)).2.1⟩)
    have er' := st_row _ (isSt_lt kst') kst'
    rw [if_neg (by have := (hκ k (by omega)).1; omega)] at er'
    have b1 := hκ k (by omega)
    have n6 : κ k ∉ [6] := by simp only [List.mem_singleton]; omega
    have n6' : cref (κ k) 1 ∉ [6] := by rw [er']; simp only [List.mem_singleton]; omega
    by_cases ck : k = l.length
    · rw [ck, List.getElem?_append_right (Nat.le_refl _), Nat.sub_self] at hks
      have : s = g := (Option.some.inj hks).symm
      subst this
      rw [ck] at n6 n6' ⊢
      have s2 : SAt h2 (κ l.length) s := ⟨a, p2, la, lv.fc f2 lt27, fun i hi => by
        have := p3 i hi
        have r := row i hi
        unfold gj at r ⊢
        rw [this]
        exact r⟩
      exact s2.fc hC2 f3 kst n6 n6' (by decide)
    · rw [List.getElem?_append_left (by omega)] at hks
      have ne : κ k ≠ κ l.length := fun e => ck (inj k l.length (by omega) hl e)
      have x1 : κ k ∉ [κ l.length, cref (κ l.length) 1] := by
        rw [er]
        simp only [List.mem_cons, List.not_mem_nil, or_false, not_or]
        omega
      have x2 : cref (κ k) 1 ∉ [κ l.length, cref (κ l.length) 1] := by
        rw [er, er']
        simp only [List.mem_cons, List.not_mem_nil, or_false, not_or]
        omega
      exact ((hs k s hks).fc hC f2 kst' x1 x2 lt27).fc hC2 f3 kst' n6 n6' (by decide)
end C7
