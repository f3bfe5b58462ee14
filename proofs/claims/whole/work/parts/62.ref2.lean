/-! CLOSED RUNS carried to the heap as it is -/
section S2
variable {h h' : PH}
theorem T_closed {α : Type} {m : PM α} {h0 : PH} {p : PH → Bool} (r : Ref h0 h) (run : runB m h0 p = true) : T m h (fun _ h' => ∃ g, p g = true ∧ Ref g h' ∧ ∀ a k, a < h.length → dig g a k = 0 → dig h' a k = dig h a k) := by
  obtain ⟨v, g, e, pg⟩ := runB_at run
  obtain ⟨h', e1, r1, u1⟩ := m.2.2.1 h0 h v g r e
  exact ⟨v, h', e1, g, pg, r1, u1⟩
theorem ref_dig {g h : PH} (r : Ref g h) {a k : Nat} (e : dig g a k ≠ 0) : dig h a k = dig g a k := by
  unfold dig at e ⊢
  cases e1 : nth g a with
  | none => rw [e1] at e; exact absurd rfl e
  | some c =>
    rw [e1] at e
    obtain ⟨y, f1, f2⟩ := r.2 a c e1
    rw [f1]
    rcases f2 k with z | z
    · exact absurd z e
    · exact z.symm
theorem dq_at {h : PH} {a k d : Nat} : dq h a k d = true ↔ dig h a k = d := by
  unfold dq
  exact ⟨Nat.eq_of_beq_eq_true, fun e => by rw [e]; exact Nat.beq_refl d⟩
theorem dq_ref {g h : PH} (r : Ref g h) {a k d : Nat} (hd : d ≠ 0) (q : dq g a k d = true) : dq h a k d = true := by
  rw [dq_at] at q ⊢
  rw [ref_dig r (by rw [q]; exact hd), q]
theorem allN_mono {n : Nat} {p q : Nat → Bool} (h : allN n p = true) (hq : ∀ k, k < n → p k = true → q k = true) : allN n q = true := by
  induction n with
  | zero => rfl
  | succ n ih =>
    have e : (bif p n then allN n p else false) = true := h
    cases hp : p n with
    | false => rw [hp] at e; cases e
    | true =>
      rw [hp] at e
      show (bif q n then allN n q else false) = true
      rw [hq n (by omega) hp]
      exact ih e fun k hk => hq k (by omega)
theorem dgI_0 (c v : Nat) : dgI c v ≠ 0 := Nat.succ_ne_zero _
theorem dgJ_0 (c v : Nat) : dgJ c v ≠ 0 := Nat.succ_ne_zero _
theorem okL_ref {N : Nat} {g h : PH} (r : Ref g h) (q : okL N g = true) : okL N h = true := by
  unfold okL at q ⊢
  simp only [Bool.and_eq_true] at q ⊢
  obtain ⟨⟨a1, a2, a3, a4⟩, a5, a6, a7, a8⟩ := q
  refine ⟨⟨dq_ref r (Nat.succ_ne_zero _) a1, dq_ref r (Nat.succ_ne_zero _) a2, dq_ref r (Nat.succ_ne_zero _) a3, dq_ref r (Nat.succ_ne_zero _) a4⟩, allN_mono a5 fun c _ q => allN_mono q fun d _ q => dq_ref r (dgI_0 _ _) q, allN_mono a6 fun s _ q => ?_, allN_mono a7 fun i _ q => dq_ref r (Nat.succ_ne_zero _) q, allN_mono a8 fun s _ q => allN_mono q fun i _ q => ?_⟩
  · simp only [Bool.and_eq_true] at q ⊢
    exact ⟨dq_ref r (Nat.succ_ne_zero _) q.1, dq_ref r (Nat.succ_ne_zero _) q.2.1, dq_ref r (Nat.succ_ne_zero _) q.2.2.1, dq_ref r (dgI_0 _ _) q.2.2.2⟩
  · simp only [Bool.and_eq_true] at q ⊢
    exact ⟨dq_ref r (dgJ_0 _ _) q.1, dq_ref r (by decide) q.2⟩
/-- what a laid level shows -/
theorem okL_at {N : Nat} (q : okL N h = true) : dig h 0 7 = N + 1 ∧ dig h 0 8 = cnt N + 1 ∧ dig h 0 13 = cus N + 1 ∧ dig h 0 14 = dim N + 1 ∧ (∀ c d, c < N → d < N → dig h 6 (25 * c + d) = dgI 1 (tP N c d)) ∧ (∀ s, s < cnt N → dig h 7 s = tC N s + 1 ∧ dig h 8 s = tD N s + 1 ∧ dig h 9 s = tK N s + 1 ∧ dig h 12 s = dgI 1 (tG N s)) ∧ (∀ i, i < dim N → dig h 10 i = tF N i + 1) ∧ ∀ s i, s < cnt N → i < dim N → dig h 13 (16 * s + i) = dgJ 1 (tX N s i) ∧ dig h 14 (16 * s + i) = 2 := by
  unfold okL at q
  simp only [Bool.and_eq_true] at q
  obtain ⟨⟨a1, a2, a3, a4⟩, a5, a6, a7, a8⟩ := q
  refine ⟨dq_at.mp a1, dq_at.mp a2, dq_at.mp a3, dq_at.mp a4, fun c d hc hd => dq_at.mp (allN_at (allN_at a5 c hc) d hd), fun s hs => ?_, fun i hi => dq_at.mp (allN_at a7 i hi), fun s i hs hi => ?_⟩
  · have := allN_at a6 s hs
    simp only [Bool.and_eq_true] at this
    exact ⟨dq_at.mp this.1, dq_at.mp this.2.1, dq_at.mp this.2.2.1, dq_at.mp this.2.2.2⟩
  · have := allN_at (allN_at a8 s hs) i hi
    simp only [Bool.and_eq_true] at this
    exact ⟨dq_at.mp this.1, dq_at.mp this.2⟩
theorem okL_mv {N : Nat} (e0 : ∀ k, k ∈ [7, 8, 13, 14] → dig h' 0 k = dig h 0 k) (e1 : ∀ a k, a ∈ [6, 7, 8, 9, 10, 12, 13, 14] → dig h' a k = dig h a k) : okL N h' = okL N h := by
  unfold okL dq
  have f6 : ∀ k, dig h' 6 k = dig h 6 k := fun k => e1 6 k (by decide)
  have f7 : ∀ k, dig h' 7 k = dig h 7 k := fun k => e1 7 k (by decide)
  have f8 : ∀ k, dig h' 8 k = dig h 8 k := fun k => e1 8 k (by decide)
  have f9 : ∀ k, dig h' 9 k = dig h 9 k := fun k => e1 9 k (by decide)
  have f10 : ∀ k, dig h' 10 k = dig h 10 k := fun k => e1 10 k (by decide)
  have f12 : ∀ k, dig h' 12 k = dig h 12 k := fun k => e1 12 k (by decide)
  have f13 : ∀ k, dig h' 13 k = dig h 13 k := fun k => e1 13 k (by decide)
  have f14 : ∀ k, dig h' 14 k = dig h 14 k := fun k => e1 14 k (by decide)
  rw [e0 7 (by decide), e0 8 (by decide), e0 13 (by decide), e0 14 (by decide)]
  simp only [f6, f7, f8, f9, f10, f12, f13, f14]
/-! THE REFERENCE'S STATE -/
abbrev St : Type := Sg × List Sg × List Int32 × (Int32 × Int32 × Int32)
def WS (s : Sg) : Prop := 1 ≤ s.1 ∧ s.1 ≤ 25 ∧ ∀ i, dim s.1 ≤ i → s.2 i = 0
def TxAt (h : PH) (t : List Int32) : Prop := t.length ≤ 120 ∧ dig h 0 45 = t.length + 1 ∧ ∀ i c, t[i]? = some c → gi h 36 i = c
def CnAt (h : PH) (c : Int32 × Int32 × Int32) : Prop := gi h 17 0 = c.1 ∧ gi h 17 1 = c.2.1 ∧ gi h 17 2 = c.2.2
def LdAt (h : PH) : Prop := dig h 0 7 = 1 ∨ ∃ N, 1 ≤ N ∧ N ≤ 25 ∧ okL N h = true
def MR (h : PH) (st : St) : Prop := MW h ∧ WS st.1 ∧ SgAt h 11 0 st.1 ∧ KpAt h st.2.1 ∧ (∀ s ∈ st.2.1, WS s) ∧ TxAt h st.2.2.1 ∧ CnAt h st.2.2.2 ∧ LdAt h
/-- the places that a state rests on -/
def PP : List Nat := [6, 7, 8, 9, 10, 11, 12, 13, 14, 15, 17, 36, 103, 107, 108, 113, 114, 145]
theorem SgAt.fr {S : List Nat} {a o : Nat} {s : Sg} (q : SgAt h a o s) (f : Fr S h h') (ha : a ≠ 0) (hs : a ∉ S) : SgAt h' a o s := q.mv fun j _ => fr_dr f ha hs
theorem KpAt.fr {S : List Nat} {l : List Sg} (q : KpAt h l) (f : Fr S h h') (hs : 15 ∉ S) (hs2 : 103 ∉ S) : KpAt h' l := ⟨q.1, by rw [fr_d0 f hs2]; exact q.2.1, fun k s e => ⟨(q.2.2 k s e).1.fr f (by decide) hs, (q.2.2 k s e).2⟩⟩
theorem TxAt.fr {S : List Nat} {l : List Int32} (q : TxAt h l) (f : Fr S h h') (hs : 36 ∉ S) (hs2 : 145 ∉ S) : TxAt h' l := ⟨q.1, by rw [fr_d0 f hs2]; exact q.2.1, fun k s e => by rw [fr_gir f (by decide) hs]; exact q.2.2 k s e⟩
theorem CnAt.fr {S : List Nat} {c : Int32 × Int32 × Int32} (q : CnAt h c) (f : Fr S h h') (hs : 17 ∉ S) : CnAt h' c := by
  unfold CnAt
  rw [fr_gir f (by decide) hs, fr_gir f (by decide) hs, fr_gir f (by decide) hs]
  exact q
theorem okL_fr {S : List Nat} {N : Nat} (f : Fr S h h') (hs : ∀ x, x ∈ [6, 7, 8, 9, 10, 12, 13, 14, 107, 108, 113, 114] → x ∉ S) : okL N h' = okL N h := by
  refine okL_mv (fun k hk => fr_d0 f (hs _ ?_)) fun a k ha => fr_dr f ?_ (hs a ?_)
  · revert k; decide
  · revert a; decide
  · revert a; decide
theorem LdAt.fr {S : List Nat} (q : LdAt h) (f : Fr S h h') (hs : ∀ x, x ∈ [6, 7, 8, 9, 10, 12, 13, 14, 107, 108, 113, 114] → x ∉ S) : LdAt h' := by
  rcases q with q | ⟨N, a1, a2, q⟩
  · left
    rw [fr_d0 f (hs 107 (by decide))]
    exact q
  · right
    exact ⟨N, a1, a2, by rw [okL_fr f hs]; exact q⟩
theorem MR.fr {S : List Nat} {st : St} (q : MR h st) (f : Fr S h h') (hs : ∀ x, x ∈ PP → x ∉ S) : MR h' st := by
  obtain ⟨a1, a2, a3, a4, a5, a6, a7, a8⟩ := q
  refine ⟨f.1, a2, a3.fr f (by decide) (hs 11 (by decide)), a4.fr f (hs 15 (by decide)) (hs 103 (by decide)), a5, a6.fr f (hs 36 (by decide)) (hs 145 (by decide)), a7.fr f (hs 17 (by decide)), a8.fr f fun x hx => hs x ?_⟩
  revert x
  decide
def rf2 (st : St) : St := (st.1, st.2.1, st.2.2.1, (st.2.2.2.1 + 1, st.2.2.2.2.1, st.2.2.2.2.2))
def rf3 (st : St) : St := (st.1, st.2.1, st.2.2.1, (st.2.2.2.1, st.2.2.2.2.1 + 1, st.2.2.2.2.2))
def rf4 (st : St) : St := (st.1, st.2.1, st.2.2.1, (st.2.2.2.1, st.2.2.2.2.1, st.2.2.2.2.2 + 1))
theorem MR.rf {st : St} (q : MR h st) {k : Nat} {v : Int32} {c : Int32 × Int32 × Int32} (hc : CnAt (wI h 17 k v) c) : MR (wI h 17 k v) (st.1, st.2.1, st.2.2.1, c) := by
  have f : Fr [17] h (wI h 17 k v) := (Fr.rf q.1 [17]).I (by decide) (by decide)
  obtain ⟨a1, a2, a3, a4, a5, a6, a7, a8⟩ := q
  exact ⟨f.1, a2, a3.fr f (by decide) (by decide), a4.fr f (by decide) (by decide), a5, a6.fr f (by decide) (by decide), hc, a8.fr f (by decide)⟩
theorem M_ref2 {st : St} (q : MR h st) : T (fX10_refuses 0 (-2)) h (fun v h' => v = -2 ∧ MR h' (rf2 st)) := by
  refine T_mono (m_refuses2 q.1) fun v h' p => ?_
  obtain ⟨rfl, rfl⟩ := p
  obtain ⟨c1, c2, c3⟩ := q.2.2.2.2.2.2.1
  have hM := q.1
  refine ⟨rfl, q.rf ⟨?_, ?_, ?_⟩⟩
  · rw [gi_wIm hM (by decide), if_pos ⟨rfl, rfl⟩, c1]; rfl
  · rw [gi_wIm hM (by decide), if_neg (by decide)]; exact c2
  · rw [gi_wIm hM (by decide), if_neg (by decide)]; exact c3
theorem M_ref3 {st : St} (q : MR h st) : T (fX10_refuses 0 (-3)) h (fun v h' => v = -3 ∧ MR h' (rf3 st)) := by
  refine T_mono (m_refuses3 q.1) fun v h' p => ?_
  obtain ⟨rfl, rfl⟩ := p
  obtain ⟨c1, c2, c3⟩ := q.2.2.2.2.2.2.1
  have hM := q.1
  refine ⟨rfl, q.rf ⟨?_, ?_, ?_⟩⟩
  · rw [gi_wIm hM (by decide), if_neg (by decide)]; exact c1
  · rw [gi_wIm hM (by decide), if_pos ⟨rfl, rfl⟩, c2]; rfl
  · rw [gi_wIm hM (by decide), if_neg (by decide)]; exact c3
theorem M_ref4 {st : St} (q : MR h st) : T (fX10_refuses 0 (-4)) h (fun v h' => v = -4 ∧ MR h' (rf4 st)) := by
  refine T_mono (m_refuses4 q.1) fun v h' p => ?_
  obtain ⟨rfl, rfl⟩ := p
  obtain ⟨c1, c2, c3⟩ := q.2.2.2.2.2.2.1
  have hM := q.1
  refine ⟨rfl, q.rf ⟨?_, ?_, ?_⟩⟩
  · rw [gi_wIm hM (by decide), if_neg (by decide)]; exact c1
  · rw [gi_wIm hM (by decide), if_neg (by decide)]; exact c2
  · rw [gi_wIm hM (by decide), if_pos ⟨rfl, rfl⟩, c3]; rfl
theorem M_refBy2 {st : St} (q : MR h st) (x : Int64) : T (fX10_refusesBy 0 (-2) x) h (fun v h' => v = x ∧ MR h' (rf2 st)) := by
  refine T_mono (m_refusesBy2 q.1 x) fun v h' p => ?_
  obtain ⟨rfl, rfl⟩ := p
  obtain ⟨c1, c2, c3⟩ := q.2.2.2.2.2.2.1
  have hM := q.1
  refine ⟨rfl, q.rf ⟨?_, ?_, ?_⟩⟩
  · rw [gi_wIm hM (by decide), if_pos ⟨rfl, rfl⟩, c1]; rfl
  · rw [gi_wIm hM (by decide), if_neg (by decide)]; exact c2
  · rw [gi_wIm hM (by decide), if_neg (by decide)]; exact c3
theorem M_refBy3 {st : St} (q : MR h st) (x : Int64) : T (fX10_refusesBy 0 (-3) x) h (fun v h' => v = x ∧ MR h' (rf3 st)) := by
  refine T_mono (m_refusesBy3 q.1 x) fun v h' p => ?_
  obtain ⟨rfl, rfl⟩ := p
  obtain ⟨c1, c2, c3⟩ := q.2.2.2.2.2.2.1
  have hM := q.1
  refine ⟨rfl, q.rf ⟨?_, ?_, ?_⟩⟩
  · rw [gi_wIm hM (by decide), if_neg (by decide)]; exact c1
  · rw [gi_wIm hM (by decide), if_pos ⟨rfl, rfl⟩, c2]; rfl
  · rw [gi_wIm hM (by decide), if_neg (by decide)]; exact c3
end S2
