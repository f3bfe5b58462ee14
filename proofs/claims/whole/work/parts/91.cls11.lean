section C11
variable {h h' : PH} {N bu : Nat}
def okS11 (x : Nat) : Prop := x = 0 ∨ x = 20 ∨ x = 21 ∨ x = 22 ∨ x = 23 ∨ x = 24
theorem HAt.fc {S : List Nat} {l : List Sg} (q : HAt h l) (hC : CW h) (f : Fc S h h') (hs : ∀ x ∈ S, okS11 x) : HAt h' l := by
  obtain ⟨h6, e1, κ, hκ, inj, hg⟩ := q
  have no : ∀ a, 1 ≤ a → a ≤ 19 → a ∉ S := fun a h1 h2 z => by have := hs _ z; unfold okS11 at this; omega
  refine ⟨h6, by rw [fc_d f hC (by decide) (no 6 (by decide) (by decide))]; exact e1, κ, fun k hk => ⟨(hκ k hk).1, (hκ k hk).2.1, by rw [fc_d f hC (by decide) (no 7 (by decide) (by decide))]; exact (hκ k hk).2.2⟩, inj, fun k s e => ?_⟩
  have lk := (List.getElem?_eq_some_iff.mp e).1
  have b := hκ k (by omega)
  have kst : isSt (κ k) := Or.inr (Or.inr ⟨b.1, b.2.1⟩)
  have er := st_row _ (isSt_lt kst) kst
  rw [if_neg (by omega)] at er
  exact (hg k s e).fc hC f kst (no _ (by omega) (by omega)) (by rw [er]; exact no _ (by omega) (by omega)) (fun x hx => by have := hs _ hx; unfold okS11 at this; omega)
theorem CR.fc {S : List Nat} {st : St} {t : List Int32} {c : Int32 × Int32 × Int32} (q : CR bu h st) (f : Fc S h h') (hs : ∀ x ∈ S, okS11 x) (ht : CtAt h' t) (hc : Cn h' c) : CR bu h' (st.1, st.2.1, t, c) := by
  obtain ⟨hC, a1, a2, ⟨g, a3⟩, a4, a5, a6, a7, a8, a9⟩ := q
  have no : ∀ a, 1 ≤ a → a ≤ 19 → a ∉ S := fun a h1 h2 z => by have := hs _ z; unfold okS11 at this; omega
  have n26 : 26 ∉ S := fun z => by have := hs _ z; unfold okS11 at this; omega
  have hs' : ∀ x ∈ S, x < 27 ∧ x ≠ 1 := fun x hx => by have := hs _ hx; unfold okS11 at this; omega
  refine ⟨f.1, a1, a2.fc hC f (Or.inl rfl) (no _ (by decide) (by decide)) (no _ (by decide) (by decide)) hs', ⟨g, a3.fc hC f (Or.inr (Or.inl rfl)) (no _ (by decide) (by decide)) (no _ (by decide) (by decide)) hs'⟩, a4.fc hC f hs, a5, ht, hc, a8.fc f hC hs', fun m hm => ?_⟩
  rw [fc_gi f hC (by decide) n26]
  exact a9 m hm
theorem CR.cnt {st : St} {k : Nat} {v : Int32} {c : Int32 × Int32 × Int32} (q : CR bu h st) (hr : cref 0 k = 0) (hc : Cn (wI h 0 k v) c) : CR bu (wI h 0 k v) (st.1, st.2.1, st.2.2.1, c) := by
  have f : Fc [0] h (wI h 0 k v) := (Fc.rf q.1 [0]).I hr (by decide)
  exact q.fc f (fun x hx => Or.inl (List.mem_singleton.mp hx)) (q.2.2.2.2.2.2.1.fr q.1 f (by decide) (by decide)) hc
theorem C_ref2 {st : St} (q : CR bu h st) : T (fX9_refuse 0 (-2)) h (fun v h' => v = -2 ∧ CR bu h' (rf2 st)) := by
  refine T_mono (c_refuse2 q.1) fun v h2 p => ?_
  obtain ⟨rfl, rfl⟩ := p
  obtain ⟨k1, k2, k3⟩ := q.2.2.2.2.2.2.2.1
  refine ⟨rfl, q.cnt rfl ⟨?_, ?_, ?_⟩⟩
  · rw [gi_wIc q.1 (by decide), if_pos ⟨rfl, rfl⟩, k1]; rfl
  · rw [gi_wIc q.1 (by decide), if_neg (by decide)]; exact k2
  · rw [gi_wIc q.1 (by decide), if_neg (by decide)]; exact k3
theorem C_ref3 {st : St} (q : CR bu h st) : T (fX9_refuse 0 (-3)) h (fun v h' => v = -3 ∧ CR bu h' (rf3 st)) := by
  refine T_mono (c_refuse3 q.1) fun v h2 p => ?_
  obtain ⟨rfl, rfl⟩ := p
  obtain ⟨k1, k2, k3⟩ := q.2.2.2.2.2.2.2.1
  refine ⟨rfl, q.cnt rfl ⟨?_, ?_, ?_⟩⟩
  · rw [gi_wIc q.1 (by decide), if_neg (by decide)]; exact k1
  · rw [gi_wIc q.1 (by decide), if_pos ⟨rfl, rfl⟩, k2]; rfl
  · rw [gi_wIc q.1 (by decide), if_neg (by decide)]; exact k3
theorem C_ref4 {st : St} (q : CR bu h st) : T (fX9_refuse 0 (-4)) h (fun v h' => v = -4 ∧ CR bu h' (rf4 st)) := by
  refine T_mono (c_refuse4 q.1) fun v h2 p => ?_
  obtain ⟨rfl, rfl⟩ := p
  obtain ⟨k1, k2, k3⟩ := q.2.2.2.2.2.2.2.1
  refine ⟨rfl, q.cnt rfl ⟨?_, ?_, ?_⟩⟩
  · rw [gi_wIc q.1 (by decide), if_neg (by decide)]; exact k1
  · rw [gi_wIc q.1 (by decide), if_neg (by decide)]; exact k2
  · rw [gi_wIc q.1 (by decide), if_pos ⟨rfl, rfl⟩, k3]; rfl
theorem C_symbols {st : St} (q : CR bu h st) : T (fX9_symbols 0) h (fun v h' => v = (q_symbols st).1 ∧ CR bu h' (q_symbols st).2) := by
  have hC := q.1
  obtain ⟨a, e0, la, lv, row⟩ := q.2.2.1
  obtain ⟨F, X, lf⟩ := lv.f
  unfold fX9_symbols
  rw [c_chk hC (by decide) (by decide), c_gA hC (by decide) (by decide), cr_0_1, t_gA (c_sh hC (by decide) (by decide) : Sh h 2 7 (clen 2)) (by decide) e0, v_gI lf.2.1, T_pp]
  exact ⟨rfl, q⟩
theorem C_clear {st : St} (q : CR bu h st) : T (fX9_clear 0) h (fun v h' => v = (q_clear st).1 ∧ CR bu h' (q_clear st).2) := by
  have hC := q.1
  have ht : CtAt h st.2.2.1 := q.2.2.2.2.2.2.1
  have e1 : dig h 20 1 = st.2.2.1.length + 1 := ht.2.1
  unfold fX9_clear
  rw [c_chk hC (by decide) (by decide), c_gA hC (by decide) (by decide), cr_0_4, c_gI hC (by decide) (by decide) (by decide), dig_gi e1, c_gA hC (by decide) (by decide), cr_0_4, c_sI hC (by decide) (by decide) (by decide), T_pp]
  have f : Fc [20] h (wI h 20 1 0) := (Fc.rf hC [20]).I rfl (by decide)
  obtain ⟨k1, k2, k3⟩ := q.2.2.2.2.2.2.2.1
  refine ⟨rfl, q.fc f (fun x hx => Or.inr (Or.inl (List.mem_singleton.mp hx))) ⟨by decide, ?_, fun i hi => absurd hi (Nat.not_lt_zero i)⟩ ⟨?_, ?_, ?_⟩⟩
  · rw [dig_wIc hC (by decide), if_pos ⟨rfl, rfl⟩]; rfl
  · rw [fc_gi f hC (by decide) (by decide)]; exact k1
  · rw [fc_gi f hC (by decide) (by decide)]; exact k2
  · rw [fc_gi f hC (by decide) (by decide)]; exact k3
end C11
