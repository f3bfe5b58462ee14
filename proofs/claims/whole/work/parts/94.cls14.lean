section C14
variable {h h' : PH} {N bu : Nat}
theorem kpp_ws {l : List Sg} {g : Sg} (hl : ∀ s ∈ l, WS s) (hg : WS g) : ∀ s ∈ kpp l g, WS s := by
  intro s hs
  unfold kpp at hs
  rcases List.mem_append.mp hs with z | z
  · by_cases c : l.length = 6
    · rw [if_pos c] at z
      exact hl s (List.mem_of_mem_tail z)
    · rw [if_neg c] at z
      exact hl s z
  · rw [List.mem_singleton.mp z]
    exact hg
theorem HAt.fc2 {S : List Nat} {l : List Sg} (q : HAt h l) (hC : CW h) (f : Fc S h h') (hs : ∀ x ∈ S, (x < 6 ∨ 20 ≤ x) ∧ x < 27 ∧ x ≠ 1) : HAt h' l := by
  obtain ⟨h6, e1, κ, hκ, inj, hg⟩ := q
  have no : ∀ a, 6 ≤ a → a ≤ 19 → a ∉ S := fun a h1 h2 z => by have := hs _ z; omega
  refine ⟨h6, by rw [fc_d f hC (by decide) (no 6 (by decide) (by decide))]; exact e1, κ, fun k hk => ⟨(hκ k hk).1, (hκ k hk).2.1, by rw [fc_d f hC (by decide) (no 7 (by decide) (by decide))]; exact (hκ k hk).2.2⟩, inj, fun k s e => ?_⟩
  have lk := (List.getElem?_eq_some_iff.mp e).1
  have b := hκ k (by omega)
  have kst : isSt (κ k) := Or.inr (Or.inr ⟨b.1, b.2.1⟩)
  have er := st_row _ (isSt_lt kst) kst
  rw [if_neg (by omega)] at er
  exact (hg k s e).fc hC f kst (no _ (by omega) (by omega)) (by rw [er]; exact no _ (by omega) (by omega)) (fun x hx => (hs _ hx).2)
/-- what was tried becomes the state; the state before is kept -/
theorem C_settle {st : St} {g : Sg} {x : Int32} (q : CR bu h st) (hg : SAt h 4 g) (wg : WS g) (hx : 0 ≤ x) : T (fX9_settle 0 x) h (fun v h' => v = x ∧ CR bu h' (g, kpp st.2.1 st.1, st.2.2)) := by
  obtain ⟨hC, a1, a2, -, a4, a5, a6, a7, a8, a9⟩ := q
  unfold fX9_settle
  rw [c_chk hC (by decide) (by decide), T_ifp hx, c_gA hC (by decide) (by decide), cr_0_3, c_gA hC (by decide) (by decide), cr_0_1]
  refine T_call (c_keep hC a4 a2) fun _ h2 p => ?_
  obtain ⟨f, p1⟩ := p
  have hC2 := f.1
  have g2 : SAt h2 4 g := hg.fc hC f (Or.inr (Or.inl rfl)) (by decide) (by decide) (by decide)
  rw [c_gA hC2 (by decide) (by decide), cr_0_1, c_gA hC2 (by decide) (by decide), cr_0_2]
  refine T_call (SAt.copy hC2 (Or.inl rfl) (Or.inr (Or.inl rfl)) g2) fun _ h3 p => ?_
  obtain ⟨f3, p3⟩ := p
  have f3 : Fc [2, 3] h2 h3 := f3
  rw [T_pp]
  have fa : Fc (2 :: 3 :: SH) h h3 := (f.sub (fun x hx => List.mem_cons_of_mem _ (List.mem_cons_of_mem _ hx))).seq f3 (by decide)
  exact ⟨rfl, f3.1, wg, p3, ⟨g, g2.fc hC2 f3 (Or.inr (Or.inl rfl)) (by decide) (by decide) (by decide)⟩, p1.fc2 hC2 f3 (by decide), kpp_ws a5 a1, CTx.fr a6 hC fa (by decide) (by decide), a7.fc hC fa (by decide), a8.fc fa hC (by decide), a9.fc hC fa (by decide)⟩
/-- the trial begins where the state stands -/
theorem C_try {st : St} (q : CR bu h st) : T (fX8_copyFrom 4 2) h (fun _ h' => CR bu h' st ∧ SAt h' 4 st.1) := by
  obtain ⟨hC, a1, a2, -, a4, a5, a6, a7, a8, a9⟩ := q
  refine T_mono (SAt.copy hC (Or.inr (Or.inl rfl)) (Or.inl rfl) a2) fun _ h2 p => ?_
  obtain ⟨f, p1⟩ := p
  have f : Fc [4, 5] h h2 := f
  exact ⟨⟨f.1, a1, a2.fc hC f (Or.inl rfl) (by decide) (by decide) (by decide), ⟨_, p1⟩, a4.fc2 hC f (by decide), a5, CTx.fr a6 hC f (by decide) (by decide), a7.fc hC f (by decide), a8.fc f hC (by decide), a9.fc hC f (by decide)⟩, p1⟩
end C14
