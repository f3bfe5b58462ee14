/-! WHAT IS MADE: a closed run carried over into the class's heap -/
section C23
variable {h h' : PH} {N bu : Nat} {Ch : Nat → Nat → Prop}
theorem t_al {α : Type} {Q : α → PH → Prop} {t n : Nat} {f : Nat → PM α} (hn : n ≤ 1000000) : T (pb (al t n) f) h Q = T (f h.length) (h ++ [(t, n, onesF n)]) Q := by
  rw [T_pb]
  have e : (al t n).1 h = some (h.length, h ++ [(t, n, onesF n)]) := by
    unfold al
    simp only [frN_eq, lenK_eq, apK_eq, Nat.zero_add, Nat.ble_eq_true_of_le hn, cond_true]
  apply propext
  constructor
  · rintro ⟨v, h', e', q⟩
    rw [e] at e'
    cases e'
    exact q
  · intro q
    exact ⟨_, _, e, q⟩
theorem v_lN0 {α : Type} {Q : α → PH → Prop} {t k a : Nat} {f : Option Nat → PM α} (e : rdD h t a k = some 1) (hk : k < 2147483648) : T (pb (lN' t a (nI k)) f) h Q = T (f none) h Q := by
  unfold lN'
  rw [aix_nI hk, T_pb]
  have e' : (gN t k a).1 h = some (none, h) := by
    unfold gN
    simp only [e]
  apply propext
  constructor
  · rintro ⟨v, h', e2, q⟩
    have e3 : (gN t k a).1 h = some (v, h') := e2
    rw [e'] at e3
    cases e3
    exact q
  · intro q
    exact ⟨_, _, e', q⟩
theorem v_lN1 {α : Type} {Q : α → PH → Prop} {t k a b : Nat} {f : Option Nat → PM α} (e : rdD h t a k = some (b + 2)) (hk : k < 2147483648) : T (pb (lN' t a (nI k)) f) h Q = T (f (some b)) h Q := by
  unfold lN'
  rw [aix_nI hk, T_pb]
  have e' : (gN t k a).1 h = some (some b, h) := by
    unfold gN
    simp only [e]
  apply propext
  constructor
  · rintro ⟨v, h', e2, q⟩
    have e3 : (gN t k a).1 h = some (v, h') := e2
    rw [e'] at e3
    cases e3
    exact q
  · intro q
    exact ⟨_, _, e', q⟩
theorem v_gN0 {α : Type} {Q : α → PH → Prop} {t k a : Nat} {f : Option Nat → PM α} (e : rdD h t a k = some 1) : T (pb (gN t k a) f) h Q = T (f none) h Q := by
  rw [T_pb]
  have e' : (gN t k a).1 h = some (none, h) := by
    unfold gN
    simp only [e]
  apply propext
  constructor
  · rintro ⟨v, h', e2, q⟩
    rw [e'] at e2
    cases e2
    exact q
  · intro q
    exact ⟨_, _, e', q⟩
theorem v_gN1 {α : Type} {Q : α → PH → Prop} {t k a b : Nat} {f : Option Nat → PM α} (e : rdD h t a k = some (b + 2)) : T (pb (gN t k a) f) h Q = T (f (some b)) h Q := by
  rw [T_pb]
  have e' : (gN t k a).1 h = some (some b, h) := by
    unfold gN
    simp only [e]
  apply propext
  constructor
  · rintro ⟨v, h', e2, q⟩
    rw [e'] at e2
    cases e2
    exact q
  · intro q
    exact ⟨_, _, e', q⟩
theorem v_lJ {α : Type} {Q : α → PH → Prop} {t k a d : Nat} {f : Int64 → PM α} (e : rdD h t a k = some (d + 1)) (hk : k < 2147483648) : T (pb (lJ t a (nI k)) f) h Q = T (f (Int64.ofNat d)) h Q := by
  unfold lJ
  rw [aix_nI hk, T_pb]
  have e' : (gJ t k a).1 h = some (Int64.ofNat d, h) := by
    unfold gJ
    simp only [e]
  apply propext
  constructor
  · rintro ⟨v, h', e2, q⟩
    have e3 : (gJ t k a).1 h = some (v, h') := e2
    rw [e'] at e3
    cases e3
    exact q
  · intro q
    exact ⟨_, _, e', q⟩
/-- a run over the small heap e is a run over h -/
theorem T_pr {α : Type} {r : Nat → Nat} {m1 m2 : PM α} {G : α → α → Prop} {e : PH} {p : α → PH → Bool} (pr : PR r m1 m2 G) (rh : RH r e h) (run : runW m1 e p = true) (hb : ∀ v e', p v e' = true → HB e h e') : T m2 h (fun w h' => ∃ v e', p v e' = true ∧ G v w ∧ RH r e' h' ∧ FR r e h e' h' ∧ Ext h h') := by
  obtain ⟨v, e', e1, e2⟩ := runW_at run
  obtain ⟨w, h', e3, g, rh', fr⟩ := pr e h v e' rh e1 (hb v e' e2)
  exact ⟨w, h', e3, v, e', e2, g, rh', fr, m2.2.1 _ _ _ e3⟩
theorem emb_of {r : Nat → Nat} {e e' : PH} (rh : RH r e' h) (c : cmpH e e' = true) : Emb r e h := by
  intro b t n x hb
  obtain ⟨y, h1, h2⟩ := cmpH_at c b t n x hb
  obtain ⟨z, h3, h4⟩ := rh.2.2.2 b t n y h1
  refine ⟨z, h3, fun k => ?_⟩
  rcases h2 k with e | e
  · rw [e]
    exact Or.inl rfl
  · rw [e]
    exact h4 k
theorem CW_ext (hC : CW h) (x : Ext h h') (hd : ∀ a k, cref a k ≠ 0 → dig h' a k = dig h a k) : CW h' := ⟨Nat.le_trans hC.1 x.1, fun a ha => sh_ext (hC.2.1 a ha) x, fun a k hk => by rw [hd a k hk]; exact hC.2.2 a k hk⟩
theorem dig_app {a k : Nat} (g : PH) (ha : a < h.length) : dig (h ++ g) a k = dig h a k := by
  unfold dig
  rw [nth_app_left ha]
theorem Up.rf (hC : CW h) : Up Ch h h := ⟨hC, Ext.rf h, fun _ _ _ _ => rfl⟩
theorem Up.tr {h0 : PH} (a : Up Ch h0 h) (b : Up Ch h h') : Up Ch h0 h' := ⟨b.1, a.2.1.tr b.2.1, fun x k hl hx => by rw [b.2.2 x k (Nat.lt_of_lt_of_le hl a.2.1.1) hx, a.2.2 x k hl hx]⟩
theorem Up.sub {Ch' : Nat → Nat → Prop} (a : Up Ch h h') (hs : ∀ x k, Ch x k → Ch' x k) : Up Ch' h h' := ⟨a.1, a.2.1, fun x k hl hx => a.2.2 x k hl fun z => hx (hs x k z)⟩
theorem up_wR {a k b : Nat} (hC : CW h) (hr : cref a k = 0) (hb : b < 1152921504606846976) (hc : Ch a k) : Up Ch h (wR h a k b) := by
  refine ⟨CW_wR hr hb hC, wr_ext (by omega) (by omega), fun x j hl hx => ?_⟩
  unfold wR
  by_cases c1 : x = a
  · by_cases c2 : j = k
    · rw [c1, c2] at hx
      exact absurd hc hx
    · exact wr_dig_nk (by omega) c2
  · exact wr_dig_ne c1
theorem wR_dig {a k b : Nat} (ha : a < h.length) (hb : b < 1152921504606846976) : dig (wR h a k b) a k = b + 2 := by
  unfold wR
  rw [wr_dig (by omega) ha, if_pos ⟨rfl, rfl⟩]
theorem wR_mu {a k b : Nat} : mu (wR h a k b) = mu h := by
  have := wr_sm (h := h) a k (b + 2)
  unfold mu wR
  rw [this.1, this.2]
theorem SAt.up {d : Nat} {g : Sg} (q : SAt h d g) (hC : CW h) (f : Up Ch h h') (hc : ChL Ch h) (hd : isSt d) (h1 : ∀ k, ¬ Ch d k) (h2 : ∀ k, ¬ Ch (cref d 1) k) : SAt h' d g := by
  obtain ⟨a, e0, la, lv, row⟩ := q
  obtain ⟨-, -, -, -, d5, -⟩ := st_f d (isSt_lt hd) hd
  refine ⟨a, f.kn e0 (h1 0), la, lv.up f hc, fun i hi => ?_⟩
  unfold gj
  rw [f.2.2 _ i (Nat.lt_of_lt_of_le d5 hC.1) (h2 i)]
  exact row i hi
/-- all but what was tried and what was made -/
theorem CR.up {bu' : Nat} {st : St} (q : CR bu h st) (f : Up Ch h h') (hc : ChL Ch h) (hs : ∀ a k, Ch a k → a < 27 → a = 1 ∨ a = 5) (mk : MK bu' h') (s4 : ∃ g, SAt h' 4 g) : CR bu' h' st := by
  obtain ⟨hC, a1, a2, -, a4, a5, a6, a7, -, a9⟩ := q
  have no : ∀ a, a < 27 → a ≠ 1 → a ≠ 5 → ∀ k, ¬ Ch a k := fun a x1 x2 x3 k z => by
    rcases hs a k z x1 with e | e
    · exact x2 e
    · exact x3 e
  have dd : ∀ a, a < 27 → a ≠ 1 → a ≠ 5 → ∀ k, dig h' a k = dig h a k := fun a x1 x2 x3 k => f.2.2 a k (Nat.lt_of_lt_of_le x1 hC.1) (no a x1 x2 x3 k)
  have gg : ∀ a, a < 27 → a ≠ 1 → a ≠ 5 → ∀ k, gi h' a k = gi h a k := fun a x1 x2 x3 k => by unfold gi; rw [dd a x1 x2 x3 k]
  refine ⟨f.1, a1, a2.up hC f hc (Or.inl rfl) (no 2 (by decide) (by decide) (by decide)) (no 3 (by decide) (by decide) (by decide)), s4, ?_, a5, ?_, ?_, mk, ?_⟩
  · obtain ⟨h6, e1, κ, hκ, inj, hg⟩ := a4
    refine ⟨h6, by rw [dd 6 (by decide) (by decide) (by decide)]; exact e1, κ, fun k hk => ⟨(hκ k hk).1, (hκ k hk).2.1, by rw [dd 7 (by decide) (by decide) (by decide)]; exact (hκ k hk).2.2⟩, inj, fun k s e => ?_⟩
    have lk := (List.getElem?_eq_some_iff.mp e).1
    have b := hκ k (by omega)
    have kst : isSt (κ k) := Or.inr (Or.inr ⟨b.1, b.2.1⟩)
    have er := st_row _ (isSt_lt kst) kst
    rw [if_neg (by omega)] at er
    exact (hg k s e).up hC f hc kst (no _ (by omega) (by omega) (by omega)) (by rw [er]; exact no _ (by omega) (by omega) (by omega))
  · exact ⟨a6.1, by rw [dd 20 (by decide) (by decide) (by decide)]; exact a6.2.1, fun i hi => by rw [gg 21 (by decide) (by decide) (by decide)]; exact a6.2.2 i hi⟩
  · exact ⟨by rw [gg 0 (by decide) (by decide) (by decide)]; exact a7.1, by rw [gg 0 (by decide) (by decide) (by decide)]; exact a7.2.1, by rw [gg 0 (by decide) (by decide) (by decide)]; exact a7.2.2⟩
  · intro m hm
    rw [gg 26 (by decide) (by decide) (by decide)]
    exact a9 m hm
/-- the text's cells stay -/
def Kp (h h' : PH) : Prop := ∀ a k, 20 ≤ a → a ≤ 24 → dig h' a k = dig h a k
theorem Kp.rf (h : PH) : Kp h h := fun _ _ _ _ => rfl
theorem Kp.tr {h0 : PH} (a : Kp h0 h) (b : Kp h h') : Kp h0 h' := fun x k h1 h2 => by rw [b x k h1 h2, a x k h1 h2]
theorem Up.kp (f : Up Ch h h') (hC : CW h) (no : ∀ a k, Ch a k → a < 20 ∨ 24 < a) : Kp h h' := fun a k h1 h2 => f.2.2 a k (by have := hC.1; omega) (fun z => by have := no a k z; omega)
theorem Fc.kp {S : List Nat} (f : Fc S h h') (hC : CW h) (no : ∀ a ∈ S, a < 20 ∨ 24 < a) : Kp h h' := fun a k h1 h2 => f.2.2.1 a k (by have := hC.1; omega) (fun z => by have := no a z; omega)
theorem mk_len (q : MK bu h) (hb : bu ≤ 100000) : h.length ≤ 400000 := by
  have := q.1
  have := pot_le (h := h)
  unfold mu at *
  omega
/-- the constructor of a level, behind everything -/
theorem lev_init (h1 : 1 ≤ N) (h2 : N ≤ 25) (hl : h.length ≤ 400000) : T (fX3_init h.length (nI N)) (h ++ [(3, 16, onesF 16)]) (fun _ h' => Ext h h' ∧ (∀ a k, a < h.length → dig h' a k = dig h a k) ∧ Emb (fun b => h.length + b) (CL N) h' ∧ (∃ p, h.length ≤ p ∧ p < h'.length ∧ dig h' h.length 15 = p + 2 ∧ Sh h' p 21 8 ∧ ∀ n, n < 8 → dig h' p n = 1) ∧ mu h' ≤ mu h + 4200 ∧ Sh h' h.length 3 16) := by
  have rh : RH (fun b => h.length + b) LB (h ++ [(3, 16, onesF 16)]) := by
    refine ⟨fun a b e => by dsimp only at e; omega, fun i => ?_, fun b hb => by dsimp only; omega, fun a t n x e => ?_⟩
    · rw [List.length_append]
      show h.length + (1 + i) = h.length + 1 + i
      omega
    · have ha : a = 0 := by
        have := nth_lt e
        have : a < 1 := this
        omega
      subst ha
      have e2 : some (3, 16, onesF 16) = some (t, n, x) := e
      cases e2
      refine ⟨onesF 16, ?_, fun k => ?_⟩
      · rw [nth_app_right (Nat.le_add_right _ _), Nat.add_zero, Nat.sub_self]
        rfl
      · rw [dg_onesF]
        by_cases c : k < 16
        · rw [if_pos c]
          exact dR_one _
        · rw [if_neg c]
          exact Or.inl rfl
  have pr := prX3_init (r := fun b => h.length + b) (x0 := 0) (x1 := nI N) (by decide)
  refine T_mono (T_pr pr rh (lev_run2 h1 h2) fun v e' p => ?_) fun _ h' p => ?_
  · unfold okV at p
    simp only [Bool.and_eq_true] at p
    have := Nat.le_of_ble_eq_true p.2.2
    refine ⟨by omega, ?_⟩
    rw [List.length_append]
    show h.length + 1 + e'.length ≤ 900000000 + 1
    omega
  · obtain ⟨v, e', ok, -, rh', fr, ex⟩ := p
    unfold okV at ok
    simp only [Bool.and_eq_true] at ok
    obtain ⟨ok1, ok2, ok3⟩ := ok
    have bd := Nat.le_of_ble_eq_true ok3
    have em := emb_of rh' ok1
    have ext : Ext h h' := (Ext.ap h _).tr ex
    have len : h'.length = h.length + e'.length := by
      have := rh'.2.1 0
      dsimp only at this
      omega
    have slq : sl h' = sl h + sl e' := by
      have := fr.2.2
      rw [sl_app] at this
      have e1 : sl LB = 16 := rfl
      have e2 : sl [(3, 16, onesF 16)] = 16 := rfl
      omega
    refine ⟨ext, fun a k ha => ?_, em, ?_, by unfold mu; omega, sh_ext (t := 3) (n := 16) (h := h ++ [(3, 16, onesF 16)]) ⟨onesF 16, by rw [nth_app_right (Nat.le_refl _), Nat.sub_self]; rfl, fun k hk => by rw [dg_onesF, if_pos hk]; decide⟩ ex⟩
    · have e1 := fr.1 a (by rw [List.length_append]; omega) (fun b _ => by dsimp only; omega)
      rw [nth_app_left ha] at e1
      unfold dig
      rw [e1]
    · have lvk := lv_ok h1 h2
      unfold lvOK at lvk
      simp only [Bool.and_eq_true] at lvk
      have k15 := rqB_at (allL_at lvk.2.1 15 (by decide))
      have k15' := em.rf k15 (by decide)
      split at ok2
      · cases ok2
      · rename_i c hc
        obtain ⟨t, n, x⟩ := c
        simp only [Bool.and_eq_true] at ok2
        have e1 : t = 21 := Nat.eq_of_beq_eq_true ok2.1
        have e2 : n = 8 := Nat.eq_of_beq_eq_true ok2.2.1
        subst e1
        subst e2
        obtain ⟨y, f1, f2⟩ := rh'.2.2.2 _ _ _ _ hc
        have dy : ∀ k, k < 8 → dg y k = 1 := by
          intro k hk
          have d1 : dg x k = 1 := Nat.eq_of_beq_eq_true (allN_at ok2.2.2 k hk)
          have d2 := f2 k
          rw [d1] at d2
          rcases d2 with z | ⟨-, ⟨-, z⟩ | ⟨b, -, z, -⟩⟩ | ⟨-, z⟩
          · omega
          · exact z
          · omega
          · exact z
        refine ⟨h.length + lF N 15, Nat.le_add_right _ _, nth_lt f1, ?_, ⟨y, f1, fun k hk => by rw [dy k hk]; decide⟩, fun k hk => ?_⟩
        · obtain ⟨n2, x2, g1, g2, g3⟩ := rdD_some k15'
          unfold dig
          have g1' : nth h' h.length = some (3, n2, x2) := g1
          rw [g1']
          exact g3
        · unfold dig
          rw [f1]
          exact dy k hk
end C23
