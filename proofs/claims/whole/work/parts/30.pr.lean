/-! RENAMING: a run over a small heap is a run over any heap that holds it at other places, and nothing else changes there -/
def dR (r : Nat → Nat) (κ d e : Nat) : Prop := d = 0 ∨ (κ = 2 ∧ ((d = 1 ∧ e = 1) ∨ ∃ b, b < 1152921504606846976 ∧ d = b + 2 ∧ e = r b + 2)) ∨ (κ ≠ 2 ∧ e = d)
def RH (r : Nat → Nat) (h1 h2 : PH) : Prop := (∀ a b, r a = r b → a = b) ∧ (∀ i, r (h1.length + i) = h2.length + i) ∧ (∀ b, b < 1152921504606846976 → r b + 3 ≤ 36893488147419103232) ∧ ∀ a t n x, nth h1 a = some (t, n, x) → ∃ y, nth h2 (r a) = some (t, n, y) ∧ ∀ k, dR r (kd t k) (dg x k) (dg y k)
def FR (r : Nat → Nat) (h1 h2 h1' h2' : PH) : Prop := (∀ a, a < h2.length → (∀ b, b < h1.length → r b ≠ a) → nth h2' a = nth h2 a) ∧ (∀ b k, b < h1.length → dig h1' b k = 0 → dig h2' (r b) k = dig h2 (r b) k) ∧ sl h1 + sl h2' = sl h2 + sl h1'
def HB (h1 h2 h1' : PH) : Prop := h1'.length < 1152921504606846976 ∧ h2.length + h1'.length ≤ 900000000 + h1.length
def PR {α : Type} (r : Nat → Nat) (m1 m2 : PM α) (G : α → α → Prop) : Prop := ∀ h1 h2 v h1', RH r h1 h2 → m1.1 h1 = some (v, h1') → HB h1 h2 h1' → ∃ w h2', m2.1 h2 = some (w, h2') ∧ G v w ∧ RH r h1' h2' ∧ FR r h1 h2 h1' h2'
def Rn (r : Nat → Nat) (a b : Nat) : Prop := b = r a ∧ a < 1152921504606846976
def Ro (r : Nat → Nat) (a b : Option Nat) : Prop := b = a.map r ∧ ∀ c, a = some c → c < 1152921504606846976
section PRS
variable {r : Nat → Nat} {α β : Type}
theorem RH.len {h1 h2 : PH} (q : RH r h1 h2) {a : Nat} (ha : a < h1.length) : r a < h2.length := by
  have h : ∃ c, nth h1 a = some c := by
    rw [nth_eq]
    exact ⟨h1[a], List.getElem?_eq_getElem ha⟩
  obtain ⟨⟨t, n, x⟩, hc⟩ := h
  obtain ⟨y, e, -⟩ := q.2.2.2 a t n x hc
  exact nth_lt e
theorem FR.rf (h1 h2 : PH) : FR r h1 h2 h1 h2 := ⟨fun _ _ _ => rfl, fun _ _ _ _ => rfl, by omega⟩
theorem pr_pb {m1 m2 : PM α} {k1 k2 : α → PM β} {G : α → α → Prop} {G' : β → β → Prop} (hm : PR r m1 m2 G) (hk : ∀ v w, G v w → PR r (k1 v) (k2 w) G') : PR r (pb m1 k1) (pb m2 k2) G' := by
  intro h1 h2 v h1' q e hl
  obtain ⟨a, g1, e1, e2⟩ := pb_some e
  have x2 := (k1 a).2.1 _ _ _ e2
  have x1 := m1.2.1 _ _ _ e1
  obtain ⟨b, g2, f1, gab, q1, fr1⟩ := hm h1 h2 a g1 q e1 ⟨Nat.lt_of_le_of_lt x2.1 hl.1, by have := x2.1; have := hl.2; omega⟩
  have lq := q.2.1 (g1.length - h1.length)
  have lq1 := q1.2.1 0
  rw [show h1.length + (g1.length - h1.length) = g1.length + 0 by have := x1.1; omega, lq1] at lq
  obtain ⟨w, h2', f2, gw, q2, fr2⟩ := hk a b gab g1 g2 v h1' q1 e2 ⟨hl.1, by have := hl.2; have := x1.1; omega⟩
  have y1 := m2.2.1 _ _ _ f1
  refine ⟨w, h2', by rw [pb_of f1]; exact f2, gw, q2, fun c hc hn => ?_, fun c k hc hz => ?_, ?_⟩
  · rw [fr2.1 c (Nat.lt_of_lt_of_le hc y1.1) (fun d hd => ?_), fr1.1 c hc hn]
    by_cases hd2 : d < h1.length
    · exact hn d hd2
    · have := q.2.1 (d - h1.length)
      rw [show h1.length + (d - h1.length) = d by omega] at this
      omega
  · rw [fr2.2.1 c k (Nat.lt_of_lt_of_le hc x1.1) hz]
    refine fr1.2.1 c k hc ?_
    by_cases hn : dig g1 c k = 0
    · exact hn
    · exact absurd hz (x2.kn hn)
  · have a1 := fr1.2.2
    have a2 := fr2.2.2
    omega
theorem pr_bE {m1 m2 : PM α} {k1 k2 : α → PM β} {G' : β → β → Prop} (hm : PR r m1 m2 Eq) (hk : ∀ v, PR r (k1 v) (k2 v) G') : PR r (pb m1 k1) (pb m2 k2) G' := pr_pb hm fun v w e => by subst e; exact hk v
theorem pr_bN {m1 m2 : PM Nat} {k1 k2 : Nat → PM β} {G' : β → β → Prop} (hm : PR r m1 m2 (Rn r)) (hk : ∀ v, v < 1152921504606846976 → PR r (k1 v) (k2 (r v)) G') : PR r (pb m1 k1) (pb m2 k2) G' := pr_pb hm fun v w e => by obtain ⟨rfl, e2⟩ := e; exact hk v e2
theorem pr_bO {m1 m2 : PM (Option Nat)} {k1 k2 : Option Nat → PM β} {G' : β → β → Prop} (hm : PR r m1 m2 (Ro r)) (hk : ∀ v, (∀ c, v = some c → c < 1152921504606846976) → PR r (k1 v) (k2 (v.map r)) G') : PR r (pb m1 k1) (pb m2 k2) G' := pr_pb hm fun v w e => by obtain ⟨rfl, e2⟩ := e; exact hk v e2
theorem pr_pp {a b : α} {G : α → α → Prop} (g : G a b) : PR r (pp a) (pp b) G := by
  intro h1 h2 v h1' q e _
  obtain ⟨rfl, rfl⟩ := pp_some e
  exact ⟨b, h2, rfl, g, q, FR.rf _ _⟩
theorem pr_pf {G : α → α → Prop} : PR r (pf : PM α) pf G := by
  intro h1 h2 v h1' q e _
  cases e
theorem pr_ite {c : Prop} {i : Decidable c} {A1 A2 B1 B2 : PM α} {G : α → α → Prop} (hA : PR r A1 A2 G) (hB : PR r B1 B2 G) : PR r (@ite _ c i A1 B1) (@ite _ c i A2 B2) G := by
  by_cases h : c
  · rw [if_pos h, if_pos h]; exact hA
  · rw [if_neg h, if_neg h]; exact hB
theorem pr_plo {σ ε : Type} {b1 b2 : σ → PM (σ ⊕ ε)} {Gσ : σ → σ → Prop} {Gε : ε → ε → Prop} (hb : ∀ x y, Gσ x y → PR r (b1 x) (b2 y) (fun u v => (∃ a b, u = .inl a ∧ v = .inl b ∧ Gσ a b) ∨ (∃ a b, u = .inr a ∧ v = .inr b ∧ Gε a b))) : ∀ (n : Nat) (x y : σ), Gσ x y → PR r (plo b1 n x) (plo b2 n y) Gε := by
  intro n
  induction n with
  | zero => intro x y _; exact pr_pf
  | succ n ih =>
    intro x y g
    rw [plo_s, plo_s]
    refine pr_pb (hb x y g) fun u v e => ?_
    rcases e with ⟨a, b, rfl, rfl, e⟩ | ⟨a, b, rfl, rfl, e⟩
    · exact ih a b e
    · exact pr_pp e
theorem pr_ploE {σ ε : Type} {b1 b2 : σ → PM (σ ⊕ ε)} (hb : ∀ x, PR r (b1 x) (b2 x) Eq) (n : Nat) (x : σ) : PR r (plo b1 n x) (plo b2 n x) Eq := by
  refine pr_plo (Gσ := Eq) (fun x y e => ?_) n x x rfl
  subst e
  intro h1 h2 v h1' q e hl
  obtain ⟨w, h2', f1, g, f2, f3⟩ := hb x h1 h2 v h1' q e hl
  refine ⟨w, h2', f1, ?_, f2, f3⟩
  subst g
  cases v with
  | inl a => exact Or.inl ⟨a, a, rfl, rfl, rfl⟩
  | inr a => exact Or.inr ⟨a, a, rfl, rfl, rfl⟩
theorem pr_look {m1 m2 : PM α} {G : α → α → Prop} (hm : ∀ h1 h2 v h1', RH r h1 h2 → m1.1 h1 = some (v, h1') → h1' = h1 ∧ ∃ w, m2.1 h2 = some (w, h2) ∧ G v w) : PR r m1 m2 G := by
  intro h1 h2 v h1' q e _
  obtain ⟨rfl, w, f, g⟩ := hm h1 h2 v h1' q e
  exact ⟨w, h2, f, g, q, FR.rf _ _⟩
theorem RH.rd {h1 h2 : PH} (q : RH r h1 h2) {t a k d : Nat} (e : rdD h1 t a k = some d) (hd : d ≠ 0) : ∃ d2, rdD h2 t (r a) k = some d2 ∧ dR r (kd t k) d d2 := by
  obtain ⟨n, x, e1, e2, e3⟩ := rdD_some e
  obtain ⟨y, f1, f2⟩ := q.2.2.2 a t n x e1
  exact ⟨dg y k, rdD_of f1 e2, by rw [← e3]; exact f2 k⟩
theorem dR.v {κ d e : Nat} (q : dR r κ (d + 1) e) (h : κ ≠ 2) : e = d + 1 := by
  rcases q with q | ⟨q, -⟩ | ⟨-, q⟩
  · omega
  · exact absurd q h
  · exact q
theorem pr_gI {t k a : Nat} (h : kd t k ≠ 2) : PR r (gI t k a) (gI t k (r a)) Eq := by
  refine pr_look fun h1 h2 v h1' q e => ?_
  obtain ⟨rfl, d, e1, rfl⟩ := gI_some e
  obtain ⟨d2, f1, f2⟩ := q.rd e1 (by omega)
  rw [f2.v h] at f1
  refine ⟨rfl, _, ?_, rfl⟩
  unfold gI
  simp only [f1]
theorem pr_gJ {t k a : Nat} (h : kd t k ≠ 2) : PR r (gJ t k a) (gJ t k (r a)) Eq := by
  refine pr_look fun h1 h2 v h1' q e => ?_
  obtain ⟨rfl, d, e1, rfl⟩ := gJ_some e
  obtain ⟨d2, f1, f2⟩ := q.rd e1 (by omega)
  rw [f2.v h] at f1
  refine ⟨rfl, _, ?_, rfl⟩
  unfold gJ
  simp only [f1]
theorem pr_gA {t k a : Nat} (h : kd t k = 2) : PR r (gA t k a) (gA t k (r a)) (Rn r) := by
  refine pr_look fun h1 h2 v h1' q e => ?_
  obtain ⟨rfl, e1⟩ := gA_some e
  obtain ⟨d2, f1, f2⟩ := q.rd e1 (by omega)
  rcases f2 with f2 | ⟨-, ⟨f2, -⟩ | ⟨b, f2, f3, f4⟩⟩ | ⟨f2, -⟩
  · omega
  · omega
  · have : v = b := by omega
    subst this
    rw [f4] at f1
    refine ⟨rfl, r v, ?_, rfl, f2⟩
    unfold gA
    simp only [f1]
  · exact absurd h f2
theorem pr_gN {t k a : Nat} (h : kd t k = 2) : PR r (gN t k a) (gN t k (r a)) (Ro r) := by
  refine pr_look fun h1 h2 v h1' q e => ?_
  obtain ⟨rfl, d, e1, e2⟩ := gN_some e
  obtain ⟨d2, f1, f2⟩ := q.rd e1 (by omega)
  rcases f2 with f2 | ⟨-, ⟨f2, f3⟩ | ⟨b, f2, f3, f4⟩⟩ | ⟨f2, -⟩
  · omega
  · have : d = 0 := by omega
    subst this
    subst e2
    subst f3
    refine ⟨rfl, none, ?_, rfl, fun c hc => by cases hc⟩
    unfold gN
    simp only [f1]
  · have : d = b + 1 := by omega
    subst this
    subst e2
    rw [f4] at f1
    refine ⟨rfl, some (r b), ?_, rfl, fun c hc => by cases hc; exact f2⟩
    unfold gN
    simp only [f1]
  · exact absurd h f2
theorem pr_sD {t k a d e : Nat} (hd : dR r (kd t k) d e) (hd0 : d ≠ 0) (he0 : e ≠ 0) (he : e < 36893488147419103232) : PR r (sD t k a d) (sD t k (r a) e) Eq := by
  intro h1 h2 v h1' q e0 _
  obtain ⟨n, x, e1, e2, e3, e4, rfl⟩ := wrD_some (sD_some e0)
  obtain ⟨y, f1, f2⟩ := q.2.2.2 a t n x e1
  have hla := nth_lt e1
  have hlb := nth_lt f1
  refine ⟨(), nset h2 (r a) (t, n, ds y k e), ?_, rfl, ⟨q.1, fun i => by rw [nset_len, nset_len]; exact q.2.1 i, q.2.2.1, fun b t' n' x' eb => ?_⟩, fun c hc hn => ?_, fun b j hb hz => ?_, ?_⟩
  · unfold sD
    simp only [wrD_of f1 e2 he he0]
  · by_cases c : b = a
    · subst c
      rw [nth_nset_same hla] at eb
      cases eb
      refine ⟨ds y k e, nth_nset_same hlb, fun j => ?_⟩
      rw [dg_ds _ _ _ _ e3, dg_ds _ _ _ _ he]
      by_cases cj : j = k
      · rw [if_pos cj, if_pos cj, cj]; exact hd
      · rw [if_neg cj, if_neg cj]; exact f2 j
    · rw [nth_nset_ne c] at eb
      obtain ⟨z, g1, g2⟩ := q.2.2.2 b t' n' x' eb
      exact ⟨z, by rw [nth_nset_ne (fun h => c (q.1 _ _ h))]; exact g1, g2⟩
  · rw [nth_nset_ne (fun h => hn a hla h.symm)]
  · rw [dig_nset hla] at hz
    rw [dig_nset hlb]
    by_cases c : b = a
    · subst c
      rw [if_pos rfl] at hz ⊢
      rw [dg_ds _ _ _ _ e3] at hz
      rw [dg_ds _ _ _ _ he]
      by_cases cj : j = k
      · rw [if_pos cj] at hz; exact absurd hz hd0
      · rw [if_neg cj]
        unfold dig
        rw [f1]
    · rw [if_neg (fun h => c (q.1 _ _ h))]
  · rw [sl_nset (d := (t, n, ds y k e)) f1 rfl, sl_nset (d := (t, n, ds x k d)) e1 rfl]
    omega
theorem pr_sI {t k a : Nat} {v : Int32} (h : kd t k ≠ 2) : PR r (sI t k a v) (sI t k (r a) v) Eq := pr_sD (Or.inr (Or.inr ⟨h, rfl⟩)) (Nat.succ_ne_zero _) (Nat.succ_ne_zero _) (eI_lt v)
theorem pr_sJ {t k a : Nat} {v : Int64} (h : kd t k ≠ 2) : PR r (sJ t k a v) (sJ t k (r a) v) Eq := pr_sD (Or.inr (Or.inr ⟨h, rfl⟩)) (Nat.succ_ne_zero _) (Nat.succ_ne_zero _) (eJ_lt v)
theorem pr_sR {t k a b : Nat} (h : kd t k = 2) (hb : b < 1152921504606846976) : PR r (sR t k a (some b)) (sR t k (r a) (some (r b))) Eq := by
  intro h1 h2 v h1' q e hl
  have hr := q.2.2.1 b hb
  exact pr_sD (r := r) (d := b + 2) (e := r b + 2) (Or.inr (Or.inl ⟨h, Or.inr ⟨b, hb, rfl, rfl⟩⟩)) (Nat.succ_ne_zero _) (Nat.succ_ne_zero _) (by omega) h1 h2 v h1' q e hl
theorem pr_lI {t a : Nat} {j : Int32} (h : ∀ k, kd t k ≠ 2) : PR r (lI t a j) (lI t (r a) j) Eq := by
  unfold lI
  cases aix j with
  | none => exact pr_pf
  | some k => exact pr_gI (h k)
theorem pr_lJ {t a : Nat} {j : Int32} (h : ∀ k, kd t k ≠ 2) : PR r (lJ t a j) (lJ t (r a) j) Eq := by
  unfold lJ
  cases aix j with
  | none => exact pr_pf
  | some k => exact pr_gJ (h k)
theorem pr_lA {t a : Nat} {j : Int32} (h : ∀ k, kd t k = 2) : PR r (lA t a j) (lA t (r a) j) (Rn r) := by
  unfold lA
  cases aix j with
  | none => exact pr_pf
  | some k => exact pr_gA (h k)
theorem pr_lN {t a : Nat} {j : Int32} (h : ∀ k, kd t k = 2) : PR r (lN' t a j) (lN' t (r a) j) (Ro r) := by
  unfold lN'
  cases aix j with
  | none => exact pr_pf
  | some k => exact pr_gN (h k)
theorem pr_tI {t a : Nat} {j v : Int32} (h : ∀ k, kd t k ≠ 2) : PR r (tI t a j v) (tI t (r a) j v) Eq := by
  unfold tI
  cases aix j with
  | none => exact pr_pf
  | some k => exact pr_sI (h k)
theorem pr_tJ {t a : Nat} {j : Int32} {v : Int64} (h : ∀ k, kd t k ≠ 2) : PR r (tJ t a j v) (tJ t (r a) j v) Eq := by
  unfold tJ
  cases aix j with
  | none => exact pr_pf
  | some k => exact pr_sJ (h k)
theorem pr_chk {t a : Nat} : PR r (chk t a) (chk t (r a)) Eq := by
  refine pr_look fun h1 h2 v h1' q e => ?_
  obtain ⟨rfl, n, x, e1⟩ := chk_some e
  obtain ⟨y, f1, -⟩ := q.2.2.2 a t n x e1
  refine ⟨rfl, (), ?_, rfl⟩
  unfold chk
  simp only [f1, Nat.beq_refl, cond_true]
theorem pr_tA {te t a b : Nat} {j : Int32} (h : ∀ k, kd t k = 2) (hb : b < 1152921504606846976) : PR r (tA te t a j b) (tA te t (r a) j (r b)) Eq := by
  unfold tA
  refine pr_bE pr_chk fun _ => ?_
  cases aix j with
  | none => exact pr_pf
  | some k => exact pr_sR (h k) hb
theorem pr_aln {a : Nat} : PR r (aln a) (aln (r a)) Eq := by
  refine pr_look fun h1 h2 v h1' q e => ?_
  obtain ⟨rfl, t, n, x, e1, e2, e3, rfl⟩ := aln_some e
  obtain ⟨y, f1, -⟩ := q.2.2.2 a t n x e1
  refine ⟨rfl, _, ?_, rfl⟩
  unfold aln
  have b1 : Nat.ble 16 t = true := Nat.ble_eq_true_of_le e2
  have b2 : Nat.ble t 24 = true := Nat.ble_eq_true_of_le (by omega)
  simp only [f1, b1, b2, Bool.and_self, cond_true]
/-- cells behind, on both sides -/
theorem RH.ap {h1 h2 g1 g2 : PH} (q : RH r h1 h2) (hl : g1.length = g2.length) (hg : ∀ i t n x, nth g1 i = some (t, n, x) → ∃ y, nth g2 i = some (t, n, y) ∧ ∀ k, dR r (kd t k) (dg x k) (dg y k)) : RH r (h1 ++ g1) (h2 ++ g2) := by
  refine ⟨q.1, fun i => ?_, q.2.2.1, fun a t n x e => ?_⟩
  · rw [List.length_append, List.length_append, Nat.add_assoc, q.2.1, hl, Nat.add_assoc]
  · by_cases ha : a < h1.length
    · rw [nth_app_left ha] at e
      obtain ⟨y, f1, f2⟩ := q.2.2.2 a t n x e
      exact ⟨y, by rw [nth_app_left (nth_lt f1)]; exact f1, f2⟩
    · rw [nth_app_right (by omega)] at e
      obtain ⟨y, f1, f2⟩ := hg _ t n x e
      have hr := q.2.1 (a - h1.length)
      rw [show h1.length + (a - h1.length) = a by omega] at hr
      refine ⟨y, ?_, f2⟩
      rw [hr, nth_app_right (by omega), show h2.length + (a - h1.length) - h2.length = a - h1.length by omega]
      exact f1
theorem FR.ap {h1 h2 g1 g2 : PH} (q : RH r h1 h2) (hs : sl g1 = sl g2) : FR r h1 h2 (h1 ++ g1) (h2 ++ g2) := by
  refine ⟨fun a ha _ => nth_app_left ha, fun b k hb _ => ?_, by rw [sl_app, sl_app]; omega⟩
  unfold dig
  rw [nth_app_left (q.len hb)]
theorem dR_one (κ : Nat) : dR r κ 1 1 := by
  by_cases h : κ = 2
  · exact Or.inr (Or.inl ⟨h, Or.inl ⟨rfl, rfl⟩⟩)
  · exact Or.inr (Or.inr ⟨h, rfl⟩)
theorem pr_al {t n : Nat} : PR r (al t n) (al t n) (Rn r) := by
  intro h1 h2 v h1' q e hl
  obtain ⟨e1, rfl, rfl⟩ := al_some e
  refine ⟨h2.length, h2 ++ [(t, n, onesF n)], ?_, ⟨by have := q.2.1 0; simpa using this.symm, ?_⟩, q.ap rfl fun i t' n' x' ei => ⟨x', ei, fun k => ?_⟩, FR.ap q rfl⟩
  · unfold al
    simp only [frN_eq, lenK_eq, apK_eq, Nat.zero_add, Nat.ble_eq_true_of_le e1, cond_true]
  · have hl := hl.1
    rw [List.length_append] at hl
    simp at hl
    omega
  · have hi : i = 0 := by
      have := nth_lt ei
      simp at this
      omega
    subst hi
    cases ei
    rw [dg_onesF]
    split
    · exact dR_one _
    · exact Or.inl rfl
theorem pr_nA {t : Nat} {j : Int32} : PR r (nA t j) (nA t j) (Rn r) := by
  unfold nA
  cases aix j with
  | none => exact pr_pf
  | some k => exact pr_al
theorem pr_pz {v : Int32} : PR r (pz v) (pz v) Eq := by
  unfold pz
  exact pr_ite (pr_pp rfl) (pr_ite (pr_pp rfl) pr_pf)
theorem pr_mna {t ti : Nat} {i j : Int32} (ht : ∀ k, kd t k = 2) : PR r (mna t ti i j) (mna t ti i j) (Rn r) := by
  intro h1 h2 v h1' q e hl
  obtain ⟨n, k, a1, a2, e1, e2, e3, rfl, rfl⟩ := mna_some e
  have hl2 := hl.2
  rw [List.length_append, List.length_cons, List.length_replicate] at hl2
  have hv : h1.length < 1152921504606846976 := by omega
  refine ⟨h2.length, h2 ++ ((t, n, refs (h2.length + 3) n) :: List.replicate n (ti, k, onesF k)), ?_, ⟨by have := q.2.1 0; simpa using this.symm, hv⟩, q.ap (by simp) fun i' t' n' x' ei => ?_, FR.ap q (by simp [sl])⟩
  · unfold mna
    simp only [a1, a2]
    have b1 : Nat.ble n 1000000 = true := Nat.ble_eq_true_of_le e1
    have b2 : Nat.ble k 1000000 = true := Nat.ble_eq_true_of_le e2
    have b3 : Nat.ble (h2.length + n) 1000000000 = true := Nat.ble_eq_true_of_le (by omega)
    simp only [frN_eq, lenK_eq, apK_eq, Nat.zero_add, List.append_nil, b1, b2, b3, Bool.and_self, cond_true]
  · cases i' with
    | zero =>
      cases ei
      refine ⟨_, rfl, fun m => ?_⟩
      rw [ht m, dg_refs _ _ _ (by omega), dg_refs _ _ _ (by omega)]
      by_cases hm : m < n
      · rw [if_pos hm, if_pos hm]
        refine Or.inr (Or.inl ⟨rfl, Or.inr ⟨h1.length + (1 + m), by omega, by omega, ?_⟩⟩)
        rw [q.2.1]
        omega
      · rw [if_neg hm]
        exact Or.inl rfl
    | succ i' =>
      have ei' : nth (List.replicate n (ti, k, onesF k)) i' = some (t', n', x') := ei
      refine ⟨x', ei, fun m => ?_⟩
      rw [nth_eq, List.getElem?_replicate] at ei'
      split at ei'
      · cases ei'
        rw [dg_onesF]
        split
        · exact dR_one _
        · exact Or.inl rfl
      · cases ei'
theorem pr_acp {a b : Nat} {sp dp n : Int32} : PR r (acp a sp b dp n) (acp (r a) sp (r b) dp n) Eq := by
  unfold acp
  cases aix sp with
  | none => exact pr_pf
  | some s' =>
    cases aix dp with
    | none => exact pr_pf
    | some d' =>
      cases aix n with
      | none => exact pr_pf
      | some n' =>
        intro h1 h2 v h1' q e _
        obtain ⟨n1, x, n2, y, e1, e2, e3, e4, e5, rfl⟩ := acpF_some e
        obtain ⟨x2, f1, f2⟩ := q.2.2.2 a 18 n1 x e1
        obtain ⟨y2, g1, g2⟩ := q.2.2.2 b 18 n2 y e2
        have k1 := knR_at e5
        have k2 : ∀ i, i < n' → dg x2 (s' + i) = dg x (s' + i) := fun i hi => by
          rcases f2 (s' + i) with z | ⟨z, -⟩ | ⟨-, z⟩
          · exact absurd z (k1 i hi)
          · cases z
          · exact z
        have k3 : knR x2 s' n' = true := knR_of fun i hi => by rw [k2 i hi]; exact k1 i hi
        have hlb := nth_lt e2
        have hlb2 := nth_lt g1
        refine ⟨(), _, acpF_of f1 g1 e3 e4 k3, rfl, ⟨q.1, fun i => by rw [nset_len, nset_len]; exact q.2.1 i, q.2.2.1, fun c t' m' z ec => ?_⟩, fun c hc hn => ?_, fun c j hc hz => ?_, ?_⟩
        · by_cases cc : c = b
          · subst cc
            rw [nth_nset_same hlb] at ec
            cases ec
            refine ⟨_, nth_nset_same hlb2, fun j => ?_⟩
            rw [dg_cpD, dg_cpD]
            by_cases cj : d' ≤ j ∧ j < d' + n'
            · rw [if_pos cj, if_pos cj, k2 _ (by omega)]
              exact Or.inr (Or.inr ⟨(by show (1 : Nat) ≠ 2; decide), rfl⟩)
            · rw [if_neg cj, if_neg cj]; exact g2 j
          · rw [nth_nset_ne cc] at ec
            obtain ⟨w, w1, w2⟩ := q.2.2.2 c t' m' z ec
            exact ⟨w, by rw [nth_nset_ne (fun h => cc (q.1 _ _ h))]; exact w1, w2⟩
        · rw [nth_nset_ne (fun h => hn b hlb h.symm)]
        · rw [dig_nset hlb] at hz
          rw [dig_nset hlb2]
          by_cases cc : c = b
          · subst cc
            rw [if_pos rfl] at hz ⊢
            rw [dg_cpD] at hz
            rw [dg_cpD]
            by_cases cj : d' ≤ j ∧ j < d' + n'
            · rw [if_pos cj] at hz
              exact absurd hz (k1 _ (by omega))
            · rw [if_neg cj]
              unfold dig
              rw [g1]
          · rw [if_neg (fun h => cc (q.1 _ _ h))]
        · rw [sl_nset (d := (18, n2, cpD x2 y2 s' d' n')) g1 rfl, sl_nset (d := (18, n2, cpD x y s' d' n')) e2 rfl]
          omega
theorem pr_cln {a : Nat} : PR r (cln a) (cln (r a)) (Rn r) := by
  intro h1 h2 v h1' q e hl
  obtain ⟨n, x, e1, rfl, rfl⟩ := cln_some e
  obtain ⟨y, f1, f2⟩ := q.2.2.2 a 18 n x e1
  have hl2 := hl.1
  rw [List.length_append] at hl2
  simp at hl2
  refine ⟨h2.length, _, clnF_of f1, ⟨by have := q.2.1 0; simpa using this.symm, by omega⟩, q.ap rfl fun i t' n' x' ei => ?_, FR.ap q rfl⟩
  have hi : i = 0 := by
    have := nth_lt ei
    simp at this
    omega
  subst hi
  cases ei
  exact ⟨y, rfl, f2⟩
end PRS
