section C5
variable {h h' : PH} {N : Nat}
theorem Emb.fc {S : List Nat} {r : Nat → Nat} {e : PH} (q : Emb r e h) (f : Fc S h h') (hr : ∀ b, r b ∉ S) : Emb r e h' := by
  intro b t n x hb
  obtain ⟨y, f1, f2⟩ := q b t n x hb
  obtain ⟨z, g1, -⟩ := f.2.1.2.2 _ _ f1
  refine ⟨z, g1, fun k => ?_⟩
  have := f.2.2.1 (r b) k (nth_lt f1) (hr b)
  unfold dig at this
  rw [f1, g1] at this
  have e : dg z k = dg y k := this
  rw [e]
  exact f2 k
theorem dig_in {a k d : Nat} (e : dig h a k = d + 1) : a < h.length := by
  cases q : nth h a with
  | none =>
    unfold dig at e
    rw [q] at e
    exact absurd e (by simp)
  | some c => exact nth_lt q
theorem LevelAt.fc {S : List Nat} {a : Nat} (q : LevelAt h a N) (f : Fc S h h') (hs : ∀ x ∈ S, x < 27 ∧ x ≠ 1) : LevelAt h' a N := by
  obtain ⟨h1, h2, hl, r, r0, r1, r2, r3, em⟩ := q
  refine ⟨h1, h2, ?_, r, r0, r1, r2, r3, em.fc f fun b z => by have := (hs _ z).1; have := r1 b; omega⟩
  rw [f.2.2.1 1 N (dig_in hl) (fun z => (hs _ z).2 rfl)]
  exact hl
/-- the state at d is g -/
def SAt (h : PH) (d : Nat) (g : Sg) : Prop := ∃ a, dig h d 0 = a + 2 ∧ a < 1152921504606846976 ∧ LevelAt h a g.1 ∧ ∀ i, i < 9 → gj h (cref d 1) i = g.2 i
theorem xc {v : Nat} (hv : v ≤ 2) : (Int32.ofNat (dgI 1 v - 1)).toInt64 = Int64.ofNat (dgJ 1 v - 1) := by
  rcases (show v = 0 ∨ v = 1 ∨ v = 2 by omega) with rfl | rfl | rfl <;> decide
theorem dgI_s (c v : Nat) : ∃ d, dgI c v = d + 1 := ⟨_, rfl⟩
theorem c_addSymbol {g : Sg} (hC : CW h) (q : SAt h 4 g) {p : Nat} (hp : p ≤ cnt g.1) {x : Int32} (hx : x = Int32.ofNat (dgI 1 p - 1)) (t : Int32) : T (fX8_addSymbol 4 x t) h (fun _ h' => Fc [5] h h' ∧ SAt h' 4 (g.1, adS g.1 p t.toInt64 g.2)) := by
  obtain ⟨a, e0, la, lv, row⟩ := q
  have row : ∀ i, i < 9 → gj h 5 i = g.2 i := row
  have w1 := lv.1
  have w2 := lv.2.1
  have n := tb_n w1 w2
  obtain ⟨F, X, lf⟩ := lv.f
  unfold fX8_addSymbol
  rw [c_chk hC (by decide) (by decide), t_gA (c_sh hC (by decide) (by decide) : Sh h 4 7 (clen 4)) (by decide) e0]
  refine T_call (c_hasSymbol w1 w2 lf x) fun v h1 P => ?_
  obtain ⟨rfl, rfl⟩ := P
  by_cases c : p = 0
  · subst c
    have hx1 : x = -1 := by rw [hx]; decide
    have nr : ¬ rg (-1 : Int32) 0 ((cnt g.1 : Int) - 1) := fun z => absurd z.1 (by decide)
    rw [hx1, if_neg nr, T_ifp rfl, T_pp]
    refine ⟨Fc.rf hC _, a, e0, la, lv, fun i hi => ?_⟩
    show gj h1 5 i = adS g.1 0 t.toInt64 g.2 i
    unfold adS
    rw [if_neg (fun z => z.1 rfl)]
    exact row i hi
  · obtain ⟨s, rfl⟩ : ∃ s, p = s + 1 := ⟨p - 1, by omega⟩
    have hx1 : x = nI s := by rw [hx, ← nI_dg (by omega)]
    subst hx1
    have hs : s < cnt g.1 := by omega
    have es : (nI s).toInt = (s : Int) := nI_toInt (by omega)
    have yr : rg (nI s) 0 ((cnt g.1 : Int) - 1) := ⟨by omega, by omega⟩
    rw [if_pos yr, T_ifn (by decide)]
    refine T_call (P := fun _ h' => Fc [5] h1 h' ∧ ∀ i, i < 9 → gj h' 5 i = if i < dim g.1 then g.2 i + t.toInt64 * xJ g.1 s i else g.2 i) ?_ fun _ h' P => ?_
    · refine T_for (dim g.1) (fun m h' => Fc [5] h1 h' ∧ ∀ i, i < 9 → gj h' 5 i = if i < m then g.2 i + t.toInt64 * xJ g.1 s i else g.2 i) (fun i ha hi hI => ?_) (fun ha hI => ?_) (by omega) (i0 := 0) (by omega) ⟨Fc.rf hC _, fun i hi => by rw [if_neg (by omega)]; exact row i hi⟩
      · obtain ⟨hF, hI⟩ := hI
        have hCa := hF.1
        have lva := lv.fc hF (by decide)
        obtain ⟨F', X', lf'⟩ := lva.f
        have e0' : dig ha 4 0 = a + 2 := by rw [fc_d hF hC (by decide) (by decide)]; exact e0
        have c1 : ¬ nI (dim g.1) ≤ nI i := nI_ge hi (by omega)
        have i1 := hI i (by omega)
        rw [if_neg (by omega)] at i1
        obtain ⟨v, hv⟩ := dgI_s 1 (tX g.1 s i)
        have rx := ((lf'.2.2.2.2.2.2.2.2.1 s hs).2 i hi)
        rw [hv] at rx
        unfold fX8_addSymbol_B14 fX8_addSymbol_b14
        have shA : Sh ha 4 7 (clen 4) := c_sh hCa (by decide) (by decide)
        rw [T_fr, t_gA shA (by decide) e0', v_gI lf'.2.2.2.1]
        have edim : Int32.ofNat (dim g.1) = nI (dim g.1) := rfl
        rw [edim, T_ifn c1, c_gA hCa (by decide) (by decide), cr_4_1, c_lJ hCa (by decide) (by decide) (by rw [cl_5]; omega), i1, t_gA shA (by decide) e0', v_gA (lf'.2.2.2.2.1 13 (by decide)), v_lA (lf'.2.2.2.2.2.2.2.2.1 s hs).1 (by omega), v_lI rx (by omega), c_tJ hCa (by decide) (by decide) (by rw [cl_5]; omega), T_pp]
        have ev : Int32.ofNat v = Int32.ofNat (dgI 1 (tX g.1 s i) - 1) := by rw [hv]; rfl
        rw [ev, xc (tb_x w1 w2 hs hi)]
        refine ⟨by rw [nI_succ], hF.J (cref_row 5 (by decide) (by decide) i) (by decide), fun j hj => ?_⟩
        rw [gj_wJc hCa (by decide)]
        by_cases cj : j = i
        · rw [if_pos ⟨rfl, cj⟩, if_pos (by omega), cj]
          rfl
        · rw [if_neg (fun z => cj z.2), hI j hj]
          by_cases c3 : j < i
          · rw [if_pos c3, if_pos (by omega)]
          · rw [if_neg c3, if_neg (by omega)]
      · obtain ⟨hF, hI⟩ := hI
        have hCa := hF.1
        obtain ⟨F', X', lf'⟩ := (lv.fc hF (by decide)).f
        have e0' : dig ha 4 0 = a + 2 := by rw [fc_d hF hC (by decide) (by decide)]; exact e0
        have c1 : nI (dim g.1) ≤ nI (dim g.1) := nI_le (Nat.le_refl _) (by omega)
        unfold fX8_addSymbol_B14 fX8_addSymbol_b14
        have shA : Sh ha 4 7 (clen 4) := c_sh hCa (by decide) (by decide)
        have edim : Int32.ofNat (dim g.1) = nI (dim g.1) := rfl
        rw [T_fr, t_gA shA (by decide) e0', v_gI lf'.2.2.2.1, edim, T_ifp c1, T_pp]
        exact ⟨(), rfl, hF, hI⟩
    · obtain ⟨hF, hI⟩ := P
      rw [T_pp]
      refine ⟨hF, a, by rw [fc_d hF hC (by decide) (by decide)]; exact e0, la, lv.fc hF (by decide), fun i hi => ?_⟩
      show gj h' 5 i = adS g.1 (s + 1) t.toInt64 g.2 i
      rw [hI i hi]
      unfold adS
      by_cases c3 : i < dim g.1
      · rw [if_pos c3, if_pos ⟨by omega, c3⟩]
        rfl
      · rw [if_neg c3, if_neg (fun z => c3 z.2)]
theorem c_verdict {g : Sg} (hC : CW h) (q : SAt h 4 g) : T (fX8_verdict 4) h (fun v h' => h' = h ∧ v = if okB g.1 g.2 = true then nI (cnz g.2 (dim g.1)) else -3) := by
  obtain ⟨a, e0, la, lv, row⟩ := q
  have row : ∀ i, i < 9 → gj h 5 i = g.2 i := row
  have w1 := lv.1
  have w2 := lv.2.1
  have n := tb_n w1 w2
  obtain ⟨F, X, lf⟩ := lv.f
  have shA : Sh h 4 7 (clen 4) := c_sh hC (by decide) (by decide)
  have edim : Int32.ofNat (dim g.1) = nI (dim g.1) := rfl
  unfold fX8_verdict
  rw [c_chk hC (by decide) (by decide)]
  refine T_call (P := fun z h' => h' = h ∧ ((z = .inr (nI (cnz g.2 (dim g.1))) ∧ okB g.1 g.2 = true) ∨ (z = .inl (-3) ∧ okB g.1 g.2 = false))) ?_ (fun z ha p => ?_)
  · refine T_loop (fun m x ha => ha = h ∧ ∃ i, x = (nI (cnz g.2 i), nI i) ∧ i ≤ dim g.1 ∧ m = dim g.1 - i ∧ ∀ j, j < i → inL (g.2 j)) (fun m x ha q => ?_) fu (dim g.1) (nI 0, nI 0) h (by unfold fu; omega) ⟨rfl, 0, rfl, by omega, by omega, fun j hj => by omega⟩
    obtain ⟨rfl, i, rfl, hi, rfl, hj⟩ := q
    unfold fX8_verdict_B4 fX8_verdict_b4
    rw [T_fr, T_fr]
    dsimp only
    rw [t_gA shA (by decide) e0, v_gI lf.2.2.2.1, edim]
    by_cases c : i = dim g.1
    · rw [T_ifp (by rw [c]; exact nI_le (Nat.le_refl _) (by omega)), T_pp]
      exact Or.inr ⟨_, rfl, rfl, Or.inl ⟨by rw [c], allN_of fun k hk => decide_eq_true (hj k (by omega))⟩⟩
    · have c1 : ¬ nI (dim g.1) ≤ nI i := nI_ge (by omega) (by omega)
      have rd : ∀ {f : Int64 → PM ((Int32 × Int32) ⊕ (Int32 ⊕ Int32))} {Q : (Int32 × Int32) ⊕ (Int32 ⊕ Int32) → PH → Prop}, T (pb (gA 7 1 4) fun v => pb (lJ 18 v (nI i)) f) ha Q = T (f (g.2 i)) ha Q := by
        intro f Q
        rw [c_gA hC (by decide) (by decide), cr_4_1, c_lJ hC (by decide) (by decide) (by rw [cl_5]; omega), row i (by omega)]
      have no : ¬ inL (g.2 i) → okB g.1 g.2 = false := by
        intro z
        cases e : okB g.1 g.2 with
        | false => rfl
        | true => exact absurd (of_decide_eq_true (allN_at e i (by omega))) z
      rw [T_ifn c1, rd]
      by_cases c2 : 0 < lg_cmp (g.2 i) 1000000000000
      · rw [T_ifp c2, T_pp]
        rw [cmp_gt] at c2
        exact Or.inr ⟨_, rfl, rfl, Or.inr ⟨rfl, no fun z => absurd c2 (Int64.not_lt.mpr z.2)⟩⟩
      · rw [T_ifn c2, rd]
        rw [cmp_gt] at c2
        by_cases c3 : 0 ≤ lg_cmp (g.2 i) (-1000000000000)
        · rw [T_ifp c3, rd]
          rw [lg_cmp_ge] at c3
          have il : inL (g.2 i) := ⟨c3, Int64.not_lt.mp c2⟩
          have nx : ∀ j, j < i + 1 → inL (g.2 j) := by
            intro j hj2
            by_cases cj : j = i
            · rw [cj]; exact il
            · exact hj j (by omega)
          rw [T_ite, T_pp, T_pp]
          refine ⟨fun z => Or.inl ⟨_, dim g.1 - (i + 1), rfl, by omega, rfl, i + 1, ?_, by omega, rfl, nx⟩, fun z => Or.inl ⟨_, dim g.1 - (i + 1), rfl, by omega, rfl, i + 1, ?_, by omega, rfl, nx⟩⟩
          · rw [cmp_eq] at z
            have e : cnz g.2 (i + 1) = cnz g.2 i + 0 := by
              show cnz g.2 i + (if g.2 i = 0 then 0 else 1) = _
              rw [if_pos z]
            rw [e, nI_succ]
            rfl
          · rw [cmp_eq] at z
            have e : cnz g.2 (i + 1) = cnz g.2 i + 1 := by
              show cnz g.2 i + (if g.2 i = 0 then 0 else 1) = _
              rw [if_neg z]
            rw [e, nI_succ, nI_succ]
        · rw [T_ifn c3, T_pp]
          rw [lg_cmp_ge] at c3
          exact Or.inr ⟨_, rfl, rfl, Or.inr ⟨rfl, no fun z => c3 z.1⟩⟩
  · obtain ⟨rfl, p⟩ := p
    rcases p with ⟨rfl, e⟩ | ⟨rfl, e⟩
    · dsimp only
      rw [T_pp, if_pos e]
      exact ⟨rfl, rfl⟩
    · dsimp only
      rw [T_pp, e]
      exact ⟨rfl, rfl⟩
/-- an operation on the trial: the count, or the refusal -/
noncomputable def opv (o : Int32 × (Nat → Int64)) (N : Nat) : Int32 := if o.1 = 0 then nI (cnz o.2 (dim N)) else o.1
theorem c_addMultiple {g : Sg} (hC : CW h) (q : SAt h 4 g) (s v : Int32) : T (fX8_addMultiple 4 s v) h (fun r h' => Fc [5] h h' ∧ r = opv (o_add s v g) g.1 ∧ ((o_add s v g).1 = 0 → SAt h' 4 (g.1, (o_add s v g).2))) := by
  obtain ⟨a, e0, la, lv, row⟩ := id q
  have w1 := lv.1
  have w2 := lv.2.1
  have n := tb_n w1 w2
  obtain ⟨F, X, lf⟩ := lv.f
  have shA : Sh h 4 7 (clen 4) := c_sh hC (by decide) (by decide)
  unfold fX8_addMultiple o_add
  rw [c_chk hC (by decide) (by decide), t_gA shA (by decide) e0]
  refine T_call (c_hasSymbol w1 w2 lf s) fun r h1 P => ?_
  obtain ⟨rfl, rfl⟩ := P
  by_cases c : rg s 0 ((cnt g.1 : Int) - 1)
  · rw [if_pos c, T_ifn (by decide)]
    refine T_call (c_within _ _ _) fun r h2 P => ?_
    obtain ⟨rfl, rfl⟩ := P
    rw [show (-999 : Int32).toInt = -999 from by decide, show (999 : Int32).toInt = 999 from by decide]
    by_cases c2 : rg v (-999) 999
    · have cc := And.intro c c2
      rw [if_pos c2, T_ifn (by decide), if_pos cc]
      obtain ⟨s, rfl, e, e1, e2⟩ := rg_nat c (by decide) (by omega)
      rw [e]
      refine T_call (c_addSymbol hC q (p := s + 1) (by omega) (nI_dg (by omega)) v) fun _ h3 P => ?_
      obtain ⟨f3, s3⟩ := P
      refine T_call (c_verdict f3.1 s3) fun r h4 P => ?_
      obtain ⟨rfl, rfl⟩ := P
      rw [T_pp]
      refine ⟨f3, ?_, fun _ => s3⟩
      unfold opv
      dsimp only
      by_cases co : okB g.1 (adS g.1 (s + 1) v.toInt64 g.2) = true
      · rw [if_pos co, if_pos co, if_pos rfl]
      · rw [if_neg co, if_neg co, if_neg (by decide)]
    · rw [if_neg c2, T_ifp rfl, if_neg (fun z => c2 z.2), T_pp]
      exact ⟨Fc.rf hC _, rfl, fun z => by cases z⟩
  · rw [if_neg c, T_ifp rfl, if_neg (fun z => c z.1), T_pp]
    exact ⟨Fc.rf hC _, rfl, fun z => by cases z⟩
end C5
