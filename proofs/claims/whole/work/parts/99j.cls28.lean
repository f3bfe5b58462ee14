/-! POLYNOMIALS -/
section C28
variable {h h' : PH} {N bu : Nat}
theorem om_00 {n : Nat} (hc : cop N n) : ∃ m x, nth (OM N n) 0 = some (4, m, x) ∧ 4 < m ∧ dg x 3 = 0 ∧ dg x 4 = 0 := by
  obtain ⟨g3, g4, xi, ei⟩ := oc_f hc
  obtain ⟨m, x, e0, l4, -⟩ := rdD_some g4
  have ne : 0 ≠ imI N n := by
    intro z
    rw [← z, e0] at ei
    cases ei
  refine ⟨m, ds (ds x 3 0) 4 0, ?_, l4, ?_, ?_⟩
  · unfold OM
    rw [e0]
    dsimp only
    rw [nth_nset_ne ne, nth_nset_same (nth_lt e0)]
  · rw [dg_ds _ _ _ _ (by decide), dg_ds _ _ _ _ (by decide), if_neg (by decide), if_pos rfl]
  · rw [dg_ds _ _ _ _ (by decide), if_pos rfl]
theorem om_im {n : Nat} (hc : cop N n) : nth (OM N n) (imI N n) = some (18, dim N, 1) := by
  obtain ⟨g3, g4, xi, ei⟩ := oc_f hc
  obtain ⟨m, x, e0, l4, -⟩ := rdD_some g4
  unfold OM
  rw [e0]
  dsimp only
  rw [nth_nset_same (by rw [nset_len]; exact nth_lt ei)]
theorem im_ne {n : Nat} (hc : cop N n) : imI N n ≠ 0 := by
  intro z
  obtain ⟨m, x, e0, -⟩ := om_00 hc
  have := om_im hc
  rw [z, e0] at this
  cases this
theorem or_rd {w : Nat → Nat} {a o n : Nat} (q : OrAt h w a o N n) {k : Nat} (hk : k ≤ 4) : rdD h 4 o k = some (dig h o k) := by
  obtain ⟨hc, r, r0, r1, r2, r3, r4, em, hwr, c1, c2⟩ := q
  obtain ⟨m, x, e0, l4, -⟩ := om_00 hc
  obtain ⟨y, f1, -⟩ := em (CL N).length 4 m x (by rw [nth_app_right (Nat.le_refl _), Nat.sub_self]; exact e0)
  rw [r1] at f1
  rw [rdD_of f1 (by omega)]
  unfold dig
  rw [f1]
theorem or_w {w : Nat → Nat} {a o n : Nat} (q : OrAt h w a o N n) : w o = 8 * N + n := by
  obtain ⟨hc, r, r0, r1, r2, r3, r4, em, hwr, c1, c2⟩ := q
  rw [← r1]
  refine hwr _ (Nat.le_refl _) ?_
  have : 0 < (OC N n).length := List.length_pos_iff.mpr (oc_ne hc)
  omega
theorem or_tag {w : Nat → Nat} {a o n : Nat} (q : OrAt h w a o N n) : ∃ m y, nth h o = some (4, m, y) := by
  obtain ⟨m, y, e1, -, -⟩ := rdD_some (or_rd q (k := 0) (by decide))
  exact ⟨m, y, e1⟩
theorem v_sR {α : Type} {Q : α → PH → Prop} {t k a b d : Nat} {f : Unit → PM α} (e : rdD h t a k = some d) (hb : b < 1152921504606846976) : T (pb (sR t k a (some b)) f) h Q = T (f ()) (wR h a k b) Q := by
  obtain ⟨n, x, e1, e2, e3⟩ := rdD_some e
  rw [T_pb]
  have e' : (sR t k a (some b)).1 h = some ((), wR h a k b) := by
    unfold sR sD
    have hd : eR (some b) = b + 2 := rfl
    simp only [hd, wrD_of e1 e2 (show b + 2 < 36893488147419103232 by omega) (by omega)]
    unfold wR
    rw [wr_eq e1]
  apply propext
  constructor
  · rintro ⟨v, h', e2, q⟩
    rw [e'] at e2
    cases e2
    exact q
  · intro q
    exact ⟨_, _, e', q⟩
def ChP (h h1 : PH) (d : Nat) (t : Nat → Nat) : Prop := Ext h h1 ∧ (∀ a k, a < h.length → dig h1 a k = dig h a k) ∧ Sh h1 h.length 18 (d + 1) ∧ (∀ i, i ≤ d → dig h1 h.length i = dgJ 1099511627776 (t i)) ∧ mu h1 ≤ mu h + 220
theorem c_char {r : Nat → Nat} {M : PH} {d : Nat} {t : Nat → Nat} (hl : h.length ≤ 400000) (em : Emb r M h) (cl : closB M M.length = true) (lm : M.length = d + 1) (ld : d ≤ 20) (inj : ∀ b c, r b = r c → b = c) (sm : sl M ≤ 1000) (run : runW (fX4_characteristic 0) M (okW2 M d t) = true) : T (fX4_characteristic (r 0)) h (fun c h' => c = h.length ∧ ChP h h' d t) := by
  have rh := RH_of em cl (fun b c _ _ e => inj b c e) (by omega)
  have pr := prX4_characteristic (r := rex r M.length h.length) (x0 := 0) (by decide)
  rw [rex_in (by omega)] at pr
  refine T_mono (T_pr pr rh run fun v e' p => ?_) fun v h' p => ?_
  · unfold okW2 at p
    simp only [Bool.and_eq_true] at p
    have := Nat.le_of_ble_eq_true p.2
    exact ⟨by omega, by omega⟩
  · obtain ⟨u, e', ok, ⟨rfl, -⟩, rh', fr, ex⟩ := p
    unfold okW2 okW at ok
    simp only [Bool.and_eq_true] at ok
    obtain ⟨⟨⟨ok0, ok1, ok2, -⟩, ok3⟩, ok4⟩ := ok
    have eu := Nat.eq_of_beq_eq_true ok0
    have bd := Nat.le_of_ble_eq_true ok4
    have e'L : M.length ≤ e'.length := by
      by_cases z : M.length ≤ e'.length
      · exact z
      · have t1 := rh'.2.1 0
        rw [Nat.add_zero, rex_in (by omega)] at t1
        have t2 := em.lt (b := e'.length) (by omega)
        have := ex.1
        omega
    have len : h'.length = h.length + (e'.length - M.length) := by
      have := rh'.2.1 0
      rw [Nat.add_zero, rex_out e'L] at this
      omega
    have rd1 : rex r M.length h.length (d + 1) = h.length := by
      rw [rex_out (by omega)]
      omega
    have dd : ∀ a k, a < h.length → dig h' a k = dig h a k := fun a k ha => old_same (m := M.length) rh rh' fr (fun b hb => eqH_at ok3 b hb) ha (fun b b1 b2 => by omega)
    split at ok1
    · cases ok1
    · rename_i c hc
      obtain ⟨t', n', x⟩ := c
      rw [Bool.and_eq_true] at ok1
      have e1 : t' = 18 := Nat.eq_of_beq_eq_true ok1.1
      have e2 : n' = d + 1 := Nat.eq_of_beq_eq_true ok1.2
      subst e1
      subst e2
      obtain ⟨y, f1, f2⟩ := rh'.2.2.2 _ _ _ _ hc
      rw [rd1] at f1
      have dy : ∀ i, i ≤ d → dg y i = dgJ 1099511627776 (t i) := by
        intro i hi
        have d1 := allN_at ok2 i (by omega)
        have d2 : Nat.beq (dig e' (d + 1) i) (dgJ 1099511627776 (t i)) = true := d1
        have d3 := Nat.eq_of_beq_eq_true d2
        unfold dig at d3
        rw [hc] at d3
        have d3 : dg x i = dgJ 1099511627776 (t i) := d3
        have d4 := f2 i
        obtain ⟨v, hv⟩ : ∃ v, dgJ 1099511627776 (t i) = v + 1 := ⟨_, rfl⟩
        rw [d3, hv] at d4
        rw [d4.v (by unfold kd; simp), hv]
      refine ⟨by rw [eu]; exact rd1, ex, dd, ⟨y, f1, fun k hk => by rw [dy k (by omega)]; exact Nat.succ_ne_zero _⟩, fun i hi => ?_, ?_⟩
      · unfold dig
        rw [f1]
        exact dy i hi
      · have := fr.2.2
        unfold mu
        omega
/-- the polynomial is made, and the operator's field k names it -/
theorem C_chMade {st : St} {a p o n k d : Nat} {t : Nat → Nat} {h1 : PH} (hb : bu ≤ 100000) (hc : cop N n) (q : CR bu h st) (hk : (k = 3 ∧ d = dim N ∧ t = tW N n) ∨ (k = 4 ∧ d = cyc N ∧ t = tV N n)) (ea : dig h 1 N = a + 2) (e15 : dig h a 15 = p + 2) (epn : dig h p n = o + 2) (e1 : dig h o k = 1) (P : ChP h h1 d t) : CR bu (wR h1 o k h.length) st ∧ (∀ g, SAt h 4 g → SAt (wR h1 o k h.length) 4 g) ∧ dig (wR h1 o k h.length) 1 N = a + 2 ∧ dig (wR h1 o k h.length) a 15 = p + 2 ∧ dig (wR h1 o k h.length) p n = o + 2 ∧ dig (wR h1 o k h.length) o k = h.length + 2 ∧ Sh (wR h1 o k h.length) h.length 18 (d + 1) ∧ ∀ i, i ≤ d → dig (wR h1 o k h.length) h.length i = dgJ 1099511627776 (t i) := by
  obtain ⟨w, mk, md, p2, p4, p5, p3, p6, o1, o2, orr⟩ := or_get q hc ea e15 epn
  obtain ⟨ex, dd, sh, dg', m⟩ := P
  have hC := q.1
  have hl := mk_len q.2.2.2.2.2.2.2.2.1 hb
  have l27 := hC.1
  have n8 : n < 8 := by have := hc.2.2.2.1; omega
  have N25 := hc.2.1
  have k34 : k = 3 ∨ k = 4 := by
    rcases hk with z | z
    · exact Or.inl z.1
    · exact Or.inr z.1
  have ll : h.length < 1152921504606846976 := by omega
  have lo := or_lt orr
  have wo := or_w orr
  obtain ⟨mo, yo, eo⟩ := or_tag orr
  have hC1 : CW h1 := CW_ext hC ex fun a k hk => dd a k (Nat.lt_of_lt_of_le (cref_lt hk).1 hC.1)
  have cr : cref o k = 0 := by
    by_cases z : cref o k = 0
    · exact z
    · have := (cref_lt z).1
      omega
  have u1 : Up (fun x j => x = o ∧ j = k) h1 (wR h1 o k h.length) := up_wR hC1 cr ll ⟨rfl, rfl⟩
  have u0 : Up (fun x j => x = o ∧ j = k) h (wR h1 o k h.length) := Up.tr ⟨hC1, ex, fun x j hx _ => dd x j hx⟩ u1
  have hcl : ChL (fun x j => x = o ∧ j = k) h := fun x j z => Or.inr ⟨by omega, by rw [z.1]; exact ⟨_, eo, show mtT 4 = true by decide⟩⟩
  have ea' : dig (wR h1 o k h.length) 1 N = a + 2 := u0.kn ea (fun z => by have := z.1; omega)
  have ao : a ≠ o := fun z => md.1.nCh hcl k ⟨z, rfl⟩
  have po : p ≠ o := by
    intro z
    rw [z, wo] at p4
    omega
  have e15' : dig (wR h1 o k h.length) a 15 = p + 2 := u0.kn e15 (fun z => ao z.1)
  have epn' : dig (wR h1 o k h.length) p n = o + 2 := u0.kn epn (fun z => po z.1)
  have eok : dig (wR h1 o k h.length) o k = h.length + 2 := wR_dig (by have := ex.1; omega) ll
  have s4 : ∀ g, SAt h 4 g → SAt (wR h1 o k h.length) 4 g := fun g s => s.up hC u0 hcl (Or.inr (Or.inl rfl)) (fun k z => by have := z.1; omega) (fun k z => by have := z.1; have : cref 4 1 = 5 := rfl; omega)
  have sh' : Sh (wR h1 o k h.length) h.length 18 (d + 1) := sh_ext sh u1.2.1
  have dg2 : ∀ i, i ≤ d → dig (wR h1 o k h.length) h.length i = dgJ 1099511627776 (t i) := by
    intro i hi
    obtain ⟨v, hv⟩ : ∃ v, dgJ 1099511627776 (t i) = v + 1 := ⟨_, rfl⟩
    rw [hv]
    exact u1.kn (by rw [dg' i hi, hv]) (fun z => by have := z.1; omega)
  have w' : ∀ x, x < h.length → (fun x => if x < h.length then w x else 8 * N + n) x = w x := fun x hx => by dsimp only; rw [if_pos hx]
  have or2 : OrAt (wR h1 o k h.length) (fun x => if x < h.length then w x else 8 * N + n) a o N n := by
    obtain ⟨-, r, r0, r1, r2, r3, r4, em, hwr, c1, c2⟩ := orr
    have lim : r ((CL N).length + imI N n) < h.length := by
      obtain ⟨y, f1, -⟩ := em ((CL N).length + imI N n) 18 (dim N) 1 (by rw [nth_app_right (Nat.le_add_right _ _), Nat.add_sub_cancel_left]; exact om_im hc)
      exact nth_lt f1
    have cnew : CfAt (wR h1 o k h.length) (fun x => if x < h.length then w x else 8 * N + n) (8 * N + n) (r ((CL N).length + imI N n)) o k d t := Or.inr ⟨h.length, eok, l27, ll, by omega, by dsimp only; rw [if_neg (by omega)], sh', dg2⟩
    have notag : ∀ c j m, 27 ≤ c → w c = 8 * N + n → c ≠ r ((CL N).length + imI N n) → Sh h c 18 m → ¬ (c = o ∧ j = k) := by
      intro c j m _ _ _ s z
      obtain ⟨y, e, -⟩ := s
      rw [z.1, eo] at e
      cases e
    refine ⟨hc, r, r0, r1, r2, r3, r4, em.up u0 fun b t m x hb j hx z => ?_, fun b hl1 hb1 => ?_, ?_, ?_⟩
    · obtain ⟨m0, x0, e0, l4, d3, d4⟩ := om_00 hc
      have bL : b = (CL N).length := r3 _ _ (by rw [r1]; exact z.1)
      rw [bL, nth_app_right (Nat.le_refl _), Nat.sub_self, e0] at hb
      cases hb
      rw [z.2] at hx
      rcases k34 with y | y
      · rw [y] at hx
        exact hx d3
      · rw [y] at hx
        exact hx d4
    · have lb : r b < h.length := by
        refine em.lt ?_
        rw [List.length_append, om_len_eq hc]
        exact hb1
      dsimp only
      rw [if_pos lb]
      exact hwr b hl1 hb1
    · rcases hk with ⟨rfl, rfl, rfl⟩ | ⟨rfl, rfl, rfl⟩
      · exact cnew
      · exact c1.up u0 w' (fun z => absurd z.2 (by decide)) notag
    · rcases hk with ⟨rfl, rfl, rfl⟩ | ⟨rfl, rfl, rfl⟩
      · exact c2.up u0 w' (fun z => absurd z.2 (by decide)) notag
      · exact cnew
  have key : ∀ n', n' < 8 → n' ≠ n → OpS (wR h1 o k h.length) (fun x => if x < h.length then w x else 8 * N + n) a p N n' ∧ opP (wR h1 o k h.length) p n' = opP h p n' := fun n' x1 x2 => OpS.up (p6 n' x1) u0 hcl w' (fun z => po z.1) (fun x j z z2 => by
    rw [z.1, wo]
    omega)
  have lp : p < h.length := sh_lt p5
  have md' : MdAt (wR h1 o k h.length) (fun x => if x < h.length then w x else 8 * N + n) a N := by
    refine ⟨md.1.up u0 hcl, md.2.1, md.2.2.1, p, e15', p2, p3, by dsimp only; rw [if_pos lp]; exact p4, sh_ext p5 u0.2.1, fun n' x1 => ?_⟩
    by_cases c : n' = n
    · subst c
      exact Or.inr ⟨o, epn', o1, o2, or2⟩
    · exact (key n' x1 c).1
  have lv : lvP (wR h1 o k h.length) N = lvP h N + 220 := by
    rw [lvP_made ea' e15', lvP_made ea e15, sumN_upd (f := opP (wR h1 o k h.length) p) (g := opP h p) (k := n) (c := 220) 8 n8 (fun i hi hn => (key i hi hn).2) ?_]
    · omega
    · unfold opP
      have z1 : ¬ (o + 2 = 1) := by omega
      have z2 : ¬ (h.length + 2 = 1) := by omega
      rw [epn', epn, show o + 2 - 2 = o from rfl]
      simp only [if_neg z1]
      rcases k34 with rfl | rfl
      · have e4 : dig (wR h1 o 3 h.length) o 4 = dig h o 4 := u0.2.2 o 4 lo (fun z => absurd z.2 (by decide))
        rw [eok, e4, e1]
        simp only [if_neg z2, if_true]
        omega
      · have e3 : dig (wR h1 o 4 h.length) o 3 = dig h o 3 := u0.2.2 o 3 lo (fun z => absurd z.2 (by decide))
        rw [eok, e3, e1]
        simp only [if_neg z2, if_true]
        omega
  have mm := q.2.2.2.2.2.2.2.2.1.1
  have mk' : MK (bu + 0) (wR h1 o k h.length) := MK_step (c := 220) (d := 0) mk mm u0 hcl w' hc.1 hc.2.1 (fun k z => by have := z.1; omega) (fun x k z z2 => Or.inr ⟨n, n8, by rw [z.1]; exact wo⟩) ea' md' lv (by rw [wR_mu]; omega)
  obtain ⟨g, sg⟩ := q.2.2.2.1
  exact ⟨q.up u0 hcl (fun x k z z2 => by have := z.1; omega) mk' ⟨g, s4 g sg⟩, s4, ea', e15', epn', eok, sh', dg2⟩
theorem mx_all : opA (fun N n => Nat.ble (sl (mtW N n)) 1000 && Nat.ble (sl (mtV N n)) 1000) = true := by decide +kernel
/-- the coefficients, made or kept -/
theorem C_wholeCoefficients {st : St} {a p o n : Nat} (hb : bu ≤ 100000) (hc : cop N n) (q : CR bu h st) (ea : dig h 1 N = a + 2) (e15 : dig h a 15 = p + 2) (epn : dig h p n = o + 2) : T (fX5_wholeCoefficients o) h (fun c h' => CR bu h' st ∧ (∀ g, SAt h 4 g → SAt h' 4 g) ∧ 27 ≤ c ∧ c < 1152921504606846976 ∧ Sh h' c 18 (dim N + 1) ∧ ∀ i, i ≤ dim N → dig h' c i = dgJ 1099511627776 (tW N n i)) := by
  obtain ⟨w, mk, md, p2, p4, p5, p3, p6, o1, o2, orr⟩ := or_get q hc ea e15 epn
  have hl := mk_len q.2.2.2.2.2.2.2.2.1 hb
  have rd := or_rd orr (k := 3) (by decide)
  have rd0 := or_rd orr (k := 0) (by decide)
  have tn := tb_n hc.1 hc.2.1
  obtain ⟨-, r, r0, r1, r2, r3, r4, em, hwr, c1, c2⟩ := id orr
  have of := OpF_of hc r1 em
  have ob := orB_at hc
  have sm := opA_at mx_all hc
  rw [Bool.and_eq_true] at sm
  unfold fX5_wholeCoefficients
  rw [v_chk rd0]
  rcases c1 with e | ⟨c, e1, e2, e3, e4, e5, e6, e7⟩
  · rw [e] at rd
    rw [v_gN0 rd]
    dsimp only
    rw [v_gA of.1]
    refine T_call (c_char hl of.2.2.2.2.1 ob.1.1 ob.2.1 (by omega) (fun b c e => by have := r3 _ _ e; omega) (Nat.le_of_ble_eq_true sm.1) (chW_run2 hc)) fun v h1 P => ?_
    obtain ⟨rfl, P⟩ := P
    obtain ⟨q3, s3, -, -, -, y4, y5, y6⟩ := C_chMade hb hc q (Or.inl ⟨rfl, rfl, rfl⟩) ea e15 epn e P
    have ex := P.1
    have rd1 : ∃ d, rdD h1 4 o 3 = some d := by
      obtain ⟨m2, x2, z1, z2, z3⟩ := rdD_some rd
      obtain ⟨x3, z4, -⟩ := ex.2.2 o _ z1
      exact ⟨_, rdD_of z4 z2⟩
    obtain ⟨d, rd1⟩ := rd1
    rw [v_sR rd1 (by omega)]
    have rd2 : rdD (wR h1 o 3 h.length) 4 o 3 = some (h.length + 2) := by
      obtain ⟨m2, x2, z1, z2, z3⟩ := rdD_some rd1
      have ex2 : Ext h1 (wR h1 o 3 h.length) := wr_ext (by omega) (by omega)
      obtain ⟨x3, z4, -⟩ := ex2.2.2 o _ z1
      rw [rdD_of z4 z2]
      unfold dig at y4
      rw [z4] at y4
      exact congrArg some y4
    rw [v_gA rd2, T_pp]
    exact ⟨q3, s3, q.1.1, by omega, y5, y6⟩
  · rw [e1] at rd
    rw [v_gN1 rd]
    dsimp only
    rw [v_gA rd, T_pp]
    exact ⟨q, fun _ s => s, e2, e3, e6, e7⟩
/-- the coefficients, made or kept -/
theorem C_cuspidalCoefficients {st : St} {a p o n : Nat} (hb : bu ≤ 100000) (hc : cop N n) (q : CR bu h st) (ea : dig h 1 N = a + 2) (e15 : dig h a 15 = p + 2) (epn : dig h p n = o + 2) : T (fX5_cuspidalCoefficients o) h (fun c h' => CR bu h' st ∧ (∀ g, SAt h 4 g → SAt h' 4 g) ∧ 27 ≤ c ∧ c < 1152921504606846976 ∧ Sh h' c 18 (cyc N + 1) ∧ ∀ i, i ≤ cyc N → dig h' c i = dgJ 1099511627776 (tV N n i)) := by
  obtain ⟨w, mk, md, p2, p4, p5, p3, p6, o1, o2, orr⟩ := or_get q hc ea e15 epn
  have hl := mk_len q.2.2.2.2.2.2.2.2.1 hb
  have rd := or_rd orr (k := 4) (by decide)
  have rd0 := or_rd orr (k := 0) (by decide)
  have tn := tb_n hc.1 hc.2.1
  obtain ⟨-, r, r0, r1, r2, r3, r4, em, hwr, c1, c2⟩ := id orr
  have of := OpF_of hc r1 em
  have ob := orB_at hc
  have sm := opA_at mx_all hc
  rw [Bool.and_eq_true] at sm
  unfold fX5_cuspidalCoefficients
  rw [v_chk rd0]
  rcases c2 with e | ⟨c, e1, e2, e3, e4, e5, e6, e7⟩
  · rw [e] at rd
    rw [v_gN0 rd]
    dsimp only
    rw [v_gA of.2.1]
    refine T_call (c_char hl of.2.2.2.2.2 ob.1.2 ob.2.2 (by omega) (fun b c e => by have := r3 _ _ e; omega) (Nat.le_of_ble_eq_true sm.2) (chV_run2 hc)) fun v h1 P => ?_
    obtain ⟨rfl, P⟩ := P
    obtain ⟨q3, s3, -, -, -, y4, y5, y6⟩ := C_chMade hb hc q (Or.inr ⟨rfl, rfl, rfl⟩) ea e15 epn e P
    have ex := P.1
    have rd1 : ∃ d, rdD h1 4 o 4 = some d := by
      obtain ⟨m2, x2, z1, z2, z3⟩ := rdD_some rd
      obtain ⟨x3, z4, -⟩ := ex.2.2 o _ z1
      exact ⟨_, rdD_of z4 z2⟩
    obtain ⟨d, rd1⟩ := rd1
    rw [v_sR rd1 (by omega)]
    have rd2 : rdD (wR h1 o 4 h.length) 4 o 4 = some (h.length + 2) := by
      obtain ⟨m2, x2, z1, z2, z3⟩ := rdD_some rd1
      have ex2 : Ext h1 (wR h1 o 4 h.length) := wr_ext (by omega) (by omega)
      obtain ⟨x3, z4, -⟩ := ex2.2.2 o _ z1
      rw [rdD_of z4 z2]
      unfold dig at y4
      rw [z4] at y4
      exact congrArg some y4
    rw [v_gA rd2, T_pp]
    exact ⟨q3, s3, q.1.1, by omega, y5, y6⟩
  · rw [e1] at rd
    rw [v_gN1 rd]
    dsimp only
    rw [v_gA rd, T_pp]
    exact ⟨q, fun _ s => s, e2, e3, e6, e7⟩
end C28
