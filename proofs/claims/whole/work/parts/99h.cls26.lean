noncomputable def ocF (N n : Nat) : Bool := !(Nat.ble 1 N && (Nat.ble 1 n && Nat.beq (Nat.gcd n N) 1)) || ((rqB (OC N n) 4 0 3 1 && rqB (OC N n) 4 0 4 1) && (match nth (OC N n) (imI N n) with
  | none => false
  | some c => Nat.beq c.1 18 && Nat.beq c.2.1 (dim N)))
theorem ocF_all : allN 26 (fun N => allN 8 fun n => ocF N n) = true := by decide +kernel
theorem oc_f {N n : Nat} (h : cop N n) : rdD (OC N n) 4 0 3 = some 1 ∧ rdD (OC N n) 4 0 4 = some 1 ∧ ∃ x, nth (OC N n) (imI N n) = some (18, dim N, x) := by
  obtain ⟨h1, h2, h3, h4, h5⟩ := h
  have k := allN_at (allN_at ocF_all N (by omega)) n (by omega)
  have k : (!(Nat.ble 1 N && (Nat.ble 1 n && Nat.beq (Nat.gcd n N) 1)) || ((rqB (OC N n) 4 0 3 1 && rqB (OC N n) 4 0 4 1) && (match nth (OC N n) (imI N n) with
    | none => false
    | some c => Nat.beq c.1 18 && Nat.beq c.2.1 (dim N)))) = true := k
  rw [Nat.ble_eq_true_of_le h1, Nat.ble_eq_true_of_le h3, h5] at k
  have k2 : ((rqB (OC N n) 4 0 3 1 && rqB (OC N n) 4 0 4 1) && (match nth (OC N n) (imI N n) with
    | none => false
    | some c => Nat.beq c.1 18 && Nat.beq c.2.1 (dim N))) = true := k
  rw [Bool.and_eq_true, Bool.and_eq_true] at k2
  refine ⟨rqB_at k2.1.1, rqB_at k2.1.2, ?_⟩
  have k3 := k2.2
  split at k3
  · cases k3
  · rename_i c e
    obtain ⟨t, m, x⟩ := c
    rw [Bool.and_eq_true] at k3
    have e1 : t = 18 := Nat.eq_of_beq_eq_true k3.1
    have e2 : m = dim N := Nat.eq_of_beq_eq_true k3.2
    exact ⟨x, by rw [e, e1, e2]⟩
theorem cl_sz_all : allN 26 (fun N => Nat.ble ((CL N).length + sl (CL N)) 4200) = true := by decide +kernel
section C26
variable {h h' : PH} {N bu : Nat} {Ch : Nat → Nat → Prop}
theorem cl_sz (h2 : N ≤ 25) : (CL N).length + sl (CL N) ≤ 4200 := Nat.le_of_ble_eq_true (allN_at cl_sz_all N (by omega))
theorem cl_pos (h1 : 1 ≤ N) (h2 : N ≤ 25) : 0 < (CL N).length := by
  obtain ⟨t, n, x, e, -⟩ := cl_head h1 h2
  exact nth_lt e
/-- an operator's object knows less than what its constructor left -/
theorem om_le {n b t m x : Nat} (hc : cop N n) (e : nth (OM N n) b = some (t, m, x)) : ∃ y, nth (OC N n) b = some (t, m, y) ∧ ∀ k, dg x k = 0 ∨ dg x k = dg y k := by
  obtain ⟨m0, x0, e0⟩ := oc_0 hc
  obtain ⟨-, -, xi, ei⟩ := oc_f hc
  unfold OM at e
  rw [e0] at e
  dsimp only at e
  by_cases c : b = imI N n
  · subst c
    rw [nth_nset_same (by rw [nset_len]; exact nth_lt ei)] at e
    cases e
    refine ⟨xi, ei, fun k => Or.inl ?_⟩
    rw [dg_one]
  · rw [nth_nset_ne c] at e
    by_cases c0 : b = 0
    · subst c0
      rw [nth_nset_same (nth_lt e0)] at e
      cases e
      refine ⟨x0, e0, fun k => ?_⟩
      rw [dg_ds _ _ _ _ (by decide), dg_ds _ _ _ _ (by decide)]
      by_cases k4 : k = 4
      · rw [if_pos k4]
        exact Or.inl rfl
      · rw [if_neg k4]
        by_cases k3 : k = 3
        · rw [if_pos k3]
          exact Or.inl rfl
        · rw [if_neg k3]
          exact Or.inr rfl
    · rw [nth_nset_ne c0] at e
      exact ⟨x, e, fun k => Or.inr rfl⟩
theorem Emb.om {r : Nat → Nat} {n : Nat} (hc : cop N n) (em : Emb r (CL N ++ OC N n) h) : Emb r (CL N ++ OM N n) h := by
  intro b t m x hb
  by_cases c : b < (CL N).length
  · rw [nth_app_left c] at hb
    exact em b t m x (by rw [nth_app_left c]; exact hb)
  · rw [nth_app_right (by omega)] at hb
    obtain ⟨y, e1, e2⟩ := om_le hc hb
    obtain ⟨z, f1, f2⟩ := em b t m y (by rw [nth_app_right (by omega)]; exact e1)
    refine ⟨z, f1, fun k => ?_⟩
    rcases e2 k with e | e
    · rw [e]
      exact Or.inl rfl
    · rw [e]
      exact f2 k
theorem opc_init {a n : Nat} (hc : cop N n) (lv : LevelAt h a N) (hl : h.length ≤ 400000) (h27 : 27 ≤ h.length) : T (fX5_init h.length a (nI n)) (h ++ [(4, 5, onesF 5)]) (fun _ h' => Ext h h' ∧ (∀ x k, x < h.length → dig h' x k = dig h x k) ∧ (∃ r : Nat → Nat, r 0 = a ∧ r (CL N).length = h.length ∧ (∀ b, 27 ≤ r b) ∧ (∀ b c, r b = r c → b = c) ∧ (∀ b, b < 1000 → r b < 1152921504606846976) ∧ (∀ b, (CL N).length ≤ b → h.length ≤ r b) ∧ Emb r (CL N ++ OC N n) h') ∧ mu h' ≤ mu h + 130 ∧ Sh h' h.length 4 5) := by
  obtain ⟨h1, h2, hd, r0, r00, r1, r2, r3, em⟩ := lv
  have sz := cl_sz h2
  have lp := cl_pos h1 h2
  have rh := RH_of em (allN_at clos_CL N (by omega)) (fun b c _ _ e => r2 b c e) (by omega)
  have rh1 := rh.one 4 5
  have rL : rex r0 (CL N).length h.length (CL N).length = h.length := by rw [rex_out (Nat.le_refl _)]; omega
  have rz : rex r0 (CL N).length h.length 0 = a := by rw [rex_in lp]; exact r00
  have pr := prX5_init (r := rex r0 (CL N).length h.length) (x0 := (CL N).length) (x1 := 0) (x2 := nI n) (by omega) (by decide)
  rw [rL, rz] at pr
  refine T_mono (T_pr pr rh1 (opc_run2 hc) fun v e' p => ?_) fun _ h' p => ?_
  · unfold okO2 at p
    simp only [Bool.and_eq_true] at p
    have := Nat.le_of_ble_eq_true p.2
    refine ⟨by omega, ?_⟩
    rw [List.length_append, List.length_append]
    omega
  · obtain ⟨v, e', ok, -, rh', fr, ex⟩ := p
    unfold okO2 at ok
    simp only [Bool.and_eq_true] at ok
    obtain ⟨⟨ok1, ok2⟩, ok3⟩ := ok
    have bd := Nat.le_of_ble_eq_true ok3
    have em' := emb_of rh' ok1
    have exl : h.length + 1 ≤ h'.length := by
      have := ex.1
      rw [List.length_append] at this
      exact this
    have e'L : (CL N).length ≤ e'.length := by
      by_cases z : (CL N).length ≤ e'.length
      · exact z
      · have t1 := rh'.2.1 0
        rw [Nat.add_zero, rex_in (by omega)] at t1
        have t2 := em.lt (b := e'.length) (by omega)
        omega
    have len : h'.length = h.length + (e'.length - (CL N).length) := by
      have := rh'.2.1 0
      rw [Nat.add_zero, rex_out e'L] at this
      omega
    have slq : sl h' + sl (CL N) = sl h + sl e' := by
      have := fr.2.2
      rw [sl_app, sl_app] at this
      omega
    have inj := rh1.1
    refine ⟨(Ext.ap h _).tr ex, fun x k hx => ?_, ⟨_, rz, rL, fun b => ?_, inj, fun b hb => ?_, fun b hb => by rw [rex_out hb]; omega, em'⟩, by unfold mu; omega, sh_ext (t := 4) (n := 5) (h := h ++ [(4, 5, onesF 5)]) ⟨onesF 5, by rw [nth_app_right (Nat.le_refl _), Nat.sub_self]; rfl, fun k hk => by rw [dg_onesF, if_pos hk]; decide⟩ ex⟩
    · rw [old_same (m := (CL N).length) (k := k) rh1 rh' fr (fun b hb => by rw [eqH_at ok2 b hb, nth_app_left hb]) (a := x) (by rw [List.length_append]; omega) (fun b b1 b2 => ?_)]
      · exact dig_app _ hx
      · rw [rex_out b1]
        omega
    · by_cases c : b < (CL N).length
      · rw [rex_in c]
        exact r1 b
      · rw [rex_out (by omega)]
        omega
    · by_cases c : b < (CL N).length
      · rw [rex_in c]
        exact r3 b hb
      · rw [rex_out (by omega)]
        omega
/-- one level has changed -/
theorem MK_step {w w' : Nat → Nat} {a c d : Nat} (mk : MKc h w) (mm : mu h ≤ 2000 + pot h + bu) (u : Up Ch h h') (hc : ChL Ch h) (hw : ∀ x, x < h.length → w' x = w x) (n1 : 1 ≤ N) (n2 : N ≤ 25) (h1 : ∀ k, ¬ Ch 1 k) (hn : ∀ x k, Ch x k → 27 ≤ x → w x = 1000 + N ∨ ∃ n, n < 8 ∧ w x = 8 * N + n) (e : dig h' 1 N = a + 2) (md : MdAt h' w' a N) (lv : lvP h' N = lvP h N + c) (hm : mu h' ≤ mu h + c + d) : MK (bu + d) h' := by
  have key : ∀ N', 1 ≤ N' → N' ≤ 25 → N' ≠ N → _ := fun N' x1 x2 x3 => MKc.up (N := N') mk u hc hw x1 x2 (h1 N') (fun x k z z2 => by
    rcases hn x k z z2 with y | ⟨n, y1, y⟩
    · exact ⟨by omega, fun m hm => by omega⟩
    · exact ⟨by omega, fun m hm => by omega⟩)
  have ep : pot h' = pot h + c := by
    unfold pot
    refine sumN_upd (k := N - 1) 25 (by omega) (fun i hi hn => (key (i + 1) (by omega) (by omega) (by omega)).2) ?_
    rw [show N - 1 + 1 = N by omega]
    exact lv
  refine ⟨by rw [ep]; omega, w', fun N' x1 x2 => ?_⟩
  by_cases cn : N' = N
  · subst cn
    exact Or.inr ⟨a, e, md⟩
  · exact (key N' x1 x2 cn).1
theorem mt_of {a t n : Nat} (s : Sh h a t n) (ht : mtT t = true) : Mt h a := by
  obtain ⟨x, e, -⟩ := s
  exact ⟨_, e, ht⟩
/-- an operator is made, and its level's row names it -/
theorem C_opMade {st : St} {a p n : Nat} {w : Nat → Nat} {h1 : PH} (hb : bu ≤ 100000) (hc : cop N n) (q : CR bu h st) (mk : MKc h w) (ea : dig h 1 N = a + 2) (md : MdAt h w a N) (p1 : dig h a 15 = p + 2) (p2 : 27 ≤ p) (p3 : p < 1152921504606846976) (p4 : w p = 1000 + N) (p5 : Sh h p 21 8) (p6 : ∀ n, n < 8 → OpS h w a p N n) (pn : dig h p n = 1) (P : Ext h h1 ∧ (∀ x k, x < h.length → dig h1 x k = dig h x k) ∧ (∃ r : Nat → Nat, r 0 = a ∧ r (CL N).length = h.length ∧ (∀ b, 27 ≤ r b) ∧ (∀ b c, r b = r c → b = c) ∧ (∀ b, b < 1000 → r b < 1152921504606846976) ∧ (∀ b, (CL N).length ≤ b → h.length ≤ r b) ∧ Emb r (CL N ++ OC N n) h1) ∧ mu h1 ≤ mu h + 130 ∧ Sh h1 h.length 4 5) (hC1 : CW h1) : CR bu (wR h1 p n h.length) st ∧ ((∀ g, SAt h 4 g → SAt (wR h1 p n h.length) 4 g) ∧ Kp h (wR h1 p n h.length)) ∧ dig (wR h1 p n h.length) 1 N = a + 2 ∧ dig (wR h1 p n h.length) a 15 = p + 2 ∧ dig (wR h1 p n h.length) p n = h.length + 2 := by
  obtain ⟨ex, dd, ⟨r, r0, rL, r27, rinj, rb, rh, em⟩, m, sh⟩ := P
  have hC := q.1
  have hl := mk_len q.2.2.2.2.2.2.2.2.1 hb
  have l27 := hC.1
  have n8 : n < 8 := by have := hc.2.2.2.1; omega
  have ll : h.length < 1152921504606846976 := by omega
  have lp : p < h.length := sh_lt p5
  have cr : cref p n = 0 := by
    by_cases z : cref p n = 0
    · exact z
    · have := (cref_lt z).1
      omega
  have u1 : Up (fun x k => x = p ∧ k = n) h1 (wR h1 p n h.length) := up_wR hC1 cr ll ⟨rfl, rfl⟩
  have u0 : Up (fun x k => x = p ∧ k = n) h (wR h1 p n h.length) := Up.tr ⟨hC1, ex, fun x k hx _ => dd x k hx⟩ u1
  have hcl : ChL (fun x k => x = p ∧ k = n) h := fun x k z => Or.inr ⟨by omega, by rw [z.1]; exact mt_of p5 (by decide)⟩
  have hcl1 : ChL (fun x k => x = p ∧ k = n) h1 := fun x k z => Or.inr ⟨by omega, by rw [z.1]; exact mt_of (sh_ext p5 ex) (by decide)⟩
  have ea' : dig (wR h1 p n h.length) 1 N = a + 2 := u0.kn ea (fun z => by have := z.1; omega)
  have a27 := md.2.2.1
  have ap : a ≠ p := fun z => md.1.nCh hcl n ⟨z, rfl⟩
  have e15 : dig (wR h1 p n h.length) a 15 = p + 2 := u0.kn p1 (fun z => ap z.1)
  have epn : dig (wR h1 p n h.length) p n = h.length + 2 := wR_dig (by have := ex.1; omega) ll
  have s4 : ∀ g, SAt h 4 g → SAt (wR h1 p n h.length) 4 g := fun g s => s.up hC u0 hcl (Or.inr (Or.inl rfl)) (fun k z => by have := z.1; omega) (fun k z => by have := z.1; have : cref 4 1 = 5 := rfl; omega)
  have w' : ∀ x, x < h.length → (fun x => if x < h.length then w x else 8 * N + n) x = w x := fun x hx => by dsimp only; rw [if_pos hx]
  have L0 : nth (CL N ++ OC N n) (CL N).length = nth (OC N n) 0 := by rw [nth_app_right (Nat.le_refl _), Nat.sub_self]
  obtain ⟨g3, g4, xi, ei⟩ := oc_f hc
  have rdL : ∀ k, rdD (OC N n) 4 0 k = some 1 → kd 4 k = 2 → dig h1 h.length k = 1 := by
    intro k hk hk2
    obtain ⟨m2, x2, y1, y2, y3⟩ := rdD_some hk
    obtain ⟨z, f1, f2⟩ := em (CL N).length 4 m2 x2 (by rw [L0]; exact y1)
    rw [rL] at f1
    unfold dig
    rw [f1]
    have := f2 k
    rw [y3] at this
    rcases this with v | ⟨-, ⟨-, v⟩ | ⟨b, -, v, -⟩⟩ | ⟨v, -⟩
    · omega
    · exact v
    · omega
    · exact absurd hk2 v
  have d3 := rdL 3 g3 (by decide)
  have d4 := rdL 4 g4 (by decide)
  have or1 : OrAt h1 (fun x => if x < h.length then w x else 8 * N + n) a h.length N n := by
    refine ⟨hc, r, r0, rL, r27, rinj, rb, em.om hc, fun b b1 b2 => ?_, Or.inl d3, Or.inl d4⟩
    dsimp only
    rw [if_neg (by have := rh b b1; omega)]
  have or2 : OrAt (wR h1 p n h.length) (fun x => if x < h.length then w x else 8 * N + n) a h.length N n := or1.up u1 hcl1 (fun _ _ => rfl) (fun x k z z2 => by
    rw [z.1, if_pos lp, p4]
    have := hc.2.1
    omega)
  have d3' : dig (wR h1 p n h.length) h.length 3 = 1 := u1.kn (d := 0) d3 (fun z => by have := z.1; omega)
  have d4' : dig (wR h1 p n h.length) h.length 4 = 1 := u1.kn (d := 0) d4 (fun z => by have := z.1; omega)
  have key : ∀ n', n' < 8 → n' ≠ n → OpS (wR h1 p n h.length) (fun x => if x < h.length then w x else 8 * N + n) a p N n' ∧ opP (wR h1 p n h.length) p n' = opP h p n' := fun n' x1 x2 => OpS.up (p6 n' x1) u0 hcl w' (fun z => x2 z.2) (fun x k z z2 => by
    rw [z.1, p4]
    have := hc.2.1
    omega)
  have md' : MdAt (wR h1 p n h.length) (fun x => if x < h.length then w x else 8 * N + n) a N := by
    refine ⟨md.1.up u0 hcl, md.2.1, a27, p, e15, p2, p3, by dsimp only; rw [if_pos lp]; exact p4, sh_ext p5 u0.2.1, fun n' x1 => ?_⟩
    by_cases c : n' = n
    · subst c
      exact Or.inr ⟨h.length, epn, ll, l27, or2⟩
    · exact (key n' x1 c).1
  have lv : lvP (wR h1 p n h.length) N = lvP h N + 130 := by
    rw [lvP_made ea' e15, lvP_made ea p1, sumN_upd (f := opP (wR h1 p n h.length) p) (g := opP h p) (k := n) (c := 130) 8 n8 (fun i hi hn => (key i hi hn).2) ?_]
    · omega
    · have z1 : opP h p n = 0 := by unfold opP; rw [if_pos pn]
      rw [z1]
      unfold opP
      rw [epn, if_neg (by omega), show h.length + 2 - 2 = h.length from rfl, if_pos d3', if_pos d4']
  have mm := q.2.2.2.2.2.2.2.2.1.1
  have mk' : MK (bu + 0) (wR h1 p n h.length) := MK_step (c := 130) (d := 0) mk mm u0 hcl w' hc.1 hc.2.1 (fun k z => by have := z.1; omega) (fun x k z z2 => Or.inl (by rw [z.1]; exact p4)) ea' md' lv (by rw [wR_mu]; omega)
  obtain ⟨g, sg⟩ := q.2.2.2.1
  exact ⟨q.up u0 hcl (fun x k z z2 => by have := z.1; omega) mk' ⟨g, s4 g sg⟩, ⟨s4, u0.kp hC (fun x k z => by have := z.1; omega)⟩, ea', e15, epn⟩
theorem C_operatorFor {st : St} {a : Nat} (hb : bu ≤ 100000) (h1 : 1 ≤ N) (h2 : N ≤ 25) (q : CR bu h st) (ea : dig h 1 N = a + 2) (n : Int32) : T (fX3_operatorFor a n) h (fun v h' => CR bu h' st ∧ ((∀ g, SAt h 4 g → SAt h' 4 g) ∧ Kp h h') ∧ dig h' 1 N = a + 2 ∧ ((rg n 1 7 ∧ Nat.gcd (ti n) N = 1 ∧ ∃ o p, v = some o ∧ dig h' a 15 = p + 2 ∧ dig h' p (ti n) = o + 2) ∨ (¬ (rg n 1 7 ∧ Nat.gcd (ti n) N = 1) ∧ v = none ∧ h' = h))) := by
  have hC := q.1
  obtain ⟨mm, w, mk⟩ := q.2.2.2.2.2.2.2.2.1
  have hl := mk_len q.2.2.2.2.2.2.2.2.1 hb
  have mda : MdAt h w a N := by
    rcases mk N h1 h2 with e | ⟨a', e, md⟩
    · omega
    · have : a = a' := by omega
      rw [this]
      exact md
  obtain ⟨F, X, lf⟩ := mda.1.f
  obtain ⟨lv, la, l27, p, p1, p2, p3, p4, p5, p6⟩ := id mda
  have r15 := lf.2.2.2.2.1 15 (by decide)
  have eF : F 15 = p := by
    obtain ⟨m2, x2, y1, y2, y3⟩ := rdD_some r15
    unfold dig at p1
    rw [y1] at p1
    have p1' : dg x2 15 = p + 2 := p1
    omega
  rw [eF] at r15
  have e1 : Int32.ofNat N = nI N := rfl
  unfold fX3_operatorFor
  rw [v_chk lf.1]
  refine T_call (c_within _ _ _) fun v ha P => ?_
  obtain ⟨rfl, rfl⟩ := P
  rw [show (1 : Int32).toInt = 1 from by decide, show (7 : Int32).toInt = 7 from by decide]
  by_cases r : rg n 1 7
  · obtain ⟨en, x1, x2⟩ := rg_nI r (by decide)
    have n1 : 1 ≤ ti n := by omega
    have n2 : ti n ≤ 7 := by omega
    rw [if_pos r, T_ifn (by decide), v_gI lf.1, e1, en]
    refine T_call (c_gcd n1 n2 h1 h2) fun v hb P => ?_
    obtain ⟨rfl, rfl⟩ := P
    rw [← en]
    have gl : Nat.gcd (ti n) N ≤ 7 := Nat.le_trans (Nat.gcd_le_left N n1) n2
    by_cases g : Nat.gcd (ti n) N = 1
    · have hc : cop N (ti n) := ⟨h1, h2, n1, n2, g⟩
      have g1 : nI (Nat.gcd (ti n) N) = 1 := by rw [g]; rfl
      have rd := sh_rd p5 (k := ti n) (by omega)
      rw [T_ifp g1, v_gA r15, en]
      rcases p6 (ti n) (by omega) with e | ⟨o, e, o1, o2, o3⟩
      · rw [e] at rd
        rw [v_lN0 rd (by omega)]
        dsimp only
        rw [t_al (by decide)]
        refine T_call (opc_init hc lv hl hC.1) fun _ h3 P => ?_
        have hC3 : CW h3 := CW_ext hC P.1 fun a k hk => P.2.1 a k (Nat.lt_of_lt_of_le (cref_lt hk).1 hC.1)
        obtain ⟨q4, s4, y1, y2, y3⟩ := C_opMade (by assumption) hc q mk ea mda p1 p2 p3 p4 p5 p6 e P hC3
        have r15' : rdD h3 3 a 15 = some (p + 2) := by
          obtain ⟨m2, x2, z1, z2, z3⟩ := rdD_some r15
          obtain ⟨x3, z4, -⟩ := P.1.2.2 a _ z1
          have z5 := P.2.1 a 15 (nth_lt z1)
          unfold dig at z5
          rw [z4, z1] at z5
          rw [rdD_of z4 z2]
          exact congrArg some (z5.trans z3)
        rw [v_gA r15', c_tA P.2.2.2.2 (sh_ext p5 P.1) (by omega) (by decide) (by omega), T_pp, ← en]
        exact ⟨q4, s4, y1, Or.inl ⟨r, g, _, p, rfl, y2, y3⟩⟩
      · rw [e] at rd
        rw [v_lN1 rd (by omega)]
        dsimp only
        rw [T_pp, ← en]
        exact ⟨q, ⟨fun _ s => s, Kp.rf _⟩, ea, Or.inl ⟨r, g, o, p, rfl, p1, e⟩⟩
    · have g1 : ¬ nI (Nat.gcd (ti n) N) = 1 := by
        have : (1 : Int32) = nI 1 := rfl
        rw [this, nI_eq (by omega) (by decide)]
        exact g
      rw [T_ifn g1, T_pp]
      exact ⟨q, ⟨fun _ s => s, Kp.rf _⟩, ea, Or.inr ⟨fun z => g z.2, rfl, rfl⟩⟩
  · rw [if_neg r, T_ifp rfl, T_pp]
    exact ⟨q, ⟨fun _ s => s, Kp.rf _⟩, ea, Or.inr ⟨fun z => r z.1, rfl, rfl⟩⟩
end C26
