section C29
variable {h h' : PH} {N bu : Nat}
theorem aln_of {α : Type} {Q : α → PH → Prop} {a t n x : Nat} {f : Int32 → PM α} (e : nth h a = some (t, n, x)) (h1 : 16 ≤ t) (h2 : t ≤ 24) : T (pb (aln a) f) h Q = T (f (nI n)) h Q := by
  rw [T_pb]
  have e' : (aln a).1 h = some (nI n, h) := by
    unfold aln
    simp only [e, Nat.ble_eq_true_of_le h1, Nat.ble_eq_true_of_le h2]
    rfl
  apply propext
  constructor
  · rintro ⟨v, h', e2, q⟩
    rw [e'] at e2
    cases e2
    exact q
  · intro q
    exact ⟨_, _, e', q⟩
/-- one coefficient of a row, 0 behind it -/
theorem c_coef {c d : Nat} {t : Nat → Nat} {k : Int32} (hk : 0 ≤ k.toInt) (hd : d ≤ 20) (s : Sh h c 18 (d + 1)) (hg : ∀ i, i ≤ d → dig h c i = dgJ 1099511627776 (t i)) : T (pb (aln c) fun v25 => (@ite _ (v25 ≤ k) (dLe v25 k) (pp (0 : Int64)) (pb (lJ 18 c k) fun v27 => pp v27))) h (fun v h' => h' = h ∧ v = if ti k ≤ d then Int64.ofNat (dgJ 1099511627776 (t (ti k)) - 1) else 0) := by
  obtain ⟨x, e, kn⟩ := id s
  rw [aln_of e (by decide) (by decide)]
  have et : k.toInt = (ti k : Int) := by unfold ti; omega
  by_cases c1 : ti k ≤ d
  · have ek : k = nI (ti k) := Int32.toInt_inj.mp (by rw [nI_toInt (by omega)]; exact et)
    have c2 : ¬ nI (d + 1) ≤ k := by rw [ek]; exact nI_ge (by omega) (by omega)
    have rd := sh_rd s (k := ti k) (by omega)
    rw [hg _ c1] at rd
    obtain ⟨v, hv⟩ : ∃ v, dgJ 1099511627776 (t (ti k)) = v + 1 := ⟨_, rfl⟩
    rw [hv] at rd
    rw [T_ifn c2, if_pos c1, hv, ek, v_lJ rd (by omega), T_pp]
    exact ⟨rfl, rfl⟩
  · have c2 : nI (d + 1) ≤ k := by
      rw [Int32.le_iff_toInt_le, nI_toInt (by omega), et]
      omega
    rw [T_ifp c2, if_neg c1, T_pp]
    exact ⟨rfl, rfl⟩
theorem C_polynomial {st : St} (hb : bu ≤ 100000) (n w k : Int32) (q : CR bu h st) : T (fX9_polynomial 0 n w k) h (fun v h' => v = (q_poly n w k st).1 ∧ CR bu h' (q_poly n w k st).2) := by
  have hC := q.1
  obtain ⟨a, e0, la, lv, row⟩ := q.2.2.1
  have tn := tb_n lv.1 lv.2.1
  unfold fX9_polynomial q_poly
  rw [c_chk hC (by decide) (by decide)]
  refine T_call (c_within _ _ _) fun v h1 p => ?_
  obtain ⟨rfl, rfl⟩ := p
  rw [show (1 : Int32).toInt = 1 from by decide, show (7 : Int32).toInt = 7 from by decide]
  by_cases r : rg n 1 7
  · rw [if_pos r, T_ifn (by decide)]
    refine T_call (c_within _ _ _) fun v h3 p => ?_
    obtain ⟨rfl, rfl⟩ := p
    rw [show (0 : Int32).toInt = 0 from by decide, show (1 : Int32).toInt = 1 from by decide]
    by_cases r3 : rg w 0 1
    · obtain ⟨ew, y1, y2⟩ := rg_nI r3 (by decide)
      have k0 : 0 ≤ k ↔ 0 ≤ k.toInt := by rw [Int32.le_iff_toInt_le]; rfl
      rw [if_pos r3, T_ifn (by decide)]
      by_cases r4 : 0 ≤ k.toInt
      · have cc := And.intro r (And.intro r3 r4)
        rw [T_ifp (k0.mpr r4), if_pos cc, c_gA hC (by decide) (by decide), cr_0_1, t_gA (c_sh hC (by decide) (by decide) : Sh h3 2 7 (clen 2)) (by decide) e0]
        refine T_call (C_operatorFor hb lv.1 lv.2.1 q lv.2.2.1 n) fun v h4 p => ?_
        obtain ⟨q4, s4, ea, ⟨-, g, o, pp', rfl, e15, epn⟩ | ⟨nn, rfl, rfl⟩⟩ := p
        · have hc := q_gcd lv.1 lv.2.1 r g
          dsimp only
          rw [if_pos g]
          by_cases c0 : ti w = 0
          · have w0 : w = 0 := by rw [ew, c0]; rfl
            rw [T_ifp w0, c0]
            refine T_call (C_wholeCoefficients hb hc q4 ea e15 epn) fun c h5 p => ?_
            obtain ⟨q5, -, -, -, sh, dgt⟩ := p
            refine T_mono (c_coef r4 (by omega) sh dgt) fun v h6 p => ?_
            obtain ⟨rfl, rfl⟩ := p
            exact ⟨rfl, q5⟩
          · have w0 : ¬ w = 0 := fun z => c0 (by rw [z]; rfl)
            rw [T_ifn w0]
            refine T_call (C_cuspidalCoefficients hb hc q4 ea e15 epn) fun c h5 p => ?_
            obtain ⟨q5, -, -, -, sh, dgt⟩ := p
            refine T_mono (c_coef r4 (by omega) sh dgt) fun v h6 p => ?_
            obtain ⟨rfl, rfl⟩ := p
            refine ⟨?_, q5⟩
            show _ = pov st.1.1 (ti n) (ti w) (ti k)
            unfold pov
            rw [if_neg c0]
            rfl
        · have g : ¬ Nat.gcd (ti n) st.1.1 = 1 := fun z => nn ⟨r, z⟩
          dsimp only
          rw [if_neg g]
          refine T_call (C_ref3 q4) fun v h5 p => ?_
          rw [T_pp]
          exact ⟨rfl, p.2⟩
      · have nn : ¬ (rg n 1 7 ∧ rg w 0 1 ∧ 0 ≤ k.toInt) := fun z => r4 z.2.2
        rw [T_ifn (fun z => r4 (k0.mp z)), if_neg nn]
        refine T_call (C_ref2 q) fun v h5 p => ?_
        rw [T_pp]
        exact ⟨rfl, p.2⟩
    · have nn : ¬ (rg n 1 7 ∧ rg w 0 1 ∧ 0 ≤ k.toInt) := fun z => r3 z.2.1
      rw [if_neg r3, if_neg nn, T_ifp rfl]
      refine T_call (C_ref2 q) fun v h5 p => ?_
      rw [T_pp]
      exact ⟨rfl, p.2⟩
  · have nn : ¬ (rg n 1 7 ∧ rg w 0 1 ∧ 0 ≤ k.toInt) := fun z => r z.1
    rw [if_neg r, if_neg nn, T_ifp rfl]
    refine T_call (C_ref2 q) fun v h5 p => ?_
    rw [T_pp]
    exact ⟨rfl, p.2⟩
theorem CR.mono {bu' : Nat} {st : St} (q : CR bu h st) (hb : bu ≤ bu') : CR bu' h st := by
  obtain ⟨hC, a1, a2, a3, a4, a5, a6, a7, ⟨m, a8⟩, a9⟩ := q
  exact ⟨hC, a1, a2, a3, a4, a5, a6, a7, ⟨by omega, a8⟩, a9⟩
/-- the multiplicity of a root: a row of its own -/
theorem C_mult {st : St} {c n : Nat} (hb : bu ≤ 100000) (hc : cop N n) (q : CR bu h st) (s : Sh h c 18 (cyc N + 1)) (hg : ∀ i, i ≤ cyc N → dig h c i = dgJ 1099511627776 (tV N n i)) {v : Nat} (hv : v < 17) : T (fX4_multiplicity c (vI v)) h (fun x h' => x = nI (tO N n v) ∧ CR (bu + 20) h' st) := by
  have hC := q.1
  have hl := mk_len q.2.2.2.2.2.2.2.2.1 hb
  have k := opA_at vrB_all hc
  unfold vrB at k
  simp only [Bool.and_eq_true] at k
  obtain ⟨k1, k2, k3⟩ := k
  have lv := Nat.eq_of_beq_eq_true k2
  have em : Emb (fun _ => c) (VR N n) h := by
    intro b t m x hb
    have b0 : b = 0 := by
      have := nth_lt hb
      omega
    subst b0
    rw [hb] at k3
    dsimp only at k3
    simp only [Bool.and_eq_true] at k3
    have e1 : t = 18 := Nat.eq_of_beq_eq_true k3.1
    have e2 : m = cyc N + 1 := Nat.eq_of_beq_eq_true k3.2.1
    subst e1
    subst e2
    obtain ⟨y, e, kn⟩ := id s
    refine ⟨y, e, fun k => ?_⟩
    by_cases ck : k < cyc N + 1
    · have e3 := Nat.eq_of_beq_eq_true (allN_at k3.2.2 k ck)
      have e4 := hg k (by omega)
      unfold dig at e4
      rw [e] at e4
      have e4 : dg y k = dgJ 1099511627776 (tV N n k) := e4
      exact Or.inr (Or.inr ⟨by unfold kd; simp, by rw [e3, e4]⟩)
    · exact Or.inl ((clos_at k1 hb).1 k (by omega))
  have rh := RH_of em k1 (fun b c b1 c1 _ => by omega) (by omega)
  have pr := prX4_multiplicity (r := rex (fun _ => c) (VR N n).length h.length) (x0 := 0) (x1 := vI v) (by decide)
  rw [rex_in (by omega)] at pr
  have run := allN_at (mul_run2 hc) v hv
  refine T_mono (T_pr pr rh run fun v e' p => ?_) fun x h' p => ?_
  · unfold okG2 okG at p
    simp only [Bool.and_eq_true] at p
    have := Nat.le_of_ble_eq_true p.1.1.2.2
    exact ⟨by omega, by omega⟩
  · obtain ⟨u, e', ok, rfl, rh', fr, ex⟩ := p
    unfold okG2 okG at ok
    simp only [Bool.and_eq_true] at ok
    obtain ⟨⟨⟨ok0, -, ok1⟩, ok2⟩, ok3⟩ := ok
    have b1 := Nat.le_of_ble_eq_true ok1
    have b2 := Nat.le_of_ble_eq_true ok3
    have e'L : 1 ≤ e'.length := by
      by_cases z : 1 ≤ e'.length
      · exact z
      · have t1 := rh'.2.1 0
        have t0 : e'.length = 0 := by omega
        rw [t0, Nat.add_zero, rex_in (by omega)] at t1
        have t2 := sh_lt s
        have := ex.1
        omega
    have len : h'.length = h.length + (e'.length - 1) := by
      have := rh'.2.1 0
      rw [Nat.add_zero, rex_out (by omega)] at this
      omega
    have dd : ∀ a k, a < h.length → dig h' a k = dig h a k := fun a k ha => old_same (m := (VR N n).length) rh rh' fr (fun b hb => eqH_at ok2 b hb) ha (fun b b1 b2 => by omega)
    have hC' : CW h' := CW_ext hC ex fun a k hk => dd a k (Nat.lt_of_lt_of_le (cref_lt hk).1 hC.1)
    have u0 : Up (fun _ _ => False) h h' := ⟨hC', ex, fun a k ha _ => dd a k ha⟩
    have hcl : ChL (fun _ _ => False) h := fun _ _ z => absurd z id
    obtain ⟨mm, w, mk⟩ := q.2.2.2.2.2.2.2.2.1
    have key := fun N n1 n2 => MKc.up (w' := w) (N := N) mk u0 hcl (fun _ _ => rfl) n1 n2 (fun z => z) (fun x k z _ => absurd z id)
    have mk' : MK (bu + 20) h' := by
      refine ⟨?_, w, fun N n1 n2 => (key N n1 n2).1⟩
      have ep : pot h' = pot h := sumN_ext 25 (fun i hi => (key (i + 1) (by omega) (by omega)).2)
      have := fr.2.2
      unfold mu at mm ⊢
      omega
    obtain ⟨g, sg⟩ := q.2.2.2.1
    exact ⟨ofI' ok0, q.up u0 hcl (fun _ _ z _ => absurd z id) mk' ⟨g, sg.up hC u0 hcl (Or.inr (Or.inl rfl)) (fun _ z => z) (fun _ z => z)⟩⟩
theorem C_root {st : St} (hb : bu ≤ 100000) (n v : Int32) (q : CR bu h st) : T (fX9_root 0 n v) h (fun x h' => x = (q_root n v st).1 ∧ CR (bu + 20) h' (q_root n v st).2) := by
  have hC := q.1
  obtain ⟨a, e0, la, lv, row⟩ := q.2.2.1
  have tn := tb_n lv.1 lv.2.1
  unfold fX9_root q_root
  rw [c_chk hC (by decide) (by decide)]
  refine T_call (c_within _ _ _) fun x h1 p => ?_
  obtain ⟨rfl, rfl⟩ := p
  rw [show (1 : Int32).toInt = 1 from by decide, show (7 : Int32).toInt = 7 from by decide]
  by_cases r : rg n 1 7
  · rw [if_pos r, T_ifn (by decide)]
    refine T_call (c_within _ _ _) fun x h3 p => ?_
    obtain ⟨rfl, rfl⟩ := p
    rw [show (-8 : Int32).toInt = -8 from by decide, show (8 : Int32).toInt = 8 from by decide]
    by_cases r3 : rg v (-8) 8
    · obtain ⟨ev, lv17⟩ := vI_of r3
      have cc := And.intro r r3
      rw [if_pos r3, T_ifn (by decide), if_pos cc, c_gA hC (by decide) (by decide), cr_0_1, t_gA (c_sh hC (by decide) (by decide) : Sh h3 2 7 (clen 2)) (by decide) e0]
      refine T_call (C_operatorFor hb lv.1 lv.2.1 q lv.2.2.1 n) fun x h4 p => ?_
      obtain ⟨q4, s4, ea, ⟨-, g, o, pp', rfl, e15, epn⟩ | ⟨nn, rfl, rfl⟩⟩ := p
      · have hc := q_gcd lv.1 lv.2.1 r g
        dsimp only
        rw [if_pos g]
        refine T_call (C_cuspidalCoefficients hb hc q4 ea e15 epn) fun c h5 p => ?_
        obtain ⟨q5, -, -, -, sh, dgt⟩ := p
        have key := C_mult hb hc q5 sh dgt lv17
        rw [← ev] at key
        refine T_call key fun x h6 p => ?_
        rw [T_pp]
        exact p
      · have g : ¬ Nat.gcd (ti n) st.1.1 = 1 := fun z => nn ⟨r, z⟩
        dsimp only
        rw [if_neg g]
        refine T_call (C_ref3 q4) fun v h5 p => ?_
        rw [T_pp]
        exact ⟨p.1, p.2.mono (by omega)⟩
    · have nn : ¬ (rg n 1 7 ∧ rg v (-8) 8) := fun z => r3 z.2
      rw [if_neg r3, if_neg nn, T_ifp rfl]
      refine T_call (C_ref2 q) fun v h5 p => ?_
      rw [T_pp]
      exact ⟨p.1, p.2.mono (by omega)⟩
  · have nn : ¬ (rg n 1 7 ∧ rg v (-8) 8) := fun z => r z.1
    rw [if_neg r, if_neg nn, T_ifp rfl]
    refine T_call (C_ref2 q) fun v h5 p => ?_
    rw [T_pp]
    exact ⟨p.1, p.2.mono (by omega)⟩
end C29
