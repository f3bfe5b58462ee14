/-! what an operator shows -/
noncomputable def W0 (N n : Nat) : Nat := dig (OM N n) 0 0 - 2 - (CL N).length
noncomputable def V0 (N n : Nat) : Nat := dig (OM N n) 0 1 - 2 - (CL N).length
noncomputable def mxB (O : PH) (w L : Nat) (M : PH) : Bool := allN M.length fun b => match nth O (w + b), nth M b with
  | some c, some d => Nat.beq c.1 d.1 && (Nat.beq c.2.1 d.2.1 && allN d.2.1 (fun k => bif Nat.beq d.1 24 then Nat.beq (dg c.2.2 k) (L + w + dg d.2.2 k) && Nat.ble 2 (dg d.2.2 k) else Nat.beq d.1 18 && Nat.beq (dg c.2.2 k) (dg d.2.2 k)))
  | _, _ => false
noncomputable def orB (N n : Nat) : Bool := (rqB (OM N n) 4 0 0 ((CL N).length + W0 N n + 2) && (rqB (OM N n) 4 0 1 ((CL N).length + V0 N n + 2) && rqB (OM N n) 4 0 2 ((CL N).length + imI N n + 2))) && (allN (dim N) (fun i => rqB (OM N n) 24 (W0 N n) i ((CL N).length + (W0 N n + (i + 1)) + 2) && allN (dim N) fun j => rqB (OM N n) 18 (W0 N n + (i + 1)) j (dgJ 64 (tM N n i j))) && ((mxB (OM N n) (W0 N n) (CL N).length (mtW N n) && mxB (OM N n) (V0 N n) (CL N).length (mtV N n)) && ((closB (mtW N n) (mtW N n).length && closB (mtV N n) (mtV N n).length) && (Nat.beq (mtW N n).length (dim N + 1) && Nat.beq (mtV N n).length (cyc N + 1)))))
noncomputable def opA (p : Nat → Nat → Bool) : Bool := allN 26 fun N => allN 8 fun n => !(Nat.ble 1 N && (Nat.ble 1 n && Nat.beq (Nat.gcd n N) 1)) || p N n
theorem opA_at {p : Nat → Nat → Bool} (q : opA p = true) {N n : Nat} (h : cop N n) : p N n = true := by
  obtain ⟨h1, h2, h3, h4, h5⟩ := h
  have k := allN_at (allN_at q N (by omega)) n (by omega)
  have k : (!(Nat.ble 1 N && (Nat.ble 1 n && Nat.beq (Nat.gcd n N) 1)) || p N n) = true := k
  rw [Nat.ble_eq_true_of_le h1, Nat.ble_eq_true_of_le h3, h5] at k
  exact k
theorem orB_all : opA orB = true := by decide +kernel
noncomputable def vrB (N n : Nat) : Bool := closB (VR N n) (VR N n).length && (Nat.beq (VR N n).length 1 && (match nth (VR N n) 0 with
  | none => false
  | some c => Nat.beq c.1 18 && (Nat.beq c.2.1 (cyc N + 1) && allN (cyc N + 1) (fun i => Nat.beq (dg c.2.2 i) (dgJ 1099511627776 (tV N n i))))))
theorem vrB_all : opA vrB = true := by decide +kernel
section C27
variable {h h' : PH} {N bu : Nat}
theorem rd_om {t i k d n : Nat} (e : rdD (OM N n) t i k = some d) : rdD (CL N ++ OM N n) t ((CL N).length + i) k = some d := by
  obtain ⟨m, x, e1, e2, e3⟩ := rdD_some e
  rw [rdD_of (by rw [nth_app_right (Nat.le_add_right _ _), Nat.add_sub_cancel_left]; exact e1) e2, e3]
/-- a matrix among the operator's cells is a heap of its own -/
theorem emb_mx {r : Nat → Nat} {n w : Nat} {M : PH} (em : Emb r (CL N ++ OM N n) h) (b1 : mxB (OM N n) w (CL N).length M = true) (b2 : closB M M.length = true) : Emb (fun b => r ((CL N).length + w + b)) M h := by
  intro b t m y hb
  have k := allN_at b1 b (nth_lt hb)
  have k : (match nth (OM N n) (w + b), nth M b with
    | some c, some d => Nat.beq c.1 d.1 && (Nat.beq c.2.1 d.2.1 && allN d.2.1 (fun k => bif Nat.beq d.1 24 then Nat.beq (dg c.2.2 k) ((CL N).length + w + dg d.2.2 k) && Nat.ble 2 (dg d.2.2 k) else Nat.beq d.1 18 && Nat.beq (dg c.2.2 k) (dg d.2.2 k)))
    | _, _ => false) = true := k
  rw [hb] at k
  cases ex : nth (OM N n) (w + b) with
  | none => rw [ex] at k; cases k
  | some c =>
    rw [ex] at k
    obtain ⟨t', m', x⟩ := c
    dsimp only at k
    rw [Bool.and_eq_true, Bool.and_eq_true] at k
    obtain ⟨k1, k2, k3⟩ := k
    have e1 : t' = t := Nat.eq_of_beq_eq_true k1
    have e2 : m' = m := Nat.eq_of_beq_eq_true k2
    subst e1
    subst e2
    obtain ⟨z, f1, f2⟩ := em ((CL N).length + (w + b)) t' m' x (by rw [nth_app_right (Nat.le_add_right _ _), Nat.add_sub_cancel_left]; exact ex)
    refine ⟨z, by dsimp only; rw [Nat.add_assoc]; exact f1, fun k => ?_⟩
    by_cases ck : k < m'
    · have k4 := allN_at k3 k ck
      by_cases c24 : t' = 24
      · subst c24
        have k5 : (Nat.beq (dg x k) ((CL N).length + w + dg y k) && Nat.ble 2 (dg y k)) = true := k4
        rw [Bool.and_eq_true] at k5
        have k6 := Nat.eq_of_beq_eq_true k5.1
        have k7 := Nat.le_of_ble_eq_true k5.2
        have k8 := (clos_at b2 hb).2 k (by rfl)
        have hl := M.length
        obtain ⟨b', hb'⟩ : ∃ b', dg y k = b' + 2 := ⟨dg y k - 2, by omega⟩
        have f3 := f2 k
        rw [k6, hb'] at f3
        rcases f3 with v | ⟨-, ⟨v, -⟩ | ⟨u, v0, v, v2⟩⟩ | ⟨v, -⟩
        · omega
        · omega
        · have eu : u = (CL N).length + w + b' := by omega
          rw [eu] at v0 v2
          exact Or.inr (Or.inl ⟨rfl, Or.inr ⟨b', by omega, hb', v2⟩⟩)
        · exact absurd rfl v
      · have nb : Nat.beq t' 24 = false := by
          cases e : Nat.beq t' 24 with
          | false => rfl
          | true => exact absurd (Nat.eq_of_beq_eq_true e) c24
        have k4 : (bif Nat.beq t' 24 then Nat.beq (dg x k) ((CL N).length + w + dg y k) && Nat.ble 2 (dg y k) else Nat.beq t' 18 && Nat.beq (dg x k) (dg y k)) = true := k4
        rw [nb] at k4
        have k5 : (Nat.beq t' 18 && Nat.beq (dg x k) (dg y k)) = true := k4
        rw [Bool.and_eq_true] at k5
        have k6 : t' = 18 := Nat.eq_of_beq_eq_true k5.1
        have k7 := Nat.eq_of_beq_eq_true k5.2
        subst k6
        have f3 := f2 k
        rw [k7] at f3
        rcases f3 with v | ⟨v, -⟩ | v
        · exact Or.inl v
        · exact absurd v (by unfold kd; simp)
        · exact Or.inr (Or.inr v)
    · exact Or.inl ((clos_at b2 hb).1 k (by omega))
/-- what an operator shows -/
def OpF (h : PH) (o N n : Nat) (r : Nat → Nat) : Prop := rdD h 4 o 0 = some (r ((CL N).length + W0 N n) + 2) ∧ rdD h 4 o 1 = some (r ((CL N).length + V0 N n) + 2) ∧ rdD h 4 o 2 = some (r ((CL N).length + imI N n) + 2) ∧ (∀ i, i < dim N → rdD h 24 (r ((CL N).length + W0 N n)) i = some (r ((CL N).length + (W0 N n + (i + 1))) + 2) ∧ ∀ j, j < dim N → rdD h 18 (r ((CL N).length + (W0 N n + (i + 1)))) j = some (dgJ 64 (tM N n i j))) ∧ Emb (fun b => r ((CL N).length + W0 N n + b)) (mtW N n) h ∧ Emb (fun b => r ((CL N).length + V0 N n + b)) (mtV N n) h
theorem orB_at {n : Nat} (hc : cop N n) : (closB (mtW N n) (mtW N n).length = true ∧ closB (mtV N n) (mtV N n).length = true) ∧ (mtW N n).length = dim N + 1 ∧ (mtV N n).length = cyc N + 1 := by
  have k := opA_at orB_all hc
  unfold orB at k
  simp only [Bool.and_eq_true] at k
  exact ⟨⟨k.2.2.2.1.1, k.2.2.2.1.2⟩, Nat.eq_of_beq_eq_true k.2.2.2.2.1, Nat.eq_of_beq_eq_true k.2.2.2.2.2⟩
theorem OpF_of {r : Nat → Nat} {o n : Nat} (hc : cop N n) (r1 : r (CL N).length = o) (em : Emb r (CL N ++ OM N n) h) : OpF h o N n r := by
  have k := opA_at orB_all hc
  unfold orB at k
  simp only [Bool.and_eq_true] at k
  obtain ⟨⟨a1, a2, a3⟩, a4, ⟨a5, a6⟩, ⟨a7, a8⟩, a9⟩ := k
  refine ⟨?_, ?_, ?_, fun i hi => ?_, emb_mx em a5 a7, emb_mx em a6 a8⟩
  · rw [← r1]; exact em.rf (rd_om (i := 0) (rqB_at a1)) (by decide)
  · rw [← r1]; exact em.rf (rd_om (i := 0) (rqB_at a2)) (by decide)
  · rw [← r1]; exact em.rf (rd_om (i := 0) (rqB_at a3)) (by decide)
  · have z := allN_at a4 i hi
    rw [Bool.and_eq_true] at z
    exact ⟨em.rf (rd_om (rqB_at z.1)) rfl, fun j hj => em.rd (rd_om (rqB_at (allN_at z.2 j hj))) (by unfold kd; simp)⟩
/-- the operator that the level's row names -/
theorem or_get {st : St} {a o p n : Nat} (q : CR bu h st) (hc : cop N n) (e1 : dig h 1 N = a + 2) (e2 : dig h a 15 = p + 2) (e3 : dig h p n = o + 2) : ∃ w, MKc h w ∧ MdAt h w a N ∧ 27 ≤ p ∧ w p = 1000 + N ∧ Sh h p 21 8 ∧ p < 1152921504606846976 ∧ (∀ n, n < 8 → OpS h w a p N n) ∧ o < 1152921504606846976 ∧ 27 ≤ o ∧ OrAt h w a o N n := by
  obtain ⟨mm, w, mk⟩ := q.2.2.2.2.2.2.2.2.1
  rcases mk N hc.1 hc.2.1 with e | ⟨a', e, md⟩
  · omega
  · have : a = a' := by omega
    subst this
    obtain ⟨lv, la, l27, p', p1, p2, p3, p4, p5, p6⟩ := id md
    have : p = p' := by omega
    subst this
    have n8 : n < 8 := by have := hc.2.2.2.1; omega
    rcases p6 n n8 with e | ⟨o', z1, z2, z3, z4⟩
    · omega
    · have : o = o' := by omega
      subst this
      exact ⟨w, mk, md, p2, p4, p5, p3, p6, z2, z3, z4⟩
theorem q_gcd {n : Int32} {N : Nat} (h1 : 1 ≤ N) (h2 : N ≤ 25) (r : rg n 1 7) (g : Nat.gcd (ti n) N = 1) : cop N (ti n) := by
  obtain ⟨en, x1, x2⟩ := rg_nI r (by decide)
  exact ⟨h1, h2, by omega, by omega, g⟩
theorem CR.fc0 {st : St} (q : CR bu h st) (f : Fc [] h h') : CR bu h' st := by
  have f45 : Fc [4, 5] h h' := f.sub (by decide)
  obtain ⟨g, s⟩ := q.2.2.2.1
  exact q.fc45 f45 ⟨g, s.fc q.1 f (Or.inr (Or.inl rfl)) (by decide) (by decide) (by decide)⟩
theorem rd_dig {t a k d : Nat} (e : rdD h t a k = some d) : dig h a k = d := by
  obtain ⟨n, x, e1, e2, e3⟩ := rdD_some e
  unfold dig
  rw [e1]
  exact e3
theorem C_table {st : St} (hb : bu ≤ 100000) (n i j w : Int32) (q : CR bu h st) : T (fX9_table 0 n i j w) h (fun v h' => v = (q_table n i j w st).1 ∧ CR bu h' (q_table n i j w st).2) := by
  have hC := q.1
  obtain ⟨a, e0, la, lv, row⟩ := q.2.2.1
  obtain ⟨F, X, lf⟩ := lv.f
  have tn := tb_n lv.1 lv.2.1
  have ref2 : ∀ {ha : PH}, CR bu ha st → ¬ (rg n 1 7 ∧ rg i 0 ((dim st.1.1 : Int) - 1) ∧ rg j 0 ((dim st.1.1 : Int) - 1) ∧ rg w 0 1) → T (pb (fX9_refuse 0 (-2)) fun v => pp v.toInt64) ha (fun v h' => v = (q_table n i j w st).1 ∧ CR bu h' (q_table n i j w st).2) := by
    intro ha qa nn
    unfold q_table
    rw [if_neg nn]
    refine T_call (C_ref2 qa) fun v h3 p => ?_
    obtain ⟨rfl, p⟩ := p
    rw [T_pp]
    exact ⟨rfl, p⟩
  unfold fX9_table
  rw [c_chk hC (by decide) (by decide), c_gA hC (by decide) (by decide), cr_0_1, t_gA (c_sh hC (by decide) (by decide) : Sh h 2 7 (clen 2)) (by decide) e0]
  refine T_call (c_within _ _ _) fun v h1 p => ?_
  obtain ⟨rfl, rfl⟩ := p
  rw [show (1 : Int32).toInt = 1 from by decide, show (7 : Int32).toInt = 7 from by decide]
  by_cases r : rg n 1 7
  · rw [if_pos r, T_ifn (by decide)]
    refine T_call (c_hasCoordinate lv.1 lv.2.1 lf i) fun v h2 p => ?_
    obtain ⟨rfl, rfl⟩ := p
    by_cases r1 : rg i 0 ((dim st.1.1 : Int) - 1)
    · rw [if_pos r1, T_ifn (by decide)]
      refine T_call (c_hasCoordinate lv.1 lv.2.1 lf j) fun v h2 p => ?_
      obtain ⟨rfl, rfl⟩ := p
      by_cases r2 : rg j 0 ((dim st.1.1 : Int) - 1)
      · rw [if_pos r2, T_ifn (by decide)]
        refine T_call (c_within _ _ _) fun v h3 p => ?_
        obtain ⟨rfl, rfl⟩ := p
        rw [show (0 : Int32).toInt = 0 from by decide, show (1 : Int32).toInt = 1 from by decide]
        by_cases r3 : rg w 0 1
        · obtain ⟨ew, y1, y2⟩ := rg_nI r3 (by decide)
          obtain ⟨ei, x1, x2⟩ := rg_nI r1 (by decide)
          obtain ⟨ej, x3, x4⟩ := rg_nI r2 (by decide)
          have cc := And.intro r (And.intro r1 (And.intro r2 r3))
          rw [if_pos r3, T_ifn (by decide)]
          unfold q_table
          rw [if_pos cc]
          refine T_call (C_operatorFor hb lv.1 lv.2.1 q lv.2.2.1 n) fun v h4 p => ?_
          obtain ⟨q4, s4, ea, ⟨-, g, o, pp', rfl, e15, epn⟩ | ⟨nn, rfl, rfl⟩⟩ := p
          · have hc := q_gcd lv.1 lv.2.1 r g
            obtain ⟨ww, mk, md, p2, p4, p5, p3, p6, o1, o2, orr⟩ := or_get q4 hc ea e15 epn
            obtain ⟨-, rr, r0, rL, r27, rinj, rb, em, hwr, c1, c2⟩ := orr
            have of := OpF_of hc rL em
            dsimp only
            rw [if_pos g]
            by_cases c0 : ti w = 0
            · have w0 : w = 0 := by rw [ew, c0]; rfl
              obtain ⟨m1, m2⟩ := of.2.2.2.1 (ti i) (by omega)
              have m3 := m2 (ti j) (by omega)
              obtain ⟨d, hd⟩ : ∃ d, dgJ 64 (tM st.1.1 (ti n) (ti i) (ti j)) = d + 1 := ⟨_, rfl⟩
              rw [hd] at m3
              rw [T_ifp w0, if_pos c0, v_gA of.1, ei, v_lA m1 (by omega), ej, v_lJ m3 (by omega), T_pp, ← ei, ← ej]
              refine ⟨?_, q4⟩
              unfold mJ
              rw [hd]
              rfl
            · have w0 : ¬ w = 0 := fun z => c0 (by rw [z]; rfl)
              rw [T_ifn w0, if_neg c0, T_pp]
              exact ⟨rfl, q4⟩
          · have g : ¬ Nat.gcd (ti n) st.1.1 = 1 := fun z => nn ⟨r, z⟩
            dsimp only
            rw [if_neg g]
            refine T_call (C_ref3 q4) fun v h5 p => ?_
            obtain ⟨rfl, p⟩ := p
            rw [T_pp]
            exact ⟨rfl, p⟩
        · rw [if_neg r3, T_ifp rfl]
          exact ref2 q (fun z => r3 z.2.2.2)
      · rw [if_neg r2, T_ifp rfl]
        exact ref2 q (fun z => r2 z.2.2.1)
    · rw [if_neg r1, T_ifp rfl]
      exact ref2 q (fun z => r1 z.2.1)
  · rw [if_neg r, T_ifp rfl]
    exact ref2 q (fun z => r z.1)
/-- the sum of a diagonal -/
theorem c_diag {r : Nat → Nat} {M : PH} {t : Nat} (hC : CW h) (hl : h.length ≤ 400000) (em : Emb r M h) (cl : closB M M.length = true) (lm : 0 < M.length ∧ M.length ≤ 100) (inj : ∀ b c, r b = r c → b = c) (run : runW (fX4_diagonalSum 0) M (okS2 M t) = true) : T (fX4_diagonalSum (r 0)) h (fun v h' => v = Int64.ofNat (dgJ 1024 t - 1) ∧ Fc [] h h') := by
  have rh := RH_of em cl (fun b c _ _ e => inj b c e) (by omega)
  have pr := prX4_diagonalSum (r := rex r M.length h.length) (x0 := 0) (by decide)
  rw [rex_in lm.1] at pr
  refine T_mono (T_pr pr rh run fun v e' p => ?_) fun v h' p => ?_
  · unfold okS2 at p
    simp only [Bool.and_eq_true] at p
    have := Nat.eq_of_beq_eq_true p.2.1
    exact ⟨by omega, by omega⟩
  · obtain ⟨u, e', ok, rfl, rh', fr, ex⟩ := p
    unfold okS2 okS at ok
    simp only [Bool.and_eq_true] at ok
    obtain ⟨⟨⟨ok0, ok1⟩, ok2⟩, ok3, ok4⟩ := ok
    have l1 := Nat.eq_of_beq_eq_true ok3
    have l2 := Nat.eq_of_beq_eq_true ok4
    have len : h'.length = h.length := by
      have := rh'.2.1 0
      rw [Nat.add_zero, rex_out (by omega)] at this
      omega
    have dd : ∀ a k, a < h.length → dig h' a k = dig h a k := fun a k ha => old_same (m := M.length) rh rh' fr (fun b hb => eqH_at ok2 b hb) ha (fun b b1 b2 => by omega)
    refine ⟨?_, CW_ext hC ex (fun a k hk => dd a k (Nat.lt_of_lt_of_le (cref_lt hk).1 hC.1)), ex, fun a k ha _ => dd a k ha, len, by have := fr.2.2; omega⟩
    unfold eqJ at ok0
    have e0 := Nat.eq_of_beq_eq_true ok0
    rw [← e0, Nat.add_sub_cancel]
    exact (ofJ u).symm
theorem C_trace {st : St} (hb : bu ≤ 100000) (n w : Int32) (q : CR bu h st) : T (fX9_trace 0 n w) h (fun v h' => v = (q_trace n w st).1 ∧ CR bu h' (q_trace n w st).2) := by
  have hC := q.1
  obtain ⟨a, e0, la, lv, row⟩ := q.2.2.1
  have tn := tb_n lv.1 lv.2.1
  unfold fX9_trace q_trace
  rw [c_chk hC (by decide) (by decide)]
  refine T_call (c_within _ _ _) fun v h1 p => ?_
  obtain ⟨rfl, rfl⟩ := p
  rw [show (1 : Int32).toInt = 1 from by decide, show (7 : Int32).toInt = 7 from by decide]
  by_cases r : rg n 1 7
  · rw [if_pos r, T_ifn (by decide)]
    refine T_call (c_within _ _ _) fun v h3 p => ?_
    obtain ⟨rfl, rfl⟩ := p
    rw [show (0 : Int32).toInt = 0 from by decide, show (1 : Int32).toInt = 1 from by decide]
    by_cases r3 : rg w 0 1
    · obtain ⟨ew, y1, y2⟩ := rg_nI r3 (by decide)
      have cc := And.intro r r3
      rw [if_pos r3, T_ifn (by decide), if_pos cc, c_gA hC (by decide) (by decide), cr_0_1, t_gA (c_sh hC (by decide) (by decide) : Sh h3 2 7 (clen 2)) (by decide) e0]
      refine T_call (C_operatorFor hb lv.1 lv.2.1 q lv.2.2.1 n) fun v h4 p => ?_
      obtain ⟨q4, s4, ea, ⟨-, g, o, pp', rfl, e15, epn⟩ | ⟨nn, rfl, rfl⟩⟩ := p
      · have hc := q_gcd lv.1 lv.2.1 r g
        obtain ⟨ww, mk, md, p2, p4, p5, p3, p6, o1, o2, orr⟩ := or_get q4 hc ea e15 epn
        obtain ⟨-, rr, r0, rL, r27, rinj, rb, em, hwr, c1, c2⟩ := orr
        have of := OpF_of hc rL em
        have ob := orB_at hc
        have hl4 := mk_len q4.2.2.2.2.2.2.2.2.1 hb
        dsimp only
        rw [if_pos g]
        by_cases c0 : ti w = 0
        · have w0 : w = 0 := by rw [ew, c0]; rfl
          rw [T_ifp w0, v_gA of.1, c0]
          refine T_call (c_diag q4.1 hl4 of.2.2.2.2.1 ob.1.1 ⟨by omega, by omega⟩ (fun b c e => by have := rinj _ _ e; omega) (dsW_run2 hc)) fun v h5 p => ?_
          rw [T_pp]
          exact ⟨p.1, q4.fc0 p.2⟩
        · have w0 : ¬ w = 0 := fun z => c0 (by rw [z]; rfl)
          rw [T_ifn w0, v_gA of.2.1]
          refine T_call (c_diag q4.1 hl4 of.2.2.2.2.2 ob.1.2 ⟨by omega, by omega⟩ (fun b c e => by have := rinj _ _ e; omega) (dsV_run2 hc)) fun v h5 p => ?_
          rw [T_pp]
          refine ⟨?_, q4.fc0 p.2⟩
          show v = trv st.1.1 (ti n) (ti w)
          unfold trv
          rw [if_neg c0]
          exact p.1
      · have g : ¬ Nat.gcd (ti n) st.1.1 = 1 := fun z => nn ⟨r, z⟩
        dsimp only
        rw [if_neg g]
        refine T_call (C_ref3 q4) fun v h5 p => ?_
        rw [T_pp]
        exact ⟨rfl, p.2⟩
    · have nn : ¬ (rg n 1 7 ∧ rg w 0 1) := fun z => r3 z.2
      rw [if_neg r3, if_neg nn, T_ifp rfl]
      refine T_call (C_ref2 q) fun v h5 p => ?_
      rw [T_pp]
      exact ⟨rfl, p.2⟩
  · have nn : ¬ (rg n 1 7 ∧ rg w 0 1) := fun z => r z.1
    rw [if_neg r, if_neg nn, T_ifp rfl]
    refine T_call (C_ref2 q) fun v h5 p => ?_
    rw [T_pp]
    exact ⟨rfl, p.2⟩
end C27
