section C30
variable {h h' : PH} {N bu : Nat}
theorem v_tJ {α : Type} {Q : α → PH → Prop} {a k n x : Nat} {v : Int64} {f : Unit → PM α} (e : nth h a = some (18, n, x)) (hk : k < n) (hn : n < 2147483648) : T (pb (tJ 18 a (nI k) v) f) h Q = T (f ()) (wJ h a k v) Q := by
  unfold tJ
  rw [aix_nI (by omega), T_pb]
  have e' : (sJ 18 k a v).1 h = some ((), wJ h a k v) := by
    unfold sJ sD
    simp only [wrD_of e hk (eJ_lt v) (eJ_0 v)]
    unfold wJ
    rw [wr_eq e]
  apply propext
  constructor
  · rintro ⟨u, h', e2, q⟩
    have e3 : (sJ 18 k a v).1 h = some (u, h') := e2
    rw [e'] at e3
    cases e3
    exact q
  · intro q
    exact ⟨_, _, e', q⟩
/-- the operator's cells but its image's -/
theorem em_im {r : Nat → Nat} {n : Nat} {Ch : Nat → Nat → Prop} (hc : cop N n) (r27 : ∀ b, 27 ≤ r b) (r3 : ∀ b c, r b = r c → b = c) (em : Emb r (CL N ++ OM N n) h) (u : Up Ch h h') (hi : ∀ x k, Ch x k → x = r ((CL N).length + imI N n) ∨ x = 5) : Emb r (CL N ++ OM N n) h' := by
  refine em.up u fun b t m x hb k hx z => ?_
  rcases hi _ _ z with y | y
  · have bi := r3 _ _ y
    rw [bi, nth_app_right (Nat.le_add_right _ _), Nat.add_sub_cancel_left, om_im hc] at hb
    cases hb
    rw [dg_one] at hx
    exact hx rfl
  · have := r27 b
    omega
/-- the operator's image of the row -/
theorem c_applyTo {r : Nat → Nat} {g : Nat → Int64} {o n : Nat} (hC : CW h) (hc : cop N n) (r1 : r (CL N).length = o) (r27 : ∀ b, 27 ≤ r b) (r3 : ∀ b c, r b = r c → b = c) (em : Emb r (CL N ++ OM N n) h) (row : ∀ i, i < 9 → gj h 5 i = g i) : T (fX5_applyTo o 5) h (fun _ h' => Fc [r ((CL N).length + imI N n), 5] h h' ∧ ∀ i, i < 9 → gj h' 5 i = apS N n g i) := by
  have tn := tb_n hc.1 hc.2.1
  have i27 := r27 ((CL N).length + imI N n)
  have crI : ∀ k, cref (r ((CL N).length + imI N n)) k = 0 := by
    intro k
    by_cases z : cref (r ((CL N).length + imI N n)) k = 0
    · exact z
    · have := (cref_lt z).1
      omega
  have emf : ∀ {ha : PH}, Fc [r ((CL N).length + imI N n)] h ha → Emb r (CL N ++ OM N n) ha := fun f => em_im hc r27 r3 em f.up (fun x k z => Or.inl (List.mem_singleton.mp z))
  have imn : ∀ {ha : PH}, Emb r (CL N ++ OM N n) ha → ∃ y, nth ha (r ((CL N).length + imI N n)) = some (18, dim N, y) := by
    intro ha e
    obtain ⟨y, f1, -⟩ := e ((CL N).length + imI N n) 18 (dim N) 1 (by rw [nth_app_right (Nat.le_add_right _ _), Nat.add_sub_cancel_left]; exact om_im hc)
    exact ⟨y, f1⟩
  have of0 := OpF_of hc r1 em
  unfold fX5_applyTo
  rw [v_chk of0.1]
  refine T_call (P := fun _ h' => Fc [r ((CL N).length + imI N n)] h h' ∧ ∀ i, i < dim N → dig h' (r ((CL N).length + imI N n)) i = eJ (ap N n g i (dim N))) ?_ fun _ h1 p => ?_
  · refine T_for (dim N) (fun m h' => Fc [r ((CL N).length + imI N n)] h h' ∧ ∀ i, i < m → dig h' (r ((CL N).length + imI N n)) i = eJ (ap N n g i (dim N))) (fun i ha hi hI => ?_) (fun ha hI => ?_) (by omega) (i0 := 0) (by omega) ⟨Fc.rf hC _, fun i hi => by omega⟩
    · obtain ⟨hF, hI⟩ := hI
      have hCa := hF.1
      have ema := emf hF
      have ofa := OpF_of hc r1 ema
      obtain ⟨y, ey⟩ := imn ema
      have c1 : ¬ nI (dim N) ≤ nI i := nI_ge hi (by omega)
      have rowa : ∀ i, i < 9 → gj ha 5 i = g i := fun j hj => by
        rw [fc_gj hF hC (by decide) (fun z => by have := List.mem_singleton.mp z; omega)]
        exact row j hj
      unfold fX5_applyTo_B2 fX5_applyTo_b2
      rw [T_fr, v_gA ofa.2.2.1, aln_of ey (by decide) (by decide), T_ifn c1]
      refine T_call (P := fun v h' => h' = ha ∧ v = ap N n g i (dim N)) ?_ fun v hb p => ?_
      · refine T_forS (dim N) (fun m v h' => h' = ha ∧ v = ap N n g i m) (fun j v hb hj hJ => ?_) (fun v hb hJ => ?_) (by omega) (i0 := 0) (by omega) ⟨rfl, rfl⟩
        · obtain ⟨rfl, rfl⟩ := hJ
          have c2 : ¬ nI (dim N) ≤ nI j := nI_ge hj (by omega)
          obtain ⟨m1, m2⟩ := ofa.2.2.2.1 i hi
          have m3 := m2 j hj
          obtain ⟨d, hd⟩ : ∃ d, dgJ 64 (tM N n i j) = d + 1 := ⟨_, rfl⟩
          rw [hd] at m3
          have em3 : Int64.ofNat d = mJ N n i j := by unfold mJ; rw [hd]; rfl
          unfold fX5_applyTo_B16 fX5_applyTo_b16
          rw [T_frJ, T_fr]
          dsimp only
          rw [v_gA ofa.2.2.1, aln_of ey (by decide) (by decide), T_ifn c2, v_gA ofa.1, v_lA m1 (by omega), v_lJ m3 (by omega), c_lJ hCa (by decide) (by decide) (by rw [cl_5]; omega), rowa j (by omega), T_pp, em3]
          exact ⟨_, by rw [nI_succ]; rfl, rfl, rfl⟩
        · obtain ⟨rfl, rfl⟩ := hJ
          have c2 : nI (dim N) ≤ nI (dim N) := nI_le (Nat.le_refl _) (by omega)
          unfold fX5_applyTo_B16 fX5_applyTo_b16
          rw [T_frJ, T_fr]
          dsimp only
          rw [v_gA ofa.2.2.1, aln_of ey (by decide) (by decide), T_ifp c2, T_pp]
          exact ⟨_, rfl, rfl, rfl⟩
      · obtain ⟨rfl, rfl⟩ := p
        rw [v_gA ofa.2.2.1, v_tJ ey hi (by omega), T_pp]
        refine ⟨by rw [nI_succ], hF.J (crI i) List.mem_cons_self, fun j hj => ?_⟩
        have := wr_dig (h := hb) (a := r ((CL N).length + imI N n)) (k := i) (eJ_lt (ap N n g i (dim N))) (nth_lt ey) (r ((CL N).length + imI N n)) j
        unfold wJ
        rw [this]
        by_cases cj : j = i
        · rw [if_pos ⟨rfl, cj⟩, cj]
        · rw [if_neg (fun z => cj z.2)]
          exact hI j (by omega)
    · obtain ⟨hF, hI⟩ := hI
      have ema := emf hF
      have ofa := OpF_of hc r1 ema
      obtain ⟨y, ey⟩ := imn ema
      have c1 : nI (dim N) ≤ nI (dim N) := nI_le (Nat.le_refl _) (by omega)
      unfold fX5_applyTo_B2 fX5_applyTo_b2
      rw [T_fr, v_gA ofa.2.2.1, aln_of ey (by decide) (by decide), T_ifp c1, T_pp]
      exact ⟨_, rfl, hF, hI⟩
  · obtain ⟨hF, hI⟩ := p
    have hC1 := hF.1
    have em1 := emf hF
    have of1 := OpF_of hc r1 em1
    obtain ⟨x, ex⟩ := imn em1
    have s5 : Sh h1 5 18 9 := c_sh hC1 (by decide) (by decide)
    obtain ⟨y, ey, ky⟩ := id s5
    have dx : ∀ i, i < dim N → dg x i = eJ (ap N n g i (dim N)) := by
      intro i hi
      have := hI i hi
      unfold dig at this
      rw [ex] at this
      exact this
    rw [v_gA of1.2.2.1, v_gA of1.2.2.1, aln_of ex (by decide) (by decide)]
    have run : (acp (r ((CL N).length + imI N n)) 0 5 0 (nI (dim N))).1 h1 = some ((), nset h1 5 (18, 9, cpD x y 0 0 (dim N))) := by
      have i0 : aix 0 = some 0 := aix_nI (k := 0) (by decide)
      have i9 : aix (nI (dim N)) = some (dim N) := aix_nI (by omega)
      unfold acp
      rw [i0, i9]
      exact acpF_of ex ey (by omega) (by omega) (knR_of fun i hi => by rw [Nat.zero_add, dx i hi]; exact eJ_0 _)
    have hx := (acp (r ((CL N).length + imI N n)) 0 5 0 (nI (dim N))).2.1 _ _ _ run
    have dd : ∀ c k, dig (nset h1 5 (18, 9, cpD x y 0 0 (dim N))) c k = if c = 5 then (if k < dim N then dg x k else dg y k) else dig h1 c k := by
      intro c k
      rw [dig_nset (nth_lt ey), dg_cpD]
      by_cases cc : c = 5
      · rw [if_pos cc, if_pos cc]
        by_cases ck : k < dim N
        · rw [if_pos ⟨Nat.zero_le _, by omega⟩, if_pos ck, Nat.zero_add, Nat.sub_zero]
        · rw [if_neg (fun z => ck (by have := z.2; omega)), if_neg ck]
      · rw [if_neg cc, if_neg cc]
    have f2 : Fc [5] h1 (nset h1 5 (18, 9, cpD x y 0 0 (dim N))) := by
      refine ⟨⟨Nat.le_trans hC1.1 hx.1, fun c hc => sh_ext (hC1.2.1 c hc) hx, fun c k hk => ?_⟩, hx, fun c k hl hc => ?_, nset_len _ _ _, sl_nset ey rfl⟩
      · have : c ≠ 5 := fun e => hk (by rw [e]; exact cref_row 5 (by decide) (by decide) k)
        rw [dd, if_neg this]
        exact hC1.2.2 c k hk
      · rw [dd, if_neg (fun e => hc (by rw [e]; exact List.mem_singleton.mpr rfl))]
    refine T_call (P := fun _ h' => h' = nset h1 5 (18, 9, cpD x y 0 0 (dim N))) ⟨_, _, run, rfl⟩ fun _ h2 p => ?_
    subst p
    rw [T_pp]
    refine ⟨(hF.sub (fun z hz => by rw [List.mem_singleton.mp hz]; exact List.mem_cons_self)).seq f2 (fun z hz => by rw [List.mem_singleton.mp hz]; exact List.mem_cons_of_mem _ List.mem_cons_self), fun i hi => ?_⟩
    unfold apS
    by_cases ci : i < dim N
    · rw [if_pos ci]
      refine gj_eJ ?_
      rw [dd, if_pos rfl, if_pos ci]
      exact dx i ci
    · rw [if_neg ci]
      have e1 : gj h1 5 i = g i := by
        rw [fc_gj hF hC (by decide) (fun z => by have := List.mem_singleton.mp z; omega)]
        exact row i hi
      rw [← e1]
      unfold gj
      rw [dd, if_pos rfl, if_neg ci]
      unfold dig
      rw [ey]
theorem C_applyOp {st : St} {g : Sg} (hb : bu ≤ 100000) (n : Int32) (q : CR bu h st) (s4 : SAt h 4 g) : T (fX8_applyOperator 4 n) h (fun v h' => Kp h h' ∧ CR bu h' st ∧ v = opv (o_apply n g) g.1 ∧ ((o_apply n g).1 = 0 → SAt h' 4 (g.1, (o_apply n g).2))) := by
  have hC := q.1
  obtain ⟨a, e0, la, lv, row⟩ := id s4
  have w1 := lv.1
  have w2 := lv.2.1
  unfold fX8_applyOperator o_apply co
  rw [c_chk hC (by decide) (by decide)]
  refine T_call (c_within _ _ _) fun v h1 p => ?_
  obtain ⟨rfl, rfl⟩ := p
  rw [show (1 : Int32).toInt = 1 from by decide, show (7 : Int32).toInt = 7 from by decide]
  by_cases r : rg n 1 7
  · rw [if_pos r, T_ifn (by decide), if_pos r, t_gA (c_sh hC (by decide) (by decide) : Sh h1 4 7 (clen 4)) (by decide) e0]
    refine T_call (C_operatorFor hb w1 w2 q lv.2.2.1 n) fun v h4 p => ?_
    obtain ⟨q4, ⟨s5, k5⟩, ea, ⟨-, gg, o, pp', rfl, e15, epn⟩ | ⟨nn, rfl, rfl⟩⟩ := p
    · have hc := q_gcd w1 w2 r gg
      have hC4 := q4.1
      obtain ⟨w, mk, md, p2, p4, p5, p3, p6, o1, o2, orr⟩ := or_get q4 hc ea e15 epn
      have wo := or_w orr
      obtain ⟨mo, yo, eo⟩ := or_tag orr
      obtain ⟨-, rr, r0, rL, r27, rinj, rb, em, hwr, c1, c2⟩ := id orr
      obtain ⟨a', e0', la', lv', row'⟩ := s5 g s4
      have row5 : ∀ i, i < 9 → gj h4 5 i = g.2 i := row'
      dsimp only
      rw [if_pos gg, if_pos rfl, c_gA hC4 (by decide) (by decide), cr_4_1]
      refine T_call (c_applyTo hC4 hc rL r27 rinj em row5) fun _ h5 p => ?_
      obtain ⟨f, row2⟩ := p
      have i27 := r27 ((CL g.1).length + imI g.1 (ti n))
      have wim : w (rr ((CL g.1).length + imI g.1 (ti n))) = 8 * g.1 + ti n := by
        refine hwr _ (Nat.le_add_right _ _) ?_
        obtain ⟨-, -, xi, ei⟩ := oc_f hc
        have := nth_lt ei
        omega
      obtain ⟨yi, ei, -⟩ := em ((CL g.1).length + imI g.1 (ti n)) 18 (dim g.1) 1 (by rw [nth_app_right (Nat.le_add_right _ _), Nat.add_sub_cancel_left]; exact om_im hc)
      have hin : ∀ x, x ∈ [rr ((CL g.1).length + imI g.1 (ti n)), 5] → x = rr ((CL g.1).length + imI g.1 (ti n)) ∨ x = 5 := by
        intro x hx
        rcases List.mem_cons.mp hx with z | z
        · exact Or.inl z
        · exact Or.inr (List.mem_singleton.mp z)
      have u0 := f.up
      have hcl : ChL (fun a _ => a ∈ [rr ((CL g.1).length + imI g.1 (ti n)), 5]) h4 := by
        intro x k z
        rcases hin x z with y | y
        · exact Or.inr ⟨by omega, by rw [y]; exact ⟨_, ei, show mtT 18 = true by decide⟩⟩
        · exact Or.inl ⟨by omega, fun y2 => by omega⟩
      have n8 : ti n < 8 := by have := hc.2.2.2.1; omega
      have N25 := hc.2.1
      have oim : o ≠ rr ((CL g.1).length + imI g.1 (ti n)) := by
        intro z
        rw [← z, eo] at ei
        cases ei
      have or2 : OrAt h5 w a o g.1 (ti n) := by
        refine ⟨hc, rr, r0, rL, r27, rinj, rb, em_im hc r27 rinj em u0 (fun x k z => hin x z), hwr, ?_, ?_⟩
        · refine c1.up u0 (fun _ _ => rfl) (fun z => ?_) (fun c j m x1 x2 x3 x4 z => ?_)
          · rcases hin _ z with y | y
            · exact oim y
            · omega
          · rcases hin _ z with y | y
            · exact x3 y
            · omega
        · refine c2.up u0 (fun _ _ => rfl) (fun z => ?_) (fun c j m x1 x2 x3 x4 z => ?_)
          · rcases hin _ z with y | y
            · exact oim y
            · omega
          · rcases hin _ z with y | y
            · exact x3 y
            · omega
      have pim : pp' ≠ rr ((CL g.1).length + imI g.1 (ti n)) := by
        intro z
        rw [z, wim] at p4
        omega
      have npp : ∀ k, ¬ ((fun a _ => a ∈ [rr ((CL g.1).length + imI g.1 (ti n)), 5]) : Nat → Nat → Prop) pp' k := by
        intro k z
        rcases hin _ z with y | y
        · exact pim y
        · omega
      have na : ∀ k, ¬ ((fun a _ => a ∈ [rr ((CL g.1).length + imI g.1 (ti n)), 5]) : Nat → Nat → Prop) a k := md.1.nCh hcl
      have key : ∀ n', n' < 8 → n' ≠ ti n → OpS h5 w a pp' g.1 n' ∧ opP h5 pp' n' = opP h4 pp' n' := fun n' x1 x2 => OpS.up (p6 n' x1) u0 hcl (fun _ _ => rfl) (npp n') (fun x k z z2 => by
        rcases hin _ z with y | y
        · rw [y, wim]
          omega
        · omega)
      have e15' : dig h5 a 15 = pp' + 2 := u0.kn e15 (na 15)
      have epn' : dig h5 pp' (ti n) = o + 2 := u0.kn epn (npp (ti n))
      have ea' : dig h5 1 g.1 = a + 2 := u0.kn ea (fun z => by
        rcases hin _ z with y | y
        · omega
        · omega)
      have lo := or_lt orr
      have no3 : ∀ k, dig h5 o k = dig h4 o k := fun k => u0.2.2 o k lo (fun z => by
        rcases hin _ z with y | y
        · exact oim y
        · omega)
      have md' : MdAt h5 w a g.1 := by
        refine ⟨md.1.up u0 hcl, md.2.1, md.2.2.1, pp', e15', p2, p3, p4, sh_ext p5 u0.2.1, fun n' x1 => ?_⟩
        by_cases c : n' = ti n
        · subst c
          exact Or.inr ⟨o, epn', o1, o2, or2⟩
        · exact (key n' x1 c).1
      have lvp : lvP h5 g.1 = lvP h4 g.1 + 0 := by
        rw [lvP_made ea' e15', lvP_made ea e15, sumN_ext 8 (fun i hi => ?_)]
        · rfl
        · by_cases c : i = ti n
          · rw [c]
            exact opP_same (by rw [epn', epn]) (fun o' z => by
              have : o = o' := by omega
              rw [← this]
              exact ⟨no3 3, no3 4⟩) (Or.inr ⟨o, epn⟩)
          · exact (key i hi c).2
      have mm := q4.2.2.2.2.2.2.2.2.1.1
      have mu5 : mu h5 = mu h4 := by unfold mu; rw [f.2.2.2.1, f.2.2.2.2]
      have mk' : MK (bu + 0) h5 := MK_step (c := 0) (d := 0) mk mm u0 hcl (fun _ _ => rfl) w1 w2 (fun k z => by
        rcases hin _ z with y | y
        · omega
        · omega) (fun x k z z2 => Or.inr ⟨ti n, n8, by
          rcases hin _ z with y | y
          · rw [y]; exact wim
          · omega⟩) ea' md' lvp (by omega)
      have sA : SAt h5 4 (g.1, apS g.1 (ti n) g.2) := by
        refine ⟨a', u0.kn e0' (fun z => ?_), la', lv'.up u0 hcl, row2⟩
        rcases hin _ z with y | y
        · omega
        · omega
      have q5 : CR bu h5 st := q4.up u0 hcl (fun x k z z2 => by
        rcases hin _ z with y | y
        · omega
        · exact Or.inr y) mk' ⟨_, sA⟩
      refine T_call (c_verdict f.1 sA) fun v h6 p => ?_
      obtain ⟨rfl, rfl⟩ := p
      rw [T_pp]
      refine ⟨k5.tr (u0.kp hC4 (fun x k z => by
        rcases hin _ z with y | y
        · omega
        · omega)), q5, ?_, fun _ => sA⟩
      unfold opv
      dsimp only
      by_cases co : okB g.1 (apS g.1 (ti n) g.2) = true
      · rw [if_pos co, if_pos co, if_pos rfl]
      · rw [if_neg co, if_neg co, if_neg (by decide)]
    · have g1 : ¬ Nat.gcd (ti n) g.1 = 1 := fun z => nn ⟨r, z⟩
      dsimp only
      rw [if_neg g1, if_neg (by decide), T_pp]
      exact ⟨k5, q4, rfl, fun z => by cases z⟩
  · rw [if_neg r, T_ifp rfl, if_neg r, if_neg (by decide), T_pp]
    exact ⟨Kp.rf _, q, rfl, fun z => by cases z⟩
theorem C_applies {st : St} (hb : bu ≤ 100000) (n : Int32) (q : CR bu h st) : T (fX9_applies 0 n) h (fun r h' => r = (q_do (o_apply n st.1) st).1 ∧ CR bu h' (q_do (o_apply n st.1) st).2) := by
  have hC := q.1
  have ho := oOK_apply n st.1
  unfold fX9_applies
  rw [c_chk hC (by decide) (by decide), c_gA hC (by decide) (by decide), cr_0_2, c_gA hC (by decide) (by decide), cr_0_1]
  refine T_call (C_try q) fun _ h1 p => ?_
  obtain ⟨q1, s1⟩ := p
  have hC1 := q1.1
  rw [c_gA hC1 (by decide) (by decide), cr_0_2]
  refine T_call (C_applyOp hb n q1 s1) fun r h2 p => ?_
  obtain ⟨-, q2, rfl, hs⟩ := p
  generalize o_apply n st.1 = o at *
  have wz := ho.2 q2.2.1.2.2
  have w1 := q2.2.1.1
  have w2 := q2.2.1.2.1
  have n := tb_n w1 w2
  unfold q_do opv
  by_cases c : o.1 = 0
  · rw [if_pos c, if_pos c]
    have e16 : cnz o.2 16 = cnz o.2 (dim st.1.1) := by
      have := cnz_ext wz (16 - dim st.1.1)
      rw [show dim st.1.1 + (16 - dim st.1.1) = 16 by omega] at this
      exact this
    have hx : (0 : Int32) ≤ nI (cnz o.2 (dim st.1.1)) := nI_le (Nat.zero_le _) (by have := cnz_le o.2 (dim st.1.1); omega)
    refine T_call (C_settle q2 (hs c) ⟨w1, w2, wz⟩ hx) fun v h3 p => ?_
    rw [T_pp, e16]
    exact p
  · rw [if_neg c, if_neg c]
    unfold fX9_settle
    by_cases c2 : o.1 = -2
    · rw [if_pos c2, c2]
      refine T_call (P := fun v h' => v = -2 ∧ CR bu h' (rf2 st)) ?_ fun v h3 p => by rw [T_pp]; exact p
      rw [c_chk q2.1 (by decide) (by decide), T_ifn (by decide)]
      refine T_call (C_ref2 q2) fun v h3 p => by rw [T_pp]; exact p
    · have c3 : o.1 = -3 := by
        rcases ho.1 with z | z | z
        · exact absurd z c
        · exact absurd z c2
        · exact z
      rw [if_neg c2, c3]
      refine T_call (P := fun v h' => v = -3 ∧ CR bu h' (rf3 st)) ?_ fun v h3 p => by rw [T_pp]; exact p
      rw [c_chk q2.1 (by decide) (by decide), T_ifn (by decide)]
      refine T_call (C_ref3 q2) fun v h3 p => by rw [T_pp]; exact p
end C30
