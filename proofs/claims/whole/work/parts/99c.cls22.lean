/-! formula: the values of new that are kept -/
def TDv : List Nat := [0, 1, 2, 2, 3, 2, 4, 2, 4, 3, 4, 2, 6, 2, 4, 4, 5, 2, 6, 2, 6, 4, 4, 2, 8, 3, 4, 4, 6, 2, 8, 2, 6, 4, 4, 4, 9, 2, 4, 4, 8, 2, 8, 2, 6, 6, 4, 2, 10, 3, 6, 4, 6, 2, 8, 4, 8, 4, 4, 2, 12]
noncomputable def tdv (m : Nat) : Nat := ntn TDv m
theorem crun_dv : allN 61 (fun m => Nat.beq m 0 || runW (fX1_divisors (nI m)) [] (fun v g => eqI v (tdv m) && Nat.beq g.length 0)) = true := by decide +kernel
noncomputable def ofS (m : Nat) : Nat → Nat := @Nat.rec (fun _ => Nat) 0 (fun t ih => bif Nat.ble 1 t && Nat.beq (m % t) 0 then ih + tfW t * tdv (m / t) else ih)
theorem ofS_s (m t : Nat) (ht : 1 ≤ t) : ofS m (t + 1) = if m % t = 0 then ofS m t + tfW t * tdv (m / t) else ofS m t := by
  show (bif Nat.ble 1 t && Nat.beq (m % t) 0 then ofS m t + tfW t * tdv (m / t) else ofS m t) = _
  rw [Nat.ble_eq_true_of_le ht, Bool.true_and]
  by_cases c : m % t = 0
  · rw [if_pos c, c]
    rfl
  · rw [if_neg c]
    cases e : Nat.beq (m % t) 0 with
    | false => rfl
    | true => exact absurd (Nat.eq_of_beq_eq_true e) c
theorem ofS_all : allN 61 (fun m => Nat.beq m 0 || Nat.beq (ofS m m + tfW m) (tfF m)) = true := by decide +kernel
theorem tfW_all : allN 61 (fun m => Nat.ble (tfW m) 10) = true := by decide +kernel
section C22
variable {h h' : PH} {N bu : Nat}
theorem nw_at {m : Nat} (q : NwAt h) (hm : m < 61) : gi h 26 m = -1 ∨ (1 ≤ m ∧ gi h 26 m = nI (tfW m)) := by
  rcases q m hm with e | ⟨e1, e2⟩
  · exact Or.inl e
  · exact Or.inr ⟨e1, ofI' e2⟩
theorem nw_of {m : Nat} (hm : m < 61) (e : gi h 26 m = nI (tfW m)) : eqI (gi h 26 m) (tfW m) = true := by
  have := Nat.le_of_ble_eq_true (allN_at tfW_all m hm)
  rw [e]
  unfold eqI
  rw [pk_tn (by omega)]
  exact Nat.beq_refl _
theorem c_oldForms {m : Nat} (hC : CW h) (h1 : 1 ≤ m) (h2 : m ≤ 60) (hn : ∀ t, 1 ≤ t → t < m → m % t = 0 → gi h 26 t = nI (tfW t)) : T (fX1_oldForms 25 (nI m)) h (fun v h' => h' = h ∧ v = nI (ofS m m)) := by
  unfold fX1_oldForms
  rw [c_chk hC (by decide) (by decide)]
  refine T_call (P := fun z h' => h' = h ∧ z = nI (ofS m m)) ?_ fun z h1 p => by rw [T_pp]; exact p
  refine T_forS m (fun t v h' => 1 ≤ t ∧ h' = h ∧ v = nI (ofS m t)) (fun i v ha hi hI => ?_) (fun v ha hI => ?_) (by omega) (i0 := 1) h1 ⟨Nat.le_refl _, rfl, ?_⟩
  · obtain ⟨i1, rfl, rfl⟩ := hI
    have c1 : ¬ nI m ≤ nI i := nI_ge hi (by omega)
    have c2 : ¬ nI i = 0 := nI_ne0 (by omega) (by omega)
    unfold fX1_oldForms_B4 fX1_oldForms_b4
    rw [T_fr, T_fr]
    dsimp only
    rw [T_ifn c1, T_ifn c2, pk_rem (by omega) (by omega) (by omega)]
    by_cases c : m % i = 0
    · have c3 : nI (m % i) = 0 := by rw [c]; rfl
      rw [T_ifp c3, c_gA hC (by decide) (by decide), cr_25_0, c_lI hC (by decide) (by decide) (by rw [cl_26]; omega), hn i i1 hi c, T_ifn c2, pk_div (by omega) (by omega) (by omega)]
      have l1 : 1 ≤ m / i := Nat.div_pos (by omega) (by omega)
      have l2 : m / i ≤ 60 := Nat.le_trans (Nat.div_le_self m i) h2
      refine T_call (T_pureI (at61 crun_dv l1 l2)) fun v h3 p => ?_
      obtain ⟨rfl, rfl⟩ := p
      rw [T_pp]
      refine ⟨_, by rw [nI_succ], by omega, rfl, ?_⟩
      rw [ofS_s m i i1, if_pos c, pk_mul, nI_add]
    · have l3 := Nat.mod_lt m (show i > 0 by omega)
      have c3 : ¬ nI (m % i) = 0 := nI_ne0 (by omega) (by omega)
      rw [T_ifn c3, T_pp]
      refine ⟨_, by rw [nI_succ], by omega, rfl, ?_⟩
      rw [ofS_s m i i1, if_neg c]
  · obtain ⟨i1, rfl, rfl⟩ := hI
    have c1 : nI m ≤ nI m := nI_le (Nat.le_refl _) (by omega)
    unfold fX1_oldForms_B4 fX1_oldForms_b4
    rw [T_fr, T_fr]
    dsimp only
    rw [T_ifp c1, T_pp]
    exact ⟨_, rfl, rfl, rfl⟩
  · rfl
theorem c_newForms {m : Nat} (hC : CW h) (h1 : 1 ≤ m) (h2 : m ≤ 60) (hn : NwAt h) : T (fX1_newForms 25 (nI m)) h (fun v h' => v = nI (tfW m) ∧ Fc [26] h h' ∧ NwAt h') := by
  unfold fX1_newForms
  rw [c_chk hC (by decide) (by decide)]
  refine T_call (P := fun _ h' => Fc [26] h h' ∧ NwAt h' ∧ ∀ t, 1 ≤ t → t < m + 1 → m % t = 0 → gi h' 26 t = nI (tfW t)) ?_ fun z ha p => ?_
  · refine T_for (m + 1) (fun t h' => 1 ≤ t ∧ Fc [26] h h' ∧ NwAt h' ∧ ∀ u, 1 ≤ u → u < t → m % u = 0 → gi h' 26 u = nI (tfW u)) (fun i ha hi hI => ?_) (fun ha hI => ?_) (by omega) (i0 := 1) (by omega) ⟨Nat.le_refl _, Fc.rf hC _, hn, fun u x1 x2 => by omega⟩
    · obtain ⟨i1, hF, hN, hI⟩ := hI
      have hCa := hF.1
      have c1 : ¬ nI m < nI i := nI_nlt (by omega) (by omega)
      have c2 : ¬ nI i = 0 := nI_ne0 (by omega) (by omega)
      have nx : (m % i = 0 → gi ha 26 i = nI (tfW i)) → ∀ u, 1 ≤ u → u < i + 1 → m % u = 0 → gi ha 26 u = nI (tfW u) := by
        intro z u u1 u2 u3
        by_cases cu : u = i
        · rw [cu]
          rw [cu] at u3
          exact z u3
        · exact hI u u1 (by omega) u3
      unfold fX1_newForms_B2 fX1_newForms_b2
      rw [T_fr, T_ifn c1, T_ifn c2, pk_rem (by omega) (by omega) (by omega)]
      by_cases c : m % i = 0
      · have c3 : nI (m % i) = 0 := by rw [c]; rfl
        rw [T_ifp c3, c_gA hCa (by decide) (by decide), cr_25_0, c_lI hCa (by decide) (by decide) (by rw [cl_26]; omega)]
        by_cases c4 : gi ha 26 i = -1
        · rw [T_ifp c4, c_gA hCa (by decide) (by decide), cr_25_0]
          refine T_call (T_pureI (at61 crun_fF i1 (by omega))) fun v hb p => ?_
          obtain ⟨rfl, rfl⟩ := p
          refine T_call (c_oldForms hCa i1 (by omega) (fun u u1 u2 u3 => hI u u1 u2 ?_)) fun v hc p => ?_
          · have d1 : u ∣ i := Nat.dvd_of_mod_eq_zero u3
            have d2 : i ∣ m := Nat.dvd_of_mod_eq_zero c
            exact Nat.mod_eq_zero_of_dvd (Nat.dvd_trans d1 d2)
          · obtain ⟨rfl, rfl⟩ := p
            have e := Nat.eq_of_beq_eq_true (at61 ofS_all i1 (by omega))
            have ev : nI (tfF i) - nI (ofS i i) = nI (tfW i) := by
              rw [pk_sub (by omega), show tfF i - ofS i i = tfW i by omega]
            rw [ev, c_tI hCa (by decide) (by decide) (by rw [cl_26]; omega), T_pp]
            have gg : ∀ u, gi (wI hc 26 i (nI (tfW i))) 26 u = if u = i then nI (tfW i) else gi hc 26 u := by
              intro u
              rw [gi_wIc hCa (by decide)]
              by_cases cu : u = i
              · rw [if_pos ⟨rfl, cu⟩, if_pos cu]
              · rw [if_neg (fun z => cu z.2), if_neg cu]
            refine ⟨by rw [nI_succ], by omega, hF.I rfl (by decide), fun u hu => ?_, fun u u1 u2 u3 => ?_⟩
            · by_cases cu : u = i
              · refine Or.inr ⟨by omega, nw_of hu ?_⟩
                rw [gg, if_pos cu, cu]
              · rw [gg, if_neg cu]
                exact hN u hu
            · rw [gg]
              by_cases cu : u = i
              · rw [if_pos cu, cu]
              · rw [if_neg cu]
                exact hI u u1 (by omega) u3
        · rw [T_ifn c4, T_pp]
          refine ⟨by rw [nI_succ], by omega, hF, hN, nx fun _ => ?_⟩
          rcases nw_at hN (show i < 61 by omega) with e | ⟨-, e⟩
          · exact absurd e c4
          · exact e
      · have l3 := Nat.mod_lt m (show i > 0 by omega)
        have c3 : ¬ nI (m % i) = 0 := nI_ne0 (by omega) (by omega)
        rw [T_ifn c3, T_pp]
        exact ⟨by rw [nI_succ], by omega, hF, hN, nx fun z => absurd z c⟩
    · obtain ⟨i1, hF, hN, hI⟩ := hI
      have c1 : nI m < nI (m + 1) := nI_lt (by omega) (by omega)
      unfold fX1_newForms_B2 fX1_newForms_b2
      rw [T_fr, T_ifp c1, T_pp]
      exact ⟨_, rfl, hF, hN, hI⟩
  · obtain ⟨hF, hN, hI⟩ := p
    rw [c_gA hF.1 (by decide) (by decide), cr_25_0, c_lI hF.1 (by decide) (by decide) (by rw [cl_26]; omega), hI m h1 (by omega) (Nat.mod_self m), T_pp]
    exact ⟨rfl, hF, hN⟩
theorem C_formula {st : St} (m w : Int32) (q : CR bu h st) : T (fX9_formula 0 m w) h (fun v h' => v = (q_formula m w st).1 ∧ CR bu h' (q_formula m w st).2) := by
  have hC := q.1
  have lit : ∀ n, n < 6 → w = nI n → rg w 0 5 ∧ ti w = n := by
    intro n hn e
    have e2 : w.toInt = (n : Int) := by rw [e]; exact nI_toInt (by omega)
    refine ⟨⟨by omega, by omega⟩, ?_⟩
    unfold ti
    omega
  unfold fX9_formula q_formula
  rw [c_chk hC (by decide) (by decide)]
  refine T_call (c_within _ _ _) fun v h1 p => ?_
  obtain ⟨rfl, rfl⟩ := p
  rw [show (1 : Int32).toInt = 1 from by decide, show (60 : Int32).toInt = 60 from by decide]
  by_cases r : rg m 1 60
  · obtain ⟨em, x1, x2⟩ := rg_nI r (by decide)
    have m1 : 1 ≤ ti m := by omega
    have m2 : ti m ≤ 60 := by omega
    rw [if_pos r, T_ifn (by decide)]
    by_cases c0 : w = 0
    · obtain ⟨rr, t⟩ := lit 0 (by decide) c0
      rw [if_pos (And.intro r rr), t, T_ifp c0, em]
      refine T_call (T_pureI (at61 crun_fI m1 m2)) fun v h3 p => ?_
      obtain ⟨rfl, rfl⟩ := p
      rw [T_pp, ← em]
      exact ⟨rfl, q⟩
    by_cases c1 : w = 1
    · obtain ⟨rr, t⟩ := lit 1 (by decide) c1
      rw [if_pos (And.intro r rr), t, T_ifn c0, T_ifp c1, em]
      refine T_call (T_pureI (at61 crun_f2 m1 m2)) fun v h3 p => ?_
      obtain ⟨rfl, rfl⟩ := p
      rw [T_pp, ← em]
      exact ⟨rfl, q⟩
    by_cases c2 : w = 2
    · obtain ⟨rr, t⟩ := lit 2 (by decide) c2
      rw [if_pos (And.intro r rr), t, T_ifn c0, T_ifn c1, T_ifp c2, em]
      refine T_call (T_pureI (at61 crun_f3 m1 m2)) fun v h3 p => ?_
      obtain ⟨rfl, rfl⟩ := p
      rw [T_pp, ← em]
      exact ⟨rfl, q⟩
    by_cases c3 : w = 3
    · obtain ⟨rr, t⟩ := lit 3 (by decide) c3
      rw [if_pos (And.intro r rr), t, T_ifn c0, T_ifn c1, T_ifn c2, T_ifp c3, em]
      refine T_call (T_pureI (at61 crun_fE m1 m2)) fun v h3 p => ?_
      obtain ⟨rfl, rfl⟩ := p
      rw [T_pp, ← em]
      exact ⟨rfl, q⟩
    by_cases c4 : w = 4
    · obtain ⟨rr, t⟩ := lit 4 (by decide) c4
      rw [if_pos (And.intro r rr), t, T_ifn c0, T_ifn c1, T_ifn c2, T_ifn c3, T_ifp c4, em]
      refine T_call (T_pureI (at61 crun_fF m1 m2)) fun v h3 p => ?_
      obtain ⟨rfl, rfl⟩ := p
      rw [T_pp, ← em]
      exact ⟨rfl, q⟩
    by_cases c5 : w = 5
    · obtain ⟨rr, t⟩ := lit 5 (by decide) c5
      rw [if_pos (And.intro r rr), t, T_ifn c0, T_ifn c1, T_ifn c2, T_ifn c3, T_ifn c4, T_ifp c5, c_gA hC (by decide) (by decide), cr_0_5, em]
      obtain ⟨-, a1, a2, ⟨g, a3⟩, a4, a5, a6, a7, a8, a9⟩ := q
      refine T_call (c_newForms hC m1 m2 a9) fun v h3 p => ?_
      obtain ⟨rfl, f, nw⟩ := p
      rw [T_pp, ← em]
      exact ⟨rfl, f.1, a1, a2.fc hC f (Or.inl rfl) (by decide) (by decide) (by decide), ⟨g, a3.fc hC f (Or.inr (Or.inl rfl)) (by decide) (by decide) (by decide)⟩, a4.fc2 hC f (by decide), a5, CTx.fr a6 hC f (by decide) (by decide), a7.fc hC f (by decide), a8.fc f hC (by decide), nw⟩
    have nr : ¬ rg w 0 5 := by
      intro r
      obtain ⟨e, x1, x2⟩ := rg_nI r (by decide)
      have : ti w = 0 ∨ ti w = 1 ∨ ti w = 2 ∨ ti w = 3 ∨ ti w = 4 ∨ ti w = 5 := by omega
      rcases this with z | z | z | z | z | z <;> rw [z] at e
      · exact c0 e
      · exact c1 e
      · exact c2 e
      · exact c3 e
      · exact c4 e
      · exact c5 e
    have nn : ¬ (rg m 1 60 ∧ rg w 0 5) := fun z => nr z.2
    rw [if_neg nn, T_ifn c0, T_ifn c1, T_ifn c2, T_ifn c3, T_ifn c4, T_ifn c5]
    refine T_call (C_ref2 q) fun v h2 p => ?_
    rw [T_pp]
    exact p
  · have nn : ¬ (rg m 1 60 ∧ rg w 0 5) := fun z => r z.1
    rw [if_neg r, if_neg nn, T_ifp rfl]
    refine T_call (C_ref2 q) fun v h2 p => ?_
    rw [T_pp]
    exact p
/-! digest -/
theorem told_tv {w : Nat} (hw : w < 6) (st : St) : q_told (nI w) st = (tv st w, st) := by
  have e : (nI w).toInt = (w : Int) := nI_toInt (by omega)
  have r : rg (nI w) 0 5 := ⟨by omega, by omega⟩
  have t : ti (nI w) = w := by unfold ti; omega
  unfold q_told
  rw [if_pos r, t]
  rfl
theorem space_spv {w : Nat} (hw : w < 3) (st : St) : q_space (nI w) st = (spv st.1.1 w, st) := by
  have e : (nI w).toInt = (w : Int) := nI_toInt (by omega)
  have r : rg (nI w) 0 3 := ⟨by omega, by omega⟩
  have t : ti (nI w) = w := by unfold ti; omega
  unfold q_space
  rw [if_pos r, t]
theorem C_digest {st : St} (q : CR bu h st) : T (fX9_digest 0) h (fun v h' => v = (q_digest st).1 ∧ CR bu h' (q_digest st).2) := by
  have hC := q.1
  have n := tb_n q.2.1.1 q.2.1.2.1
  unfold fX9_digest q_digest
  rw [c_chk hC (by decide) (by decide)]
  refine T_call (P := fun v h' => CR bu h' st ∧ v = dgA st 6) ?_ fun v h1 p => ?_
  · refine T_forS 6 (fun m v h' => CR bu h' st ∧ v = dgA st m) (fun i v ha hi hI => ?_) (fun v ha hI => ?_) (by decide) (i0 := 0) (by decide) ⟨q, rfl⟩
    · obtain ⟨qa, rfl⟩ := hI
      have c1 : ¬ nI 5 < nI i := nI_nlt (by omega) (by decide)
      unfold fX9_digest_B6 fX9_digest_b6
      rw [T_frJ, T_fr]
      dsimp only
      rw [li_5, T_ifn c1]
      refine T_call (C_told (nI i) qa) fun v hb p => ?_
      rw [told_tv hi] at p
      obtain ⟨rfl, qb⟩ := p
      rw [T_pp]
      exact ⟨_, by rw [nI_succ]; rfl, qb, rfl⟩
    · obtain ⟨qa, rfl⟩ := hI
      unfold fX9_digest_B6 fX9_digest_b6
      rw [T_frJ, T_fr]
      dsimp only
      rw [T_ifp (by decide), T_pp]
      exact ⟨_, rfl, qa, rfl⟩
  obtain ⟨q1, rfl⟩ := p
  refine T_call (C_symbols q1) fun v h2 p => ?_
  obtain ⟨rfl, q2⟩ := p
  have q2 : CR bu h2 st := q2
  refine T_call (P := fun v h' => CR bu h' st ∧ v = dgB (31 * dgA st 6 + (nI (cnt st.1.1)).toInt64) st.1.1 3) ?_ fun v h3 p => ?_
  · refine T_forS 3 (fun m v h' => CR bu h' st ∧ v = dgB (31 * dgA st 6 + (nI (cnt st.1.1)).toInt64) st.1.1 m) (fun i v ha hi hI => ?_) (fun v ha hI => ?_) (by decide) (i0 := 0) (by decide) ⟨q2, rfl⟩
    · obtain ⟨qa, rfl⟩ := hI
      have c1 : ¬ nI 2 < nI i := nI_nlt (by omega) (by decide)
      unfold fX9_digest_B44 fX9_digest_b44
      rw [T_frJ, T_fr]
      dsimp only
      rw [li_2, T_ifn c1]
      refine T_call (C_space (nI i) qa) fun v hb p => ?_
      rw [space_spv hi] at p
      obtain ⟨rfl, -, qb⟩ := p
      rw [T_pp]
      exact ⟨_, by rw [nI_succ]; rfl, qb, rfl⟩
    · obtain ⟨qa, rfl⟩ := hI
      unfold fX9_digest_B44 fX9_digest_b44
      rw [T_frJ, T_fr]
      dsimp only
      rw [T_ifp (by decide), T_pp]
      exact ⟨_, rfl, qa, rfl⟩
  obtain ⟨q3, rfl⟩ := p
  generalize dgB (31 * dgA st 6 + (nI (cnt st.1.1)).toInt64) st.1.1 3 = x
  refine T_call (P := fun v h' => CR bu h' st ∧ v = dgC x st.1.2 (dim st.1.1)) ?_ fun v h4 p => ?_
  · refine T_forS (dim st.1.1) (fun m v h' => CR bu h' st ∧ v = dgC x st.1.2 m) (fun i v ha hi hI => ?_) (fun v ha hI => ?_) (by omega) (i0 := 0) (by omega) ⟨q3, rfl⟩
    · obtain ⟨qa, rfl⟩ := hI
      obtain ⟨a, e0, la, lv, row⟩ := qa.2.2.1
      obtain ⟨F, X, lf⟩ := lv.f
      have c1 : ¬ nI (dim st.1.1) ≤ nI i := nI_ge hi (by omega)
      have ei : (nI i).toInt = (i : Int) := nI_toInt (by omega)
      have ri : rg (nI i) 0 ((dim st.1.1 : Int) - 1) := ⟨by omega, by omega⟩
      have tn : ti (nI i) = i := by unfold ti; omega
      have e1 : ∀ k, Int32.ofNat k = nI k := fun _ => rfl
      have s0 : q_sum (nI i) 0 st = (st.1.2 i, st) := by
        unfold q_sum
        rw [if_pos ⟨ri, by decide, by decide⟩, tn]
        rfl
      have s1 : q_sum (nI i) 1 st = (1, st) := by
        unfold q_sum
        rw [if_pos ⟨ri, by decide, by decide⟩]
        rfl
      unfold fX9_digest_B70 fX9_digest_b70
      rw [T_frJ, T_fr]
      dsimp only
      rw [c_gA qa.1 (by decide) (by decide), cr_0_1, t_gA (c_sh qa.1 (by decide) (by decide) : Sh ha 2 7 (clen 2)) (by decide) e0, v_gI lf.2.2.2.1, e1, T_ifn c1]
      refine T_call (C_sum (nI i) 0 qa) fun v hb p => ?_
      rw [s0] at p
      obtain ⟨rfl, qb⟩ := p
      refine T_call (C_sum (nI i) 1 qb) fun v hc p => ?_
      rw [s1] at p
      obtain ⟨rfl, qc⟩ := p
      rw [T_pp]
      exact ⟨_, by rw [nI_succ]; rfl, qc, rfl⟩
    · obtain ⟨qa, rfl⟩ := hI
      obtain ⟨a, e0, la, lv, row⟩ := qa.2.2.1
      obtain ⟨F, X, lf⟩ := lv.f
      have c1 : nI (dim st.1.1) ≤ nI (dim st.1.1) := nI_le (Nat.le_refl _) (by omega)
      have e1 : ∀ k, Int32.ofNat k = nI k := fun _ => rfl
      unfold fX9_digest_B70 fX9_digest_b70
      rw [T_frJ, T_fr]
      dsimp only
      rw [c_gA qa.1 (by decide) (by decide), cr_0_1, t_gA (c_sh qa.1 (by decide) (by decide) : Sh ha 2 7 (clen 2)) (by decide) e0, v_gI lf.2.2.2.1, e1, T_ifp c1, T_pp]
      exact ⟨_, rfl, qa, rfl⟩
  obtain ⟨q4, rfl⟩ := p
  refine T_call (C_cuspidal q4) fun v h5 p => ?_
  obtain ⟨rfl, q5⟩ := p
  rw [T_pp]
  exact ⟨rfl, q5⟩
end C22
