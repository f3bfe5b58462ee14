section S12
variable {h h' : PH} {N : Nat}
noncomputable def cW (N n k : Nat) : Int64 := Int64.ofNat (dgJ 1099511627776 (tW N n k) - 1)
noncomputable def cV (N n k : Nat) : Int64 := Int64.ofNat (dgJ 1099511627776 (tV N n k) - 1)
noncomputable def trv (N n w : Nat) : Int64 := if w = 0 then Int64.ofNat (dgJ 1024 (ttW N n) - 1) else Int64.ofNat (dgJ 1024 (ttV N n) - 1)
theorem of_eJ {v : Int64} {e : Nat} (q : eJ v = e) : v = Int64.ofNat (e - 1) := by
  rw [← q]
  exact (ofJ v).symm
/-! trace -/
noncomputable def q_trace (n w : Int32) (st : St) : Int64 × St := if rg n 1 7 ∧ rg w 0 1 then (if Nat.gcd (ti n) st.1.1 = 1 then (trv st.1.1 (ti n) (ti w), st) else (-9998, rf3 st)) else (-9999, rf2 st)
theorem m_trd {d : Nat} (hd : d ≤ 9) {A : Nat → Nat → Int64} (hM : MW h) (hA : TabAt h d A) : T (pb (plo (fX10_trace_B66 0) fu (nI 0)) fun _ => pb (fX10_diagonal 0) fun v => pp v) h (fun v h' => Fr [30, 31, 105, 106] h h' ∧ v = dsum (fun k => A k k) d) := by
  refine T_call (m_copyNext hM) fun _ h1 p => ?_
  obtain ⟨f1, p1⟩ := p
  have hA1 := hA.fr f1 (by decide) (by decide) (by decide)
  refine T_call (m_diagonal f1.1 hd hA1.1 (D := fun k => A k k) (fun k hk => ?_)) fun v h2 p => ?_
  · have a := p1 (17 * k) (by omega)
    have b := hA.2 k k hk hk
    rw [show 16 * k + k = 17 * k by omega] at b
    rw [a.1, a.2]
    exact b
  · rw [T_pp]
    exact ⟨(f1.sub (by decide)).seq p.1 (by decide), p.2⟩
theorem M_trace {st : St} (n w : Int32) (q : MR h st) : T (fX10_trace 0 n w) h (fun v h' => v = (q_trace n w st).1 ∧ MR h' (q_trace n w st).2) := by
  unfold fX10_trace
  have ws := q.2.1
  have tn := tb_n ws.1 ws.2.1
  rw [m_chk q.1]
  refine T_call (m_canOperate q.1 ws.1 ws.2.1 q.2.2.1.1 n) fun v h1 p => ?_
  obtain ⟨rfl, rfl⟩ := p
  unfold q_trace
  rcases co_cases n st.1.1 with ⟨z1, z2, z3⟩ | ⟨z1, z2, z3⟩ | ⟨z1, z2⟩
  · rw [z1, T_ifn (by decide)]
    refine T_call (m_inR (a := 0) (b := 1) (by decide) (by decide)) fun v h2 p => ?_
    obtain ⟨rfl, rfl⟩ := p
    by_cases c3 : rg w 0 1
    · have cc := And.intro z2 c3
      rw [if_pos c3, T_ifn (by decide), T_ifn (by decide), if_pos cc, if_pos z3]
      have hcop := cop_of ws.1 ws.2.1 z2 z3
      obtain ⟨n, rfl, en, en1, en2⟩ := rg_nat z2 (by decide) (by decide)
      obtain ⟨w, rfl, ew, ew1, ew2⟩ := rg_nat c3 (by decide) (by decide)
      rw [en] at hcop
      rw [en, ew]
      by_cases c4 : w = 0
      · have cw : ¬ nI w = 1 := by rw [c4]; decide
        rw [T_ifn cw]
        refine T_call (M_laysTable0 q hcop) fun _ h3 p => ?_
        refine T_mono (m_trd (by omega) p.1.1 p.2) fun v h4 p4 => ?_
        refine ⟨?_, p.1.fr p4.1 (by decide)⟩
        rw [p4.2, of_eJ (Nat.eq_of_beq_eq_true (cop_at trs_W hcop))]
        unfold trv
        rw [if_pos c4]
      · have cw : nI w = 1 := by rw [show w = 1 by omega]; rfl
        rw [T_ifp cw]
        refine T_call (M_laysTable1 q hcop) fun _ h3 p => ?_
        refine T_mono (m_trd (by omega) p.1.1 p.2) fun v h4 p4 => ?_
        refine ⟨?_, p.1.fr p4.1 (by decide)⟩
        rw [p4.2, of_eJ (Nat.eq_of_beq_eq_true (cop_at trs_V hcop))]
        unfold trv
        rw [if_neg c4]
    · rw [if_neg c3, T_ifp rfl, if_neg (fun z => c3 z.2)]
      refine T_call (M_refBy2 q _) fun v h4 p => ?_
      rw [T_pp]
      exact p
  · rw [z1, T_ifn (by decide)]
    refine T_call (m_inR (a := 0) (b := 1) (by decide) (by decide)) fun v h2 p => ?_
    obtain ⟨rfl, rfl⟩ := p
    by_cases c3 : rg w 0 1
    · have cc := And.intro z2 c3
      rw [if_pos c3, T_ifn (by decide), T_ifp rfl, if_pos cc, if_neg z3]
      refine T_call (M_refBy3 q _) fun v h4 p => ?_
      rw [T_pp]
      exact p
    · rw [if_neg c3, T_ifp rfl, if_neg (fun z => c3 z.2)]
      refine T_call (M_refBy2 q _) fun v h4 p => ?_
      rw [T_pp]
      exact p
  · rw [z1, T_ifp rfl, if_neg (fun z => z2 z.1)]
    refine T_call (M_refBy2 q _) fun v h4 p => ?_
    rw [T_pp]
    exact p
/-! polynomial -/
noncomputable def pov (N n w k : Nat) : Int64 := if w = 0 then (if k ≤ dim N then cW N n k else 0) else (if k ≤ cyc N then cV N n k else 0)
noncomputable def q_poly (n w k : Int32) (st : St) : Int64 × St := if rg n 1 7 ∧ rg w 0 1 ∧ 0 ≤ k.toInt then (if Nat.gcd (ti n) st.1.1 = 1 then (pov st.1.1 (ti n) (ti w) (ti k), st) else (-9223372036854775807, rf3 st)) else (bL, rf2 st)
def NmAt (h : PH) (d : Nat) (t : Nat → Nat) : Prop := dig h 0 35 = d + 1 ∧ ∀ k, k ≤ d → dig h 32 k = dgJ 1099511627776 (t k)
theorem M_polyNow {st : St} {d : Nat} (hd : d ≤ 9) {A : Nat → Nat → Int64} {t : Nat → Nat} (q : MR h st) (hA : TabAt h d A) (ht : chP d A t = true) : T (fX10_laysPolynomial 0) h (fun _ h' => MR h' st ∧ NmAt h' d t) := by
  refine T_mono (m_laysPolynomial q.1 hd hA) fun _ h1 p => ?_
  refine ⟨q.fr p.1 (by decide), by rw [fr_d0 p.1 (by decide)]; exact hA.1, fun k hk => ?_⟩
  rw [p.2 k hk]
  exact chP_at ht k hk
theorem m_polyEnd {st : St} {d k : Nat} (hd : d ≤ 9) (hk : k < 2147483648) {t : Nat → Nat} (q : MR h st) (hn : NmAt h d t) : T (pb (gI 9 35 0) fun v25 => (@ite _ (v25 < nI k) (dLt v25 (nI k)) (pp (0 : Int64)) (pb (gA 9 40 0) fun v27 => pb (lJ 18 v27 (nI k)) fun v28 => pp v28))) h (fun v h' => v = (if k ≤ d then Int64.ofNat (dgJ 1099511627776 (t k) - 1) else 0) ∧ MR h' st) := by
  have hM := q.1
  rw [m_gI hM (by decide), dig_gi hn.1]
  by_cases c : k ≤ d
  · rw [T_ifn (nI_nlt c (by omega)), if_pos c, m_gA hM (by decide) (by decide), mr_40, m_lJ hM (by decide) rfl (by rw [ml_32]; omega), T_pp]
    refine ⟨?_, q⟩
    unfold gj
    rw [hn.2 k c]
  · rw [T_ifp (nI_lt (by omega) hk), if_neg c, T_pp]
    exact ⟨rfl, q⟩
theorem M_polynomial {st : St} (n w k : Int32) (q : MR h st) : T (fX10_polynomial 0 n w k) h (fun v h' => v = (q_poly n w k st).1 ∧ MR h' (q_poly n w k st).2) := by
  unfold fX10_polynomial
  have ws := q.2.1
  have tn := tb_n ws.1 ws.2.1
  have k0 : (0 : Int32) ≤ k ↔ 0 ≤ k.toInt := by rw [Int32.le_iff_toInt_le]; rfl
  rw [m_chk q.1]
  refine T_call (m_canOperate q.1 ws.1 ws.2.1 q.2.2.1.1 n) fun v h1 p => ?_
  obtain ⟨rfl, rfl⟩ := p
  unfold q_poly
  rcases co_cases n st.1.1 with ⟨z1, z2, z3⟩ | ⟨z1, z2, z3⟩ | ⟨z1, z2⟩
  · rw [z1, T_ifn (by decide)]
    refine T_call (m_inR (a := 0) (b := 1) (by decide) (by decide)) fun v h2 p => ?_
    obtain ⟨rfl, rfl⟩ := p
    by_cases c3 : rg w 0 1
    · rw [if_pos c3, T_ifn (by decide)]
      by_cases c5 : 0 ≤ k.toInt
      · have cc := And.intro z2 (And.intro c3 c5)
        rw [T_ifp (k0.mpr c5), T_ifn (by decide), if_pos cc, if_pos z3]
        have hcop := cop_of ws.1 ws.2.1 z2 z3
        obtain ⟨n, rfl, en, en1, en2⟩ := rg_nat z2 (by decide) (by decide)
        obtain ⟨w, rfl, ew, ew1, ew2⟩ := rg_nat c3 (by decide) (by decide)
        have ek := nI_ti c5
        have hk : ti k < 2147483648 := by have := k.toInt_lt; unfold ti; omega
        generalize ti k = kk at ek hk
        subst ek
        rw [en] at hcop
        rw [en, ew]
        by_cases c4 : w = 0
        · have cw : ¬ nI w = 1 := by rw [c4]; decide
          rw [T_ifn cw]
          refine T_call (M_laysTable0 q hcop) fun _ h3 p => ?_
          refine T_call (M_polyNow (by omega) p.1 p.2 (cop_at chP_W hcop)) fun _ h4 p4 => ?_
          refine T_mono (m_polyEnd (by omega) hk p4.1 p4.2) fun v h5 p5 => ⟨?_, p5.2⟩
          rw [p5.1]
          unfold pov
          rw [if_pos c4]
          rfl
        · have cw : nI w = 1 := by rw [show w = 1 by omega]; rfl
          rw [T_ifp cw]
          refine T_call (M_laysTable1 q hcop) fun _ h3 p => ?_
          refine T_call (M_polyNow (by omega) p.1 p.2 (cop_at chP_V hcop)) fun _ h4 p4 => ?_
          refine T_mono (m_polyEnd (by omega) hk p4.1 p4.2) fun v h5 p5 => ⟨?_, p5.2⟩
          rw [p5.1]
          unfold pov
          rw [if_neg c4]
          rfl
      · rw [T_ifn (fun z => c5 (k0.mp z)), if_neg (fun z => c5 z.2.2)]
        refine T_call (M_refBy2 q _) fun v h4 p => ?_
        rw [T_pp]
        exact p
    · rw [if_neg c3, T_ifp rfl, if_neg (fun z => c3 z.2.1)]
      refine T_call (M_refBy2 q _) fun v h4 p => ?_
      rw [T_pp]
      exact p
  · rw [z1, T_ifn (by decide)]
    refine T_call (m_inR (a := 0) (b := 1) (by decide) (by decide)) fun v h2 p => ?_
    obtain ⟨rfl, rfl⟩ := p
    by_cases c3 : rg w 0 1
    · rw [if_pos c3, T_ifn (by decide)]
      by_cases c5 : 0 ≤ k.toInt
      · have cc := And.intro z2 (And.intro c3 c5)
        rw [T_ifp (k0.mpr c5), T_ifp rfl, if_pos cc, if_neg z3]
        refine T_call (M_refBy3 q _) fun v h4 p => ?_
        rw [T_pp]
        exact p
      · rw [T_ifn (fun z => c5 (k0.mp z)), if_neg (fun z => c5 z.2.2)]
        refine T_call (M_refBy2 q _) fun v h4 p => ?_
        rw [T_pp]
        exact p
    · rw [if_neg c3, T_ifp rfl, if_neg (fun z => c3 z.2.1)]
      refine T_call (M_refBy2 q _) fun v h4 p => ?_
      rw [T_pp]
      exact p
  · rw [z1, T_ifp rfl, if_neg (fun z => z2 z.1)]
    refine T_call (M_refBy2 q _) fun v h4 p => ?_
    rw [T_pp]
    exact p
/-! root -/
noncomputable def qn (N n a k : Nat) : Nat := if a = 0 then (if mref k ≠ 0 then mref k + 2 else if k = 35 then cyc N + 1 else 0) else if a = 32 then (if k ≤ cyc N then dgJ 1099511627776 (tV N n k) else 0) else 0
theorem QN_ok : allN 26 (fun N => allN 8 fun n => !(Nat.ble 1 N && (Nat.ble 1 n && Nat.beq (Nat.gcd n N) 1)) || (shp (QNb N n) && dgt (QNb N n) (qn N n))) = true := by decide +kernel
theorem QN_ref {n : Nat} (hc : cop N n) (hM : MW h) (hn : NmAt h (cyc N) (tV N n)) : Ref (QNb N n) h := by
  have k2 := cop_at QN_ok hc
  rw [Bool.and_eq_true] at k2
  refine Ref_lit k2.1 hM fun a k ha hk => ?_
  rcases dgt_at k2.2 a k ha hk with z | z
  · exact Or.inl z
  · unfold qn at z
    split at z
    · rename_i c
      subst c
      split at z
      · rename_i c
        right; rw [z, hM.2.2 k c]
      · split at z
        · rename_i c; subst c; right; rw [z, hn.1]
        · exact Or.inl z
    · split at z
      · rename_i c; subst c
        split at z
        · rename_i c; right; rw [z, hn.2 k c]
        · exact Or.inl z
      · exact Or.inl z
noncomputable def q_root (n v : Int32) (st : St) : Int32 × St := if rg n 1 7 ∧ rg v (-8) 8 then (if Nat.gcd (ti n) st.1.1 = 1 then (nI (tO st.1.1 (ti n) (v.toInt + 8).toNat), st) else (-3, rf3 st)) else (-2, rf2 st)
theorem vI_of {v : Int32} (c : rg v (-8) 8) : v = vI (v.toInt + 8).toNat ∧ (v.toInt + 8).toNat < 17 := by
  have c1 := c.1
  have c2 := c.2
  refine ⟨Int32.toInt_inj.mp ?_, by omega⟩
  unfold vI
  rw [show (8 : Int32) = nI 8 from rfl, pk_sub_toInt (by omega) (by decide)]
  omega
theorem M_root {st : St} (n v : Int32) (q : MR h st) : T (fX10_root 0 n v) h (fun a h' => a = (q_root n v st).1 ∧ MR h' (q_root n v st).2) := by
  unfold fX10_root
  have ws := q.2.1
  have tn := tb_n ws.1 ws.2.1
  rw [m_chk q.1]
  refine T_call (m_canOperate q.1 ws.1 ws.2.1 q.2.2.1.1 n) fun a h1 p => ?_
  obtain ⟨rfl, rfl⟩ := p
  unfold q_root
  rcases co_cases n st.1.1 with ⟨z1, z2, z3⟩ | ⟨z1, z2, z3⟩ | ⟨z1, z2⟩
  · rw [z1, T_ifn (by decide)]
    refine T_call (m_inR (a := -8) (b := 8) (by decide) (by decide)) fun a h2 p => ?_
    obtain ⟨rfl, rfl⟩ := p
    by_cases c3 : rg v (-8) 8
    · have cc := And.intro z2 c3
      rw [if_pos c3, T_ifn (by decide), T_ifn (by decide), if_pos cc, if_pos z3]
      have hcop := cop_of ws.1 ws.2.1 z2 z3
      obtain ⟨n, rfl, en, en1, en2⟩ := rg_nat z2 (by decide) (by decide)
      obtain ⟨ev, lv⟩ := vI_of c3
      rw [en] at hcop
      rw [en]
      refine T_call (M_laysTable1 q hcop) fun _ h3 p => ?_
      refine T_call (M_polyNow (by omega) p.1 p.2 (cop_at chP_V hcop)) fun _ h4 p4 => ?_
      have r0 := QN_ref hcop p4.1.1 p4.2
      have run := allN_at (rot_run hcop) (v.toInt + 8).toNat lv
      rw [← ev] at run
      refine T_call (T_ext (T_closedW r0 run)) fun a h5 p5 => ?_
      obtain ⟨hx, g, pg, rg', u⟩ := p5
      unfold okN at pg
      rw [Bool.and_eq_true] at pg
      have f5 : Fr [32] h4 h5 := kp_fr p4.1.1 r0 rg' hx u pg.2 (by decide) (by decide)
      rw [T_pp]
      exact ⟨ofI' pg.1, p4.1.fr f5 (by decide)⟩
    · rw [if_neg c3, T_ifp rfl, if_neg (fun z => c3 z.2)]
      refine T_call (M_ref2 q) fun v h4 p => ?_
      rw [T_pp]
      exact p
  · rw [z1, T_ifn (by decide)]
    refine T_call (m_inR (a := -8) (b := 8) (by decide) (by decide)) fun a h2 p => ?_
    obtain ⟨rfl, rfl⟩ := p
    by_cases c3 : rg v (-8) 8
    · have cc := And.intro z2 c3
      rw [if_pos c3, T_ifn (by decide), T_ifp rfl, if_pos cc, if_neg z3]
      refine T_call (M_ref3 q) fun v h4 p => ?_
      rw [T_pp]
      exact p
    · rw [if_neg c3, T_ifp rfl, if_neg (fun z => c3 z.2)]
      refine T_call (M_ref2 q) fun v h4 p => ?_
      rw [T_pp]
      exact p
  · rw [z1, T_ifp rfl, if_neg (fun z => z2 z.1)]
    refine T_call (M_ref2 q) fun v h4 p => ?_
    rw [T_pp]
    exact p
/-! digest -/
def tv (st : St) (w : Nat) : Int32 := if w = 0 then st.2.2.2.1 else if w = 1 then st.2.2.2.2.1 else if w = 2 then st.2.2.2.2.2 else if w = 3 then nI st.2.2.1.length else if w = 4 then nI st.1.1 else nI st.2.1.length
def dgA (st : St) : Nat → Int64
  | 0 => 2297
  | k + 1 => 31 * dgA st k + (tv st k).toInt64
noncomputable def dgB (x : Int64) (N : Nat) : Nat → Int64
  | 0 => x
  | k + 1 => 31 * dgB x N k + (spv N k).toInt64
def dgC (x : Int64) (f : Nat → Int64) : Nat → Int64
  | 0 => x
  | k + 1 => 31 * (31 * dgC x f k + f k) + 1
noncomputable def q_digest (st : St) : Int64 × St := (31 * dgC (dgB (31 * dgA st 6 + (nI (cnt st.1.1)).toInt64) st.1.1 3) st.1.2 (dim st.1.1) + (if cuB st.1.1 st.1.2 = true then (1 : Int32) else 0).toInt64, st)
theorem M_digest {st : St} (q : MR h st) : T (fX10_digest 0) h (fun v h' => v = (q_digest st).1 ∧ MR h' (q_digest st).2) := by
  unfold fX10_digest q_digest
  have ws := q.2.1
  have tn := tb_n ws.1 ws.2.1
  rw [m_chk q.1]
  refine T_call (P := fun v h' => h' = h ∧ v = dgA st 6) ?_ fun v h1 p => ?_
  · refine T_forS 6 (fun m v h' => h' = h ∧ v = dgA st m) (fun i v ha hi hI => ?_) (fun v ha hI => ?_) (by decide) (i0 := 0) (by decide) ⟨rfl, rfl⟩
    · obtain ⟨rfl, rfl⟩ := hI
      have c1 : ¬ nI 6 ≤ nI i := nI_ge hi (by decide)
      unfold fX10_digest_B6 fX10_digest_b6
      rw [T_frJ, T_fr]
      dsimp only
      rw [li_6, T_ifn c1]
      refine T_call (m_toldOf hi q) fun v hb p => ?_
      obtain ⟨rfl, rfl⟩ := p
      rw [T_pp]
      exact ⟨_, by rw [nI_succ]; rfl, rfl, rfl⟩
    · obtain ⟨rfl, rfl⟩ := hI
      unfold fX10_digest_B6 fX10_digest_b6
      rw [T_frJ, T_fr]
      dsimp only
      rw [T_ifp (by decide), T_pp]
      exact ⟨_, rfl, rfl, rfl⟩
  · obtain ⟨rfl, rfl⟩ := p
    refine T_call (M_lays q) fun _ h2 p => ?_
    obtain ⟨q2, ok2, f2⟩ := p
    rw [m_gI q2.1 (by decide), dig_gi (okL_at ok2).2.1]
    refine T_call (P := fun v h' => MR h' st ∧ okL st.1.1 h' = true ∧ v = dgB (31 * dgA st 6 + (nI (cnt st.1.1)).toInt64) st.1.1 3) ?_ fun v h3 p => ?_
    · refine T_forS 3 (fun m v h' => MR h' st ∧ okL st.1.1 h' = true ∧ v = dgB (31 * dgA st 6 + (nI (cnt st.1.1)).toInt64) st.1.1 m) (fun i v ha hi hI => ?_) (fun v ha hI => ?_) (by decide) (i0 := 0) (by decide) ⟨q2, ok2, rfl⟩
      · obtain ⟨qa, oka, rfl⟩ := hI
        have c1 : ¬ nI 3 ≤ nI i := nI_ge hi (by decide)
        unfold fX10_digest_B49 fX10_digest_b49
        rw [T_frJ, T_fr]
        dsimp only
        rw [li_3, T_ifn c1]
        refine T_call (M_spaceNow (w := i) (by omega) qa) fun v hb p => ?_
        obtain ⟨rfl, qb, okb⟩ := p
        rw [T_pp]
        exact ⟨_, by rw [nI_succ]; rfl, qb, okb, rfl⟩
      · obtain ⟨qa, oka, rfl⟩ := hI
        unfold fX10_digest_B49 fX10_digest_b49
        rw [T_frJ, T_fr]
        dsimp only
        rw [T_ifp (by decide), T_pp]
        exact ⟨_, rfl, qa, oka, rfl⟩
    · obtain ⟨q3, ok3, rfl⟩ := p
      generalize dgB (31 * dgA st 6 + (nI (cnt st.1.1)).toInt64) st.1.1 3 = x
      refine T_call (P := fun v h' => h' = h3 ∧ v = dgC x st.1.2 (dim st.1.1)) ?_ fun v h4 p => ?_
      · refine T_forS (dim st.1.1) (fun m v h' => h' = h3 ∧ v = dgC x st.1.2 m) (fun i v ha hi hI => ?_) (fun v ha hI => ?_) (by omega) (i0 := 0) (by omega) ⟨rfl, rfl⟩
        · obtain ⟨rfl, rfl⟩ := hI
          have hM3 := q3.1
          have g14 := dig_gi (okL_at ok3).2.2.2.1
          have c1 : ¬ nI (dim st.1.1) ≤ nI i := nI_ge hi (by omega)
          have s1 := (q3.2.2.1.2 i (by omega))
          rw [Nat.zero_add, Nat.zero_add] at s1
          obtain ⟨s1, s2⟩ := s1
          unfold fX10_digest_B75 fX10_digest_b75
          rw [T_frJ, T_fr]
          dsimp only
          rw [m_gI hM3 (by decide), g14, T_ifn c1]
          simp (disch := first | assumption | decide | omega | (simp only [ml_0, ml_1, ml_2, ml_3, ml_4, ml_5, ml_6, ml_7, ml_8, ml_9, ml_10, ml_11, ml_12, ml_13, ml_14, ml_15, ml_16, ml_17, ml_18, ml_19, ml_20, ml_21, ml_22, ml_23, ml_24, ml_25, ml_26, ml_27, ml_28, ml_29, ml_30, ml_31, ml_32, ml_33, ml_34, ml_35, ml_36]; omega) | (simp only [ml_0, ml_1, ml_2, ml_3, ml_4, ml_5, ml_6, ml_7, ml_8, ml_9, ml_10, ml_11, ml_12, ml_13, ml_14, ml_15, ml_16, ml_17, ml_18, ml_19, ml_20, ml_21, ml_22, ml_23, ml_24, ml_25, ml_26, ml_27, ml_28, ml_29, ml_30, ml_31, ml_32, ml_33, ml_34, ml_35, ml_36]; decide) | (apply MW_wIr (by decide); (repeat' (first | assumption | apply MW_wIr (by decide) | apply MW_wJr (by decide) | apply MW_wI0 rfl | apply MW_wJ0 rfl)); done) | (apply MW_wJr (by decide); (repeat' (first | assumption | apply MW_wIr (by decide) | apply MW_wJr (by decide) | apply MW_wI0 rfl | apply MW_wJ0 rfl)); done) | (apply MW_wI0 rfl; (repeat' (first | assumption | apply MW_wIr (by decide) | apply MW_wJr (by decide) | apply MW_wI0 rfl | apply MW_wJ0 rfl)); done) | (apply MW_wJ0 rfl; (repeat' (first | assumption | apply MW_wIr (by decide) | apply MW_wJr (by decide) | apply MW_wI0 rfl | apply MW_wJ0 rfl)); done)) only [T_fr, T_frJ, li_0, li_1, li_2, li_3, li_4, li_5, li_6, li_7, li_8, li_9, li_10, li_11, li_12, li_13, li_14, li_15, li_16, li_17, li_25, li_30, li_31, li_32, li_33, li_43, li_45, li_48, li_57, li_59, li_60, li_61, li_99, li_110, li_116, li_119, li_120, li_122, li_127, li_165, li_198, li_256, pk_mul, nI_add, m_chk, m_gA, mr_0, mr_1, mr_2, mr_4, mr_9, mr_10, mr_11, mr_12, mr_15, mr_16, mr_17, mr_18, mr_19, mr_20, mr_21, mr_22, mr_23, mr_24, mr_25, mr_27, mr_28, mr_29, mr_30, mr_31, mr_32, mr_33, mr_34, mr_36, mr_37, mr_38, mr_39, mr_40, mr_41, mr_42, mr_43, mr_44, m_gI, m_gJ, m_lI, m_lJ, m_tI, m_tJ, m_sI, m_sJ, T_pp, T_ifn, T_ifp, not_false_eq_true, not_true_eq_false, gi_wI_ne, gi_wJ_ne, gj_wI_ne, gj_wJ_ne, gi_wI_nk, gi_wJ_nk, gj_wI_nk, gj_wJ_nk, s1, s2]
          exact ⟨_, rfl, trivial, rfl⟩
        · obtain ⟨rfl, rfl⟩ := hI
          have g14 := dig_gi (okL_at ok3).2.2.2.1
          have c1 : nI (dim st.1.1) ≤ nI (dim st.1.1) := nI_le (Nat.le_refl _) (by omega)
          unfold fX10_digest_B75 fX10_digest_b75
          rw [T_frJ, T_fr]
          dsimp only
          rw [m_gI q3.1 (by decide), g14, T_ifp c1, T_pp]
          exact ⟨_, rfl, rfl, rfl⟩
      · obtain ⟨rfl, rfl⟩ := p
        refine T_call (M_isCuspidal q3) fun v h5 p => ?_
        obtain ⟨rfl, q5, -⟩ := p
        by_cases c : cuB st.1.1 st.1.2 = true
        · rw [if_pos c, T_ifn (by decide), T_pp]
          exact ⟨rfl, q5⟩
        · rw [if_neg c, T_ifp rfl, T_pp]
          exact ⟨rfl, q5⟩
end S12
