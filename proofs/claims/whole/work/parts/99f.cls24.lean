theorem cref_1 (k : Nat) : cref 1 k = 0 := by
  unfold cref
  split <;> first | rfl | (rename_i h; cases h) | simp_all
section C24
variable {h h' : PH} {N bu : Nat}
theorem CR.fc45 {st : St} (q : CR bu h st) (f : Fc [4, 5] h h') (s4 : ∃ g, SAt h' 4 g) : CR bu h' st := by
  obtain ⟨hC, a1, a2, -, a4, a5, a6, a7, a8, a9⟩ := q
  exact ⟨f.1, a1, a2.fc hC f (Or.inl rfl) (by decide) (by decide) (by decide), s4, a4.fc2 hC f (by decide), a5, CTx.fr a6 hC f (by decide) (by decide), a7.fc hC f (by decide), a8.fc f hC (by decide), a9.fc hC f (by decide)⟩
/-- the trial moves to a level that is made -/
theorem C_move {st : St} {g : Sg} {a : Nat} (q : CR bu h st) (s4 : SAt h 4 g) (lv : LevelAt h a N) (la : a < 1152921504606846976) : T (pb (gA 8 2 0) fun v18 => pb (gA 7 0 v18) fun v19 => pb (gI 3 0 v19) fun v20 => pb (gA 8 2 0) fun v21 => pb (sR 7 0 v21 (some a)) fun _ => pb (gA 8 2 0) fun v23 => pb (fX8_becomeZero v23) fun _ => pp v20) h (fun v h' => Kp h h' ∧ v = nI g.1 ∧ CR bu h' st ∧ SAt h' 4 (N, fun _ => 0)) := by
  have hC := q.1
  obtain ⟨b, e0, lb, lvb, row⟩ := s4
  obtain ⟨F, X, lf⟩ := lvb.f
  have sh : Sh h 4 7 (clen 4) := c_sh hC (by decide) (by decide)
  rw [c_gA hC (by decide) (by decide), cr_0_2, t_gA sh (by decide) e0, v_gI lf.1, c_gA hC (by decide) (by decide), cr_0_2, t_sR sh (by decide) la]
  have hC1 : CW (wR h 4 0 a) := CW_wR rfl la hC
  have f1 : Fc [4, 5] h (wR h 4 0 a) := fc_wr (Fc.rf hC _) (by omega) (by omega) rfl (by decide)
  rw [c_gA hC1 (by decide) (by decide), cr_0_2]
  refine T_call (c_becomeZero hC1 (Or.inr (Or.inl rfl))) fun _ h2 p => ?_
  obtain ⟨-, f2, z⟩ := p
  have f2 : Fc [5] (wR h 4 0 a) h2 := f2
  have f : Fc [4, 5] h h2 := f1.seq f2 (by decide)
  have s : SAt h2 4 (N, fun _ => 0) := by
    refine ⟨a, ?_, la, lv.fc f (by decide), fun i hi => z i hi⟩
    rw [fc_d f2 hC1 (by decide) (by decide)]
    exact wR_dig (Nat.lt_of_lt_of_le (by decide) hC.1) la
  rw [T_pp]
  exact ⟨f.kp hC (by decide), rfl, q.fc45 f ⟨_, s⟩, s⟩
/-- a level is made, and the made row names it -/
theorem C_made {st : St} {g : Sg} {h1 : PH} (hb : bu ≤ 100000) (n1 : 1 ≤ N) (n2 : N ≤ 25) (q : CR bu h st) (s4 : SAt h 4 g) (e1 : dig h 1 N = 1) (p : Ext h h1 ∧ (∀ a k, a < h.length → dig h1 a k = dig h a k) ∧ Emb (fun b => h.length + b) (CL N) h1 ∧ (∃ p, h.length ≤ p ∧ p < h1.length ∧ dig h1 h.length 15 = p + 2 ∧ Sh h1 p 21 8 ∧ ∀ n, n < 8 → dig h1 p n = 1) ∧ mu h1 ≤ mu h + 4200 ∧ Sh h1 h.length 3 16) (hC1 : CW h1) : CR bu (wR h1 1 N h.length) st ∧ SAt (wR h1 1 N h.length) 4 g ∧ LevelAt (wR h1 1 N h.length) h.length N ∧ Kp h (wR h1 1 N h.length) := by
  obtain ⟨ex, dd, em, ⟨p, p1, p2, p3, p4, p5⟩, m, sh⟩ := p
  have hC := q.1
  have hl := mk_len q.2.2.2.2.2.2.2.2.1 hb
  have l27 := hC.1
  have lp : p < 1152921504606846976 := by
    have := m
    have := pot_le (h := h)
    have := q.2.2.2.2.2.2.2.2.1.1
    unfold mu at *
    omega
  have ll : h.length < 1152921504606846976 := by omega
  have u1 : Up (fun a k => a = 1 ∧ k = N) h1 (wR h1 1 N h.length) := up_wR hC1 (cref_1 N) ll ⟨rfl, rfl⟩
  have u0 : Up (fun a k => a = 1 ∧ k = N) h (wR h1 1 N h.length) := Up.tr ⟨hC1, ex, fun a k ha _ => dd a k ha⟩ u1
  have hc : ChL (fun a k => a = 1 ∧ k = N) h := fun a k z => Or.inl ⟨by omega, fun _ => by rw [z.2]; exact e1⟩
  have lv : LevelAt (wR h1 1 N h.length) h.length N := by
    refine ⟨n1, n2, wR_dig (Nat.lt_of_lt_of_le (by decide) hC1.1) ll, fun b => h.length + b, rfl, fun b => by dsimp only; omega, fun b c e => by dsimp only at e; omega, fun b hb => by dsimp only; omega, em.up u1 fun b t n x _ k _ z => ?_⟩
    have := z.1
    omega
  have s4' : SAt (wR h1 1 N h.length) 4 g := s4.up hC u0 hc (Or.inr (Or.inl rfl)) (fun k z => absurd z.1 (by decide)) (fun k z => absurd z.1 (by decide))
  refine ⟨q.up u0 hc (fun a k z _ => Or.inl z.1) ?_ ⟨g, s4'⟩, s4', lv, u0.kp hC (fun a k z => by have := z.1; omega)⟩
  obtain ⟨mm, w, mk⟩ := q.2.2.2.2.2.2.2.2.1
  have hw : ∀ x, x < h.length → (fun x => if x < h.length then w x else 1000 + N) x = w x := fun x hx => by dsimp only; rw [if_pos hx]
  have dp : ∀ n, n < 8 → dig (wR h1 1 N h.length) p n = 1 := fun n hn => u1.kn (d := 0) (p5 n hn) (fun z => by have := z.1; omega)
  have d15 : dig (wR h1 1 N h.length) h.length 15 = p + 2 := u1.kn p3 (fun z => by have := z.1; omega)
  have md : MdAt (wR h1 1 N h.length) (fun x => if x < h.length then w x else 1000 + N) h.length N := by
    refine ⟨lv, ll, l27, p, d15, by omega, lp, by dsimp only; rw [if_neg (by omega)], sh_ext p4 u1.2.1, fun n hn => Or.inl (dp n hn)⟩
  have key : ∀ N', 1 ≤ N' → N' ≤ 25 → N' ≠ N → _ := fun N' x1 x2 x3 => MKc.up (N := N') mk u0 hc hw x1 x2 (fun z => x3 z.2) (fun x k z z2 => by have := z.1; omega)
  have lN' : lvP (wR h1 1 N h.length) N = lvP h N + 4200 := by
    rw [lvP_made lv.2.2.1 d15]
    have z : sumN (opP (wR h1 1 N h.length) p) 8 = 0 := by
      have : sumN (opP (wR h1 1 N h.length) p) 8 ≤ 8 * 0 := sumN_le 8 fun i hi => by
        unfold opP
        rw [if_pos (dp i hi)]
        exact Nat.le_refl _
      omega
    have z2 : lvP h N = 0 := by unfold lvP; rw [if_pos e1]
    omega
  refine ⟨?_, fun x => if x < h.length then w x else 1000 + N, fun N' x1 x2 => ?_⟩
  · have ep : pot (wR h1 1 N h.length) = pot h + 4200 := by
      unfold pot
      refine sumN_upd (k := N - 1) 25 (by omega) (fun i hi hn => (key (i + 1) (by omega) (by omega) (by omega)).2) ?_
      rw [show N - 1 + 1 = N by omega]
      exact lN'
    rw [wR_mu, ep]
    omega
  · by_cases c : N' = N
    · subst c
      exact Or.inr ⟨_, lv.2.2.1, md⟩
    · exact (key N' x1 x2 c).1
theorem C_enterK {st : St} {g : Sg} (hb : bu ≤ 100000) (n : Int32) (q : CR bu h st) (s4 : SAt h 4 g) : T (fX9_enter 0 n) h (fun v h' => Kp h h' ∧ CR bu h' st ∧ ((rg n 1 25 ∧ v = nI g.1 ∧ SAt h' 4 (ti n, fun _ => 0)) ∨ (¬ rg n 1 25 ∧ v = -2 ∧ SAt h' 4 g))) := by
  have hC := q.1
  have hl := mk_len q.2.2.2.2.2.2.2.2.1 hb
  unfold fX9_enter
  rw [c_chk hC (by decide) (by decide)]
  refine T_call (c_within _ _ _) fun v h1 p => ?_
  obtain ⟨rfl, rfl⟩ := p
  rw [show (1 : Int32).toInt = 1 from by decide, show (25 : Int32).toInt = 25 from by decide]
  by_cases r : rg n 1 25
  · obtain ⟨en, x1, x2⟩ := rg_nI r (by decide)
    have n1 : 1 ≤ ti n := by omega
    have n2 : ti n ≤ 25 := by omega
    have s1 : Sh h1 1 20 (clen 1) := c_sh hC (by decide) (by decide)
    have rd := sh_rd s1 (k := ti n) (by rw [cl_1]; omega)
    rw [if_pos r, T_ifn (by decide), c_gA hC (by decide) (by decide), cr_0_0, en]
    obtain ⟨mm, w, mk⟩ := q.2.2.2.2.2.2.2.2.1
    rcases mk (ti n) n1 n2 with e | ⟨a, e, md⟩
    · rw [e] at rd
      rw [v_lN0 rd (by omega)]
      dsimp only
      rw [t_al (by decide)]
      refine T_call (lev_init n1 n2 hl) fun _ h2 p => ?_
      have hC2 : CW h2 := CW_ext hC p.1 fun a k hk => p.2.1 a k (Nat.lt_of_lt_of_le (cref_lt hk).1 hC.1)
      obtain ⟨q3, s3, lv3, k3⟩ := C_made hb n1 n2 q s4 e p hC2
      rw [c_gA hC2 (by decide) (by decide), cr_0_0, c_tA p.2.2.2.2.2 (c_sh hC2 (by decide) (by decide) : Sh h2 1 20 (clen 1)) (by rw [cl_1]; omega) (by decide) (by omega)]
      refine T_mono (C_move q3 s3 lv3 (by omega)) fun v h4 p => ?_
      rw [← en]
      exact ⟨k3.tr p.1, p.2.2.1, Or.inl ⟨r, p.2.1, p.2.2.2⟩⟩
    · rw [e] at rd
      rw [v_lN1 rd (by omega)]
      dsimp only
      refine T_mono (C_move q s4 md.1 md.2.1) fun v h4 p => ?_
      rw [← en]
      exact ⟨p.1, p.2.2.1, Or.inl ⟨r, p.2.1, p.2.2.2⟩⟩
  · rw [if_neg r, T_ifp rfl, T_pp]
    exact ⟨Kp.rf _, q, Or.inr ⟨r, rfl, s4⟩⟩
theorem C_enter {st : St} {g : Sg} (hb : bu ≤ 100000) (n : Int32) (q : CR bu h st) (s4 : SAt h 4 g) : T (fX9_enter 0 n) h (fun v h' => CR bu h' st ∧ ((rg n 1 25 ∧ v = nI g.1 ∧ SAt h' 4 (ti n, fun _ => 0)) ∨ (¬ rg n 1 25 ∧ v = -2 ∧ SAt h' 4 g))) := T_mono (C_enterK hb n q s4) fun _ _ p => p.2
theorem C_level {st : St} (hb : bu ≤ 100000) (n : Int32) (q : CR bu h st) : T (fX9_level 0 n) h (fun v h' => v = (q_level n st).1 ∧ CR bu h' (q_level n st).2) := by
  have hC := q.1
  unfold fX9_level q_level
  rw [c_chk hC (by decide) (by decide), c_gA hC (by decide) (by decide), cr_0_2, c_gA hC (by decide) (by decide), cr_0_1]
  refine T_call (C_try q) fun _ h1 p => ?_
  obtain ⟨q1, s1⟩ := p
  refine T_call (C_enter hb n q1 s1) fun v h2 p => ?_
  obtain ⟨q2, ⟨r, rfl, s2⟩ | ⟨r, rfl, s2⟩⟩ := p
  · obtain ⟨en, x1, x2⟩ := rg_nI r (by decide)
    have l2 := q.2.1.2.1
    rw [if_pos r]
    refine T_call (C_settle q2 s2 ⟨by dsimp only; omega, by dsimp only; omega, fun i _ => rfl⟩ (nI_le (a := 0) (Nat.zero_le _) (by omega))) fun v h3 p => ?_
    rw [T_pp]
    exact p
  · rw [if_neg r]
    unfold fX9_settle
    refine T_call (P := fun v h' => v = -2 ∧ CR bu h' (rf2 st)) ?_ fun v h3 p => by rw [T_pp]; exact p
    rw [c_chk q2.1 (by decide) (by decide), T_ifn (by decide)]
    refine T_call (C_ref2 q2) fun v h3 p => by rw [T_pp]; exact p
end C24
