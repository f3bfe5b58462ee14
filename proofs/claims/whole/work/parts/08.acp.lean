/-- System.arraycopy over rows of longs -/
def cpD (x y sp dp : Nat) : Nat → Nat
  | 0 => y
  | k + 1 => ds (cpD x y sp dp k) (dp + k) (dg x (sp + k))
theorem dg_cpD (x y sp dp n j : Nat) : dg (cpD x y sp dp n) j = if dp ≤ j ∧ j < dp + n then dg x (sp + (j - dp)) else dg y j := by
  induction n with
  | zero =>
    rw [if_neg (by omega)]
    rfl
  | succ n ih =>
    rw [cpD, dg_ds _ _ _ _ (dg_lt _ _), ih]
    by_cases e : j = dp + n
    · rw [if_pos e, if_pos (by omega), e, show dp + n - dp = n by omega]
    · rw [if_neg e]
      by_cases e2 : dp ≤ j ∧ j < dp + n
      · rw [if_pos e2, if_pos (by omega)]
      · rw [if_neg e2, if_neg (by omega)]
/-- n digits from s on are known -/
def knR (x s : Nat) : Nat → Bool
  | 0 => true
  | n + 1 => knR x s n && !(Nat.beq (dg x (s + n)) 0)
theorem knR_at {x s n : Nat} (h : knR x s n = true) : ∀ i, i < n → dg x (s + i) ≠ 0 := by
  induction n with
  | zero => intro i hi; omega
  | succ n ih =>
    intro i hi
    rw [knR, Bool.and_eq_true] at h
    by_cases e : i = n
    · subst e
      intro q
      rw [q] at h
      exact absurd h.2 (by decide)
    · exact ih h.1 i (by omega)
noncomputable def acpF (a b s' d' n' : Nat) (h : PH) : Option (Unit × PH) := match nth h a with
  | none => none
  | some (u, n1, x) => match nth h b with
    | none => none
    | some (w, n2, y) => bif (Nat.beq u 18 && Nat.beq w 18) && ((Nat.ble (s' + n') n1 && Nat.ble (d' + n') n2) && knR x s' n') then some ((), nset h b (18, n2, cpD x y s' d' n')) else none
theorem acpF_some {a b s' d' n' : Nat} {h h1 : PH} {u : Unit} (q : acpF a b s' d' n' h = some (u, h1)) : ∃ n1 x n2 y, nth h a = some (18, n1, x) ∧ nth h b = some (18, n2, y) ∧ s' + n' ≤ n1 ∧ d' + n' ≤ n2 ∧ knR x s' n' = true ∧ h1 = nset h b (18, n2, cpD x y s' d' n') := by
  unfold acpF at q
  cases e1 : nth h a with
  | none => rw [e1] at q; cases q
  | some ca =>
    obtain ⟨w1, n1, x⟩ := ca
    rw [e1] at q
    dsimp only at q
    cases e2 : nth h b with
    | none => rw [e2] at q; cases q
    | some cb =>
      obtain ⟨w2, n2, y⟩ := cb
      rw [e2] at q
      dsimp only at q
      cases hb : ((Nat.beq w1 18 && Nat.beq w2 18) && ((Nat.ble (s' + n') n1 && Nat.ble (d' + n') n2) && knR x s' n')) with
      | false => rw [hb] at q; cases q
      | true =>
        rw [hb] at q
        cases q
        simp only [Bool.and_eq_true] at hb
        obtain ⟨⟨b1, b2⟩, ⟨b3, b4⟩, b5⟩ := hb
        have c1 := Nat.eq_of_beq_eq_true b1
        have c2 := Nat.eq_of_beq_eq_true b2
        subst c1
        subst c2
        exact ⟨n1, x, n2, y, rfl, rfl, Nat.le_of_ble_eq_true b3, Nat.le_of_ble_eq_true b4, b5, rfl⟩
theorem acpF_of {a b s' d' n' n1 x n2 y : Nat} {h : PH} (e1 : nth h a = some (18, n1, x)) (e2 : nth h b = some (18, n2, y)) (h1 : s' + n' ≤ n1) (h2 : d' + n' ≤ n2) (h3 : knR x s' n' = true) : acpF a b s' d' n' h = some ((), nset h b (18, n2, cpD x y s' d' n')) := by
  unfold acpF
  rw [e1]
  dsimp only
  rw [e2]
  dsimp only
  rw [Nat.ble_eq_true_of_le h1, Nat.ble_eq_true_of_le h2, h3]
  rfl
theorem knR_of {x s n : Nat} (h : ∀ i, i < n → dg x (s + i) ≠ 0) : knR x s n = true := by
  induction n with
  | zero => rfl
  | succ n ih =>
    rw [knR, ih (fun i hi => h i (by omega))]
    have := h n (by omega)
    cases hb : Nat.beq (dg x (s + n)) 0 with
    | true => exact absurd (Nat.eq_of_beq_eq_true hb) this
    | false => rfl
theorem acpF_ok (a b s' d' n' : Nat) : (∀ h u h', acpF a b s' d' n' h = some (u, h') → Ext h h') ∧ Mono (acpF a b s' d' n') ∧ Apx (acpF a b s' d' n') := by
  refine ⟨fun h u h' q => ?_, fun h0 h u h0' r q => ?_, fun h u h' g q _ => ?_⟩
  · obtain ⟨n1, x, n2, y, e1, e2, e3, e4, e5, rfl⟩ := acpF_some q
    refine Ext.st e2 _ fun k hk => ?_
    rw [dg_cpD]
    by_cases c : d' ≤ k ∧ k < d' + n'
    · rw [if_pos c]
      exact knR_at e5 (k - d') (by omega)
    · rw [if_neg c]
      exact hk
  · obtain ⟨n1, x0, n2, y0, e1, e2, e3, e4, e5, rfl⟩ := acpF_some q
    obtain ⟨x, f1, g1⟩ := r.2 a _ e1
    obtain ⟨y, f2, g2⟩ := r.2 b _ e2
    have hk := knR_at e5
    have hx : ∀ i, i < n' → dg x0 (s' + i) = dg x (s' + i) := fun i hi => (g1 (s' + i)).elim (fun q => absurd q (hk i hi)) id
    refine ⟨_, acpF_of f1 f2 e3 e4 (knR_of fun i hi => by rw [← hx i hi]; exact hk i hi), r.st e2 f2 fun k => ?_, fun c k hc hz => ?_⟩
    · rw [dg_cpD, dg_cpD]
      by_cases c : d' ≤ k ∧ k < d' + n'
      · rw [if_pos c, if_pos c]
        exact Or.inr (hx (k - d') (by omega))
      · rw [if_neg c, if_neg c]
        exact g2 k
    · rw [dig_nset (nth_lt e2)] at hz
      rw [dig_nset (nth_lt f2)]
      by_cases cc : c = b
      · rw [if_pos cc] at hz ⊢
        rw [dg_cpD] at hz ⊢
        by_cases c3 : d' ≤ k ∧ k < d' + n'
        · rw [if_pos c3] at hz
          exact absurd hz (hk (k - d') (by omega))
        · rw [if_neg c3]
          unfold dig
          rw [cc, f2]
      · rw [if_neg cc]
  · obtain ⟨n1, x, n2, y, e1, e2, e3, e4, e5, rfl⟩ := acpF_some q
    rw [acpF_of (by rw [nth_app_left (nth_lt e1)]; exact e1) (by rw [nth_app_left (nth_lt e2)]; exact e2) e3 e4 e5, nset_eq, nset_eq, List.set_append_left _ _ (nth_lt e2)]
noncomputable def acp (a : Nat) (sp : Int32) (b : Nat) (dp n : Int32) : PM Unit := match aix sp with
  | none => pf
  | some s' => match aix dp with
    | none => pf
    | some d' => match aix n with
      | none => pf
      | some n' => ⟨acpF a b s' d' n', acpF_ok a b s' d' n'⟩
theorem acp_some {a b : Nat} {sp dp n : Int32} {h h1 : PH} {u : Unit} (q : (acp a sp b dp n).1 h = some (u, h1)) : ∃ s' d' n' n1 x n2 y, aix sp = some s' ∧ aix dp = some d' ∧ aix n = some n' ∧ nth h a = some (18, n1, x) ∧ nth h b = some (18, n2, y) ∧ s' + n' ≤ n1 ∧ d' + n' ≤ n2 ∧ h1 = nset h b (18, n2, cpD x y s' d' n') := by
  unfold acp at q
  split at q
  · exact (pf_no q).elim
  · rename_i s' a1
    split at q
    · exact (pf_no q).elim
    · rename_i d' a2
      split at q
      · exact (pf_no q).elim
      · rename_i n' a3
        obtain ⟨n1, x, n2, y, e1, e2, e3, e4, -, e6⟩ := acpF_some q
        exact ⟨s', d', n', n1, x, n2, y, a1, a2, a3, e1, e2, e3, e4, e6⟩
/-- a copy of a row of longs -/
noncomputable def clnF (a : Nat) (h : PH) : Option (Nat × PH) := match nth h a with
  | none => none
  | some (u, n, x) => bif Nat.beq u 18 then some (h.length, h ++ [(18, n, x)]) else none
theorem clnF_some {a v : Nat} {h h1 : PH} (q : clnF a h = some (v, h1)) : ∃ n x, nth h a = some (18, n, x) ∧ v = h.length ∧ h1 = h ++ [(18, n, x)] := by
  unfold clnF at q
  cases e : nth h a with
  | none => rw [e] at q; cases q
  | some c =>
    obtain ⟨u, n, x⟩ := c
    rw [e] at q
    dsimp only at q
    cases hb : Nat.beq u 18 with
    | false => rw [hb] at q; cases q
    | true =>
      rw [hb] at q
      cases q
      have c1 := Nat.eq_of_beq_eq_true hb
      subst c1
      exact ⟨n, x, rfl, rfl, rfl⟩
theorem clnF_of {a n x : Nat} {h : PH} (e : nth h a = some (18, n, x)) : clnF a h = some (h.length, h ++ [(18, n, x)]) := by
  unfold clnF
  rw [e]
  rfl
theorem clnF_ok (a : Nat) : (∀ h u h', clnF a h = some (u, h') → Ext h h') ∧ Mono (clnF a) ∧ Apx (clnF a) := by
  refine ⟨fun h u h' q => ?_, fun h0 h u h0' r q => ?_, fun h u h' g q hl => ?_⟩
  · obtain ⟨n, x, e1, e2, rfl⟩ := clnF_some q
    exact Ext.ap h _
  · obtain ⟨n, x0, e1, rfl, rfl⟩ := clnF_some q
    obtain ⟨x, f1, g1⟩ := r.2 a _ e1
    refine ⟨h ++ [(18, n, x)], by rw [clnF_of f1, r.1], ⟨by rw [List.length_append, List.length_append, r.1]; rfl, fun b c qb => ?_⟩, fun c k hc _ => ?_⟩
    · by_cases e : b < h0.length
      · rw [nth_app_left e] at qb
        obtain ⟨z, e3, e4⟩ := r.2 b c qb
        exact ⟨z, by rw [nth_app_left (by rw [← r.1]; exact e)]; exact e3, e4⟩
      · rw [nth_app_right (by omega)] at qb
        have e5 : b - h0.length = 0 := by
          have := nth_lt qb
          simp at this
          omega
        rw [e5] at qb
        cases qb
        exact ⟨x, by rw [nth_app_right (by rw [← r.1]; omega), ← r.1, e5]; rfl, g1⟩
    · unfold dig
      rw [nth_app_left hc]
  · obtain ⟨n, x, e1, e2, rfl⟩ := clnF_some q
    rw [List.length_append] at hl
    simp at hl
noncomputable def cln (a : Nat) : PM Nat := ⟨clnF a, clnF_ok a⟩
theorem cln_some {a v : Nat} {h h1 : PH} (q : (cln a).1 h = some (v, h1)) : ∃ n x, nth h a = some (18, n, x) ∧ v = h.length ∧ h1 = h ++ [(18, n, x)] := clnF_some q
theorem mna_some {t ti a : Nat} {i j : Int32} {h h1 : PH} (q : (mna t ti i j).1 h = some (a, h1)) : ∃ n k, aix i = some n ∧ aix j = some k ∧ n ≤ 1000000 ∧ k ≤ 1000000 ∧ h.length + n ≤ 1000000000 ∧ a = h.length ∧ h1 = h ++ ((t, n, refs (h.length + 3) n) :: List.replicate n (ti, k, onesF k)) := by
  unfold mna at q
  split at q
  · exact (pf_no q).elim
  · rename_i n a1
    split at q
    · exact (pf_no q).elim
    · rename_i k a2
      simp only [frN_eq, lenK_eq, apK_eq, Nat.zero_add, List.append_nil] at q
      cases hb : (Nat.ble n 1000000 && (Nat.ble k 1000000 && Nat.ble (h.length + n) 1000000000)) with
      | false => rw [hb] at q; cases q
      | true =>
        rw [hb] at q
        cases q
        rw [Bool.and_eq_true, Bool.and_eq_true] at hb
        exact ⟨n, k, a1, a2, Nat.le_of_ble_eq_true hb.1, Nat.le_of_ble_eq_true hb.2.1, Nat.le_of_ble_eq_true hb.2.2, rfl, rfl⟩
