/-! WHAT A RUN ANSWERS: T m h Q: m runs over h, and Q holds of its answer and of the heap behind it -/
def T {α : Type} (m : PM α) (h : PH) (Q : α → PH → Prop) : Prop := ∃ v h', m.1 h = some (v, h') ∧ Q v h'
section TT
variable {α β : Type} {h h0 h' : PH} {Q : α → PH → Prop}
theorem T_pp (a : α) : T (pp a) h Q = Q a h := by
  apply propext
  constructor
  · rintro ⟨v, h', e, q⟩
    obtain ⟨rfl, rfl⟩ := pp_some e
    exact q
  · intro q
    exact ⟨a, h, rfl, q⟩
theorem T_pb (m : PM β) (k : β → PM α) : T (pb m k) h Q = T m h (fun v h' => T (k v) h' Q) := by
  apply propext
  constructor
  · rintro ⟨v, h', e, q⟩
    obtain ⟨a, h1, e1, e2⟩ := pb_some e
    exact ⟨a, h1, e1, v, h', e2, q⟩
  · rintro ⟨a, h1, e1, v, h', e2, q⟩
    exact ⟨v, h', by rw [pb_of e1]; exact e2, q⟩
theorem T_call {m : PM β} {k : β → PM α} {P : β → PH → Prop} (t : T m h P) (hk : ∀ v h1, P v h1 → T (k v) h1 Q) : T (pb m k) h Q := by
  obtain ⟨v, h1, e, p⟩ := t
  obtain ⟨w, h2, e2, q⟩ := hk v h1 p
  exact ⟨w, h2, by rw [pb_of e]; exact e2, q⟩
theorem T_mono {m : PM α} {P : α → PH → Prop} (t : T m h P) (hk : ∀ v h1, P v h1 → Q v h1) : T m h Q := by
  obtain ⟨v, h1, e, p⟩ := t
  exact ⟨v, h1, e, hk v h1 p⟩
theorem T_ext {m : PM α} (t : T m h Q) : T m h (fun v h1 => Ext h h1 ∧ Q v h1) := by
  obtain ⟨v, h1, e, p⟩ := t
  exact ⟨v, h1, e, m.2.1 _ _ _ e, p⟩
theorem T_ifp {c : Prop} {i : Decidable c} {A B : PM α} (hc : c) : T (@ite _ c i A B) h Q = T A h Q := by rw [if_pos hc]
theorem T_ifn {c : Prop} {i : Decidable c} {A B : PM α} (hc : ¬ c) : T (@ite _ c i A B) h Q = T B h Q := by rw [if_neg hc]
theorem T_ite {c : Prop} {i : Decidable c} {A B : PM α} : T (@ite _ c i A B) h Q = ((c → T A h Q) ∧ (¬ c → T B h Q)) := by
  apply propext
  by_cases hc : c
  · rw [if_pos hc]
    exact ⟨fun t => ⟨fun _ => t, fun n => absurd hc n⟩, fun t => t.1 hc⟩
  · rw [if_neg hc]
    exact ⟨fun t => ⟨fun n => absurd n hc, fun _ => t⟩, fun t => t.2 hc⟩
theorem T_loop {σ ε : Type} {body : σ → PM (σ ⊕ ε)} (I : Nat → σ → PH → Prop) {Q : ε → PH → Prop} (hb : ∀ n x h, I n x h → T (body x) h (fun r h' => (∃ y m, r = .inl y ∧ m < n ∧ I m y h') ∨ (∃ z, r = .inr z ∧ Q z h'))) : ∀ F n x h, n < F → I n x h → T (plo body F x) h Q := by
  intro F
  induction F with
  | zero => intro n x h hn; omega
  | succ F ih =>
    intro n x h hn hI
    rw [plo_s]
    refine T_call (hb n x h hI) fun r h1 p => ?_
    rcases p with ⟨y, m, rfl, hm, p⟩ | ⟨z, rfl, p⟩
    · exact ih m y h1 (by omega) p
    · show T (pp z) h1 Q
      rw [T_pp]
      exact p
/-- a loop that counts up, by ones -/
theorem T_for {ε : Type} {body : Int32 → PM (Int32 ⊕ ε)} (N : Nat) (I : Nat → PH → Prop) {Q : ε → PH → Prop} (hs : ∀ i h, i < N → I i h → T (body (nI i)) h (fun r h' => r = .inl (nI (i + 1)) ∧ I (i + 1) h')) (he : ∀ h, I N h → T (body (nI N)) h (fun r h' => ∃ z, r = .inr z ∧ Q z h')) (hN : N < 4990) {i0 : Nat} (hi : i0 ≤ N) (h0 : I i0 h) : T (plo body fu (nI i0)) h Q := by
  refine T_loop (fun n x h => ∃ i, x = nI i ∧ i ≤ N ∧ n = N - i ∧ I i h) (fun n x h => ?_) fu (N - i0) (nI i0) h (by unfold fu; omega) ⟨i0, rfl, hi, rfl, h0⟩
  rintro ⟨i, rfl, hi, rfl, hI⟩
  by_cases c : i = N
  · subst c
    exact T_mono (he h hI) fun r h1 p => Or.inr p
  · refine T_mono (hs i h (by omega) hI) fun r h1 p => Or.inl ⟨_, N - (i + 1), p.1, by omega, i + 1, rfl, by omega, rfl, p.2⟩
/-- the same with a value that goes along -/
theorem T_forS {τ ε : Type} {body : τ × Int32 → PM ((τ × Int32) ⊕ ε)} (N : Nat) (I : Nat → τ → PH → Prop) {Q : ε → PH → Prop} (hs : ∀ i t h, i < N → I i t h → T (body (t, nI i)) h (fun r h' => ∃ t', r = .inl (t', nI (i + 1)) ∧ I (i + 1) t' h')) (he : ∀ t h, I N t h → T (body (t, nI N)) h (fun r h' => ∃ z, r = .inr z ∧ Q z h')) (hN : N < 4990) {i0 : Nat} {t0 : τ} (hi : i0 ≤ N) (h0 : I i0 t0 h) : T (plo body fu (t0, nI i0)) h Q := by
  refine T_loop (fun n x h => ∃ i, x.2 = nI i ∧ i ≤ N ∧ n = N - i ∧ I i x.1 h) (fun n x h => ?_) fu (N - i0) (t0, nI i0) h (by unfold fu; omega) ⟨i0, rfl, hi, rfl, h0⟩
  rintro ⟨i, e, hi, rfl, hI⟩
  obtain ⟨t, x⟩ := x
  dsimp only at e hI
  subst e
  by_cases c : i = N
  · subst c
    exact T_mono (he t h hI) fun r h1 p => Or.inr p
  · refine T_mono (hs i t h (by omega) hI) fun r h1 p => ?_
    obtain ⟨t', p1, p2⟩ := p
    exact Or.inl ⟨_, N - (i + 1), p1, by omega, i + 1, rfl, by omega, rfl, p2⟩
theorem T_fr {x : Int32} {k : Int32 → PM α} : T (frI x k) h Q = T (k x) h Q := by rw [frI_eq]
theorem T_frJ {x : Int64} {k : Int64 → PM α} : T (frJ x k) h Q = T (k x) h Q := by rw [frJ_eq]
/-- a cell: its tag and its length, all of it known -/
def Sh (h : PH) (a t n : Nat) : Prop := ∃ x, nth h a = some (t, n, x) ∧ ∀ k, k < n → dg x k ≠ 0
noncomputable def gi (h : PH) (a k : Nat) : Int32 := Int32.ofNat (dig h a k - 1)
noncomputable def gj (h : PH) (a k : Nat) : Int64 := Int64.ofNat (dig h a k - 1)
noncomputable def wr (h : PH) (a k d : Nat) : PH := match nth h a with
  | none => h
  | some c => nset h a (c.1, c.2.1, ds c.2.2 k d)
noncomputable def wI (h : PH) (a k : Nat) (v : Int32) : PH := wr h a k (eI v)
noncomputable def wJ (h : PH) (a k : Nat) (v : Int64) : PH := wr h a k (eJ v)
noncomputable def wR (h : PH) (a k b : Nat) : PH := wr h a k (b + 2)
theorem sh_dg {a t n k : Nat} (s : Sh h a t n) (hk : k < n) : dig h a k ≠ 0 := by
  obtain ⟨x, e, kn⟩ := s
  unfold dig
  rw [e]
  exact kn k hk
theorem sh_lt {a t n : Nat} (s : Sh h a t n) : a < h.length := by
  obtain ⟨x, e, kn⟩ := s
  exact nth_lt e
theorem sh_rd {a t n k : Nat} (s : Sh h a t n) (hk : k < n) : rdD h t a k = some (dig h a k) := by
  obtain ⟨x, e, kn⟩ := s
  rw [rdD_of e hk]
  unfold dig
  rw [e]
theorem sh_ext {a t n : Nat} (s : Sh h a t n) (x : Ext h h') : Sh h' a t n := by
  obtain ⟨y, e, kn⟩ := s
  obtain ⟨z, e2, k2⟩ := x.2.2 a _ e
  exact ⟨z, e2, fun k hk => k2 k (kn k hk)⟩
theorem wr_eq {a t n k d : Nat} {x : Nat} (e : nth h a = some (t, n, x)) : wr h a k d = nset h a (t, n, ds x k d) := by
  unfold wr
  rw [e]
theorem wr_len (a k d : Nat) : (wr h a k d).length = h.length := by
  unfold wr
  split
  · rfl
  · exact nset_len _ _ _
theorem wr_dig {a k d : Nat} (hd : d < 36893488147419103232) (ha : a < h.length) (b j : Nat) : dig (wr h a k d) b j = if b = a ∧ j = k then d else dig h b j := by
  have hc : ∃ c, nth h a = some c := by
    rw [nth_eq]
    exact ⟨h[a], List.getElem?_eq_getElem ha⟩
  obtain ⟨⟨t, n, x⟩, e⟩ := hc
  rw [wr_eq e, dig_nset ha]
  by_cases c : b = a
  · rw [if_pos c, dg_ds _ _ _ _ hd]
    by_cases cj : j = k
    · rw [if_pos cj, if_pos ⟨c, cj⟩]
    · rw [if_neg cj, if_neg (fun q => cj q.2), c]
      unfold dig
      rw [e]
  · rw [if_neg c, if_neg (fun q => c q.1)]
theorem wr_ne {a k d b : Nat} (c : b ≠ a) : nth (wr h a k d) b = nth h b := by
  unfold wr
  split
  · rfl
  · exact nth_nset_ne c
theorem wr_dig_ne {a k d b j : Nat} (c : b ≠ a) : dig (wr h a k d) b j = dig h b j := by
  unfold dig
  rw [wr_ne c]
theorem wr_dig_nk {a k d b j : Nat} (hd : d < 36893488147419103232) (c : j ≠ k) : dig (wr h a k d) b j = dig h b j := by
  by_cases ha : a < h.length
  · rw [wr_dig hd ha, if_neg (fun q => c q.2)]
  · unfold wr
    have : nth h a = none := by rw [nth_eq]; exact List.getElem?_eq_none (by omega)
    rw [this]
theorem wr_sh {a k d b t n : Nat} (hd : d < 36893488147419103232) (h0 : d ≠ 0) (s : Sh h b t n) : Sh (wr h a k d) b t n := by
  obtain ⟨x, e, kn⟩ := s
  by_cases c : b = a
  · subst c
    rw [wr_eq e]
    refine ⟨_, nth_nset_same (nth_lt e), fun j hj => ?_⟩
    rw [dg_ds _ _ _ _ hd]
    by_cases cj : j = k
    · rw [if_pos cj]; exact h0
    · rw [if_neg cj]; exact kn j hj
  · exact ⟨x, by rw [wr_ne c]; exact e, kn⟩
theorem eI_0 (v : Int32) : eI v ≠ 0 := Nat.succ_ne_zero _
theorem eJ_0 (v : Int64) : eJ v ≠ 0 := Nat.succ_ne_zero _
theorem gi_eI {a k : Nat} {v : Int32} (e : dig h a k = eI v) : gi h a k = v := by
  unfold gi
  rw [e]
  exact ofI v
theorem gj_eJ {a k : Nat} {v : Int64} (e : dig h a k = eJ v) : gj h a k = v := by
  unfold gj
  rw [e]
  exact ofJ v
theorem gi_wI {a k : Nat} {v : Int32} (ha : a < h.length) (b j : Nat) : gi (wI h a k v) b j = if b = a ∧ j = k then v else gi h b j := by
  unfold wI
  by_cases c : b = a ∧ j = k
  · rw [if_pos c]
    exact gi_eI (by rw [wr_dig (eI_lt v) ha, if_pos c])
  · rw [if_neg c]
    unfold gi
    rw [wr_dig (eI_lt v) ha, if_neg c]
theorem gj_wJ {a k : Nat} {v : Int64} (ha : a < h.length) (b j : Nat) : gj (wJ h a k v) b j = if b = a ∧ j = k then v else gj h b j := by
  unfold wJ
  by_cases c : b = a ∧ j = k
  · rw [if_pos c]
    exact gj_eJ (by rw [wr_dig (eJ_lt v) ha, if_pos c])
  · rw [if_neg c]
    unfold gj
    rw [wr_dig (eJ_lt v) ha, if_neg c]
theorem gi_wI_ne {a k b j : Nat} {v : Int32} (c : b ≠ a) : gi (wI h a k v) b j = gi h b j := by unfold gi wI; rw [wr_dig_ne c]
theorem gj_wI_ne {a k b j : Nat} {v : Int32} (c : b ≠ a) : gj (wI h a k v) b j = gj h b j := by unfold gj wI; rw [wr_dig_ne c]
theorem gi_wJ_ne {a k b j : Nat} {v : Int64} (c : b ≠ a) : gi (wJ h a k v) b j = gi h b j := by unfold gi wJ; rw [wr_dig_ne c]
theorem gj_wJ_ne {a k b j : Nat} {v : Int64} (c : b ≠ a) : gj (wJ h a k v) b j = gj h b j := by unfold gj wJ; rw [wr_dig_ne c]
theorem gi_wI_nk {a k b j : Nat} {v : Int32} (c : j ≠ k) : gi (wI h a k v) b j = gi h b j := by unfold gi wI; rw [wr_dig_nk (eI_lt v) c]
theorem gj_wI_nk {a k b j : Nat} {v : Int32} (c : j ≠ k) : gj (wI h a k v) b j = gj h b j := by unfold gj wI; rw [wr_dig_nk (eI_lt v) c]
theorem gi_wJ_nk {a k b j : Nat} {v : Int64} (c : j ≠ k) : gi (wJ h a k v) b j = gi h b j := by unfold gi wJ; rw [wr_dig_nk (eJ_lt v) c]
theorem gj_wJ_nk {a k b j : Nat} {v : Int64} (c : j ≠ k) : gj (wJ h a k v) b j = gj h b j := by unfold gj wJ; rw [wr_dig_nk (eJ_lt v) c]
/-- the steps, one by one -/
theorem t_gI {t k a n : Nat} {f : Int32 → PM α} (s : Sh h a t n) (hk : k < n) : T (pb (gI t k a) f) h Q = T (f (gi h a k)) h Q := by
  rw [T_pb]
  have e : (gI t k a).1 h = some (gi h a k, h) := by
    unfold gI gi
    have := sh_dg s hk
    simp only [sh_rd s hk]
    generalize dig h a k = d at *
    cases d with
    | zero => exact absurd rfl this
    | succ d => rfl
  apply propext
  constructor
  · rintro ⟨v, h', e', q⟩
    rw [e] at e'
    cases e'
    exact q
  · intro q
    exact ⟨_, _, e, q⟩
theorem t_gJ {t k a n : Nat} {f : Int64 → PM α} (s : Sh h a t n) (hk : k < n) : T (pb (gJ t k a) f) h Q = T (f (gj h a k)) h Q := by
  rw [T_pb]
  have e : (gJ t k a).1 h = some (gj h a k, h) := by
    unfold gJ gj
    have := sh_dg s hk
    simp only [sh_rd s hk]
    generalize dig h a k = d at *
    cases d with
    | zero => exact absurd rfl this
    | succ d => rfl
  apply propext
  constructor
  · rintro ⟨v, h', e', q⟩
    rw [e] at e'
    cases e'
    exact q
  · intro q
    exact ⟨_, _, e, q⟩
theorem t_gA {t k a n b : Nat} {f : Nat → PM α} (s : Sh h a t n) (hk : k < n) (hb : dig h a k = b + 2) : T (pb (gA t k a) f) h Q = T (f b) h Q := by
  rw [T_pb]
  have e : (gA t k a).1 h = some (b, h) := by
    unfold gA
    simp only [sh_rd s hk, hb]
  apply propext
  constructor
  · rintro ⟨v, h', e', q⟩
    rw [e] at e'
    cases e'
    exact q
  · intro q
    exact ⟨_, _, e, q⟩
theorem t_chk {t a n : Nat} {f : Unit → PM α} (s : Sh h a t n) : T (pb (chk t a) f) h Q = T (f ()) h Q := by
  rw [T_pb]
  have e : (chk t a).1 h = some ((), h) := by
    obtain ⟨x, e, -⟩ := s
    unfold chk
    simp only [e, Nat.beq_refl, cond_true]
  apply propext
  constructor
  · rintro ⟨v, h', e', q⟩
    rw [e] at e'
    cases e'
    exact q
  · intro q
    exact ⟨_, _, e, q⟩
theorem t_sD {t k a n d : Nat} {f : Unit → PM α} (s : Sh h a t n) (hk : k < n) (hd : d < 36893488147419103232) (h0 : d ≠ 0) : T (pb (sD t k a d) f) h Q = T (f ()) (wr h a k d) Q := by
  rw [T_pb]
  have e : (sD t k a d).1 h = some ((), wr h a k d) := by
    obtain ⟨x, e, -⟩ := s
    unfold sD
    simp only [wrD_of e hk hd h0, wr_eq e]
  apply propext
  constructor
  · rintro ⟨v, h', e', q⟩
    rw [e] at e'
    cases e'
    exact q
  · intro q
    exact ⟨_, _, e, q⟩
theorem t_sI {t k a n : Nat} {v : Int32} {f : Unit → PM α} (s : Sh h a t n) (hk : k < n) : T (pb (sI t k a v) f) h Q = T (f ()) (wI h a k v) Q := t_sD s hk (eI_lt v) (eI_0 v)
theorem t_sJ {t k a n : Nat} {v : Int64} {f : Unit → PM α} (s : Sh h a t n) (hk : k < n) : T (pb (sJ t k a v) f) h Q = T (f ()) (wJ h a k v) Q := t_sD s hk (eJ_lt v) (eJ_0 v)
theorem aix_nI {k : Nat} (hk : k < 2147483648) : aix (nI k) = some k := by
  unfold aix
  rw [frN_eq, pk_tn (by omega), Nat.ble_eq_true_of_le (show k ≤ 2147483647 by omega)]
  rfl
theorem t_lI {t k a n : Nat} {f : Int32 → PM α} (s : Sh h a t n) (hk : k < n) (hn : n < 2147483648) : T (pb (lI t a (nI k)) f) h Q = T (f (gi h a k)) h Q := by
  unfold lI
  rw [aix_nI (by omega)]
  exact t_gI s hk
theorem t_lJ {t k a n : Nat} {f : Int64 → PM α} (s : Sh h a t n) (hk : k < n) (hn : n < 2147483648) : T (pb (lJ t a (nI k)) f) h Q = T (f (gj h a k)) h Q := by
  unfold lJ
  rw [aix_nI (by omega)]
  exact t_gJ s hk
theorem t_tI {t k a n : Nat} {v : Int32} {f : Unit → PM α} (s : Sh h a t n) (hk : k < n) (hn : n < 2147483648) : T (pb (tI t a (nI k) v) f) h Q = T (f ()) (wI h a k v) Q := by
  unfold tI
  rw [aix_nI (by omega)]
  exact t_sI s hk
theorem t_tJ {t k a n : Nat} {v : Int64} {f : Unit → PM α} (s : Sh h a t n) (hk : k < n) (hn : n < 2147483648) : T (pb (tJ t a (nI k) v) f) h Q = T (f ()) (wJ h a k v) Q := by
  unfold tJ
  rw [aix_nI (by omega)]
  exact t_sJ s hk
theorem t_pz {v : Int32} {f : Unit → PM α} (hv : v = 0 ∨ v = 1) : T (pb (pz v) f) h Q = T (f ()) h Q := by
  unfold pz
  rcases hv with rfl | rfl
  · rw [if_pos rfl, T_pb, T_pp]
  · rw [if_neg (by decide), if_pos rfl, T_pb, T_pp]
end TT
/-! THE REFERENCE'S HEAP: the object at 0, its rows at 1 to 36 -/
theorem ml_0 : mlen 0 = 51 := rfl
theorem ml_1 : mlen 1 = 48 := rfl
theorem ml_2 : mlen 2 = 48 := rfl
theorem ml_3 : mlen 3 = 48 := rfl
theorem ml_4 : mlen 4 = 2304 := rfl
theorem ml_5 : mlen 5 = 2304 := rfl
theorem ml_6 : mlen 6 = 625 := rfl
theorem ml_7 : mlen 7 = 48 := rfl
theorem ml_8 : mlen 8 = 48 := rfl
theorem ml_9 : mlen 9 = 48 := rfl
theorem ml_10 : mlen 10 = 16 := rfl
theorem ml_11 : mlen 11 = 33 := rfl
theorem ml_12 : mlen 12 = 48 := rfl
theorem ml_13 : mlen 13 = 768 := rfl
theorem ml_14 : mlen 14 = 768 := rfl
theorem ml_15 : mlen 15 = 198 := rfl
theorem ml_16 : mlen 16 = 33 := rfl
theorem ml_17 : mlen 17 = 3 := rfl
theorem ml_18 : mlen 18 = 256 := rfl
theorem ml_19 : mlen 19 = 256 := rfl
theorem ml_20 : mlen 20 = 16 := rfl
theorem ml_21 : mlen 21 = 256 := rfl
theorem ml_22 : mlen 22 = 256 := rfl
theorem ml_23 : mlen 23 = 16 := rfl
theorem ml_24 : mlen 24 = 16 := rfl
theorem ml_25 : mlen 25 = 16 := rfl
theorem ml_26 : mlen 26 = 256 := rfl
theorem ml_27 : mlen 27 = 256 := rfl
theorem ml_28 : mlen 28 = 256 := rfl
theorem ml_29 : mlen 29 = 256 := rfl
theorem ml_30 : mlen 30 = 256 := rfl
theorem ml_31 : mlen 31 = 256 := rfl
theorem ml_32 : mlen 32 = 17 := rfl
theorem ml_33 : mlen 33 = 61 := rfl
theorem ml_34 : mlen 34 = 16 := rfl
theorem ml_35 : mlen 35 = 16 := rfl
theorem ml_36 : mlen 36 = 120 := rfl
theorem mr_0 : mref 0 = 11 := rfl
theorem mr_1 : mref 1 = 15 := rfl
theorem mr_2 : mref 2 = 16 := rfl
theorem mr_4 : mref 4 = 17 := rfl
theorem mr_9 : mref 9 = 6 := rfl
theorem mr_10 : mref 10 = 7 := rfl
theorem mr_11 : mref 11 = 8 := rfl
theorem mr_12 : mref 12 = 9 := rfl
theorem mr_15 : mref 15 = 12 := rfl
theorem mr_16 : mref 16 = 10 := rfl
theorem mr_17 : mref 17 = 3 := rfl
theorem mr_18 : mref 18 = 4 := rfl
theorem mr_19 : mref 19 = 5 := rfl
theorem mr_20 : mref 20 = 13 := rfl
theorem mr_21 : mref 21 = 14 := rfl
theorem mr_22 : mref 22 = 1 := rfl
theorem mr_23 : mref 23 = 2 := rfl
theorem mr_24 : mref 24 = 18 := rfl
theorem mr_25 : mref 25 = 19 := rfl
theorem mr_27 : mref 27 = 20 := rfl
theorem mr_28 : mref 28 = 21 := rfl
theorem mr_29 : mref 29 = 22 := rfl
theorem mr_30 : mref 30 = 23 := rfl
theorem mr_31 : mref 31 = 24 := rfl
theorem mr_32 : mref 32 = 25 := rfl
theorem mr_33 : mref 33 = 26 := rfl
theorem mr_34 : mref 34 = 27 := rfl
theorem mr_36 : mref 36 = 28 := rfl
theorem mr_37 : mref 37 = 29 := rfl
theorem mr_38 : mref 38 = 30 := rfl
theorem mr_39 : mref 39 = 31 := rfl
theorem mr_40 : mref 40 = 32 := rfl
theorem mr_41 : mref 41 = 33 := rfl
theorem mr_42 : mref 42 = 34 := rfl
theorem mr_43 : mref 43 = 35 := rfl
theorem mr_44 : mref 44 = 36 := rfl
theorem li_0 : (0 : Int32) = nI 0 := rfl
theorem li_1 : (1 : Int32) = nI 1 := rfl
theorem li_2 : (2 : Int32) = nI 2 := rfl
theorem li_3 : (3 : Int32) = nI 3 := rfl
theorem li_4 : (4 : Int32) = nI 4 := rfl
theorem li_5 : (5 : Int32) = nI 5 := rfl
theorem li_6 : (6 : Int32) = nI 6 := rfl
theorem li_7 : (7 : Int32) = nI 7 := rfl
theorem li_8 : (8 : Int32) = nI 8 := rfl
theorem li_9 : (9 : Int32) = nI 9 := rfl
theorem li_10 : (10 : Int32) = nI 10 := rfl
theorem li_11 : (11 : Int32) = nI 11 := rfl
theorem li_12 : (12 : Int32) = nI 12 := rfl
theorem li_13 : (13 : Int32) = nI 13 := rfl
theorem li_14 : (14 : Int32) = nI 14 := rfl
theorem li_15 : (15 : Int32) = nI 15 := rfl
theorem li_16 : (16 : Int32) = nI 16 := rfl
theorem li_17 : (17 : Int32) = nI 17 := rfl
theorem li_25 : (25 : Int32) = nI 25 := rfl
theorem li_30 : (30 : Int32) = nI 30 := rfl
theorem li_31 : (31 : Int32) = nI 31 := rfl
theorem li_32 : (32 : Int32) = nI 32 := rfl
theorem li_33 : (33 : Int32) = nI 33 := rfl
theorem li_43 : (43 : Int32) = nI 43 := rfl
theorem li_45 : (45 : Int32) = nI 45 := rfl
theorem li_48 : (48 : Int32) = nI 48 := rfl
theorem li_57 : (57 : Int32) = nI 57 := rfl
theorem li_59 : (59 : Int32) = nI 59 := rfl
theorem li_60 : (60 : Int32) = nI 60 := rfl
theorem li_61 : (61 : Int32) = nI 61 := rfl
theorem li_99 : (99 : Int32) = nI 99 := rfl
theorem li_110 : (110 : Int32) = nI 110 := rfl
theorem li_116 : (116 : Int32) = nI 116 := rfl
theorem li_119 : (119 : Int32) = nI 119 := rfl
theorem li_120 : (120 : Int32) = nI 120 := rfl
theorem li_122 : (122 : Int32) = nI 122 := rfl
theorem li_127 : (127 : Int32) = nI 127 := rfl
theorem li_165 : (165 : Int32) = nI 165 := rfl
theorem li_198 : (198 : Int32) = nI 198 := rfl
theorem li_256 : (256 : Int32) = nI 256 := rfl

def MW (h : PH) : Prop := h.length = 37 ∧ (∀ a, a < 37 → Sh h a (mtag a) (mlen a)) ∧ ∀ k, mref k ≠ 0 → dig h 0 k = mref k + 2
section MM
variable {α β : Type} {h h0 h1 h' : PH} {Q : α → PH → Prop}
theorem mlen_lt (a : Nat) : mlen a < 2147483648 := by
  unfold mlen
  split <;> decide
theorem m_chk {f : Unit → PM α} (hM : MW h) : T (pb (chk 9 0) f) h Q = T (f ()) h Q := t_chk (hM.2.1 0 (by decide))
theorem m_gI {k : Nat} {f : Int32 → PM α} (hM : MW h) (hk : k < 51) : T (pb (gI 9 k 0) f) h Q = T (f (gi h 0 k)) h Q := t_gI (hM.2.1 0 (by decide)) hk
theorem m_gJ {k : Nat} {f : Int64 → PM α} (hM : MW h) (hk : k < 51) : T (pb (gJ 9 k 0) f) h Q = T (f (gj h 0 k)) h Q := t_gJ (hM.2.1 0 (by decide)) hk
theorem m_gA {k : Nat} {f : Nat → PM α} (hM : MW h) (hk : mref k ≠ 0) (hk2 : k < 51) : T (pb (gA 9 k 0) f) h Q = T (f (mref k)) h Q := t_gA (hM.2.1 0 (by decide)) hk2 (hM.2.2 k hk)
theorem m_sI {k : Nat} {v : Int32} {f : Unit → PM α} (hM : MW h) (hk : k < 51) : T (pb (sI 9 k 0 v) f) h Q = T (f ()) (wI h 0 k v) Q := t_sI (hM.2.1 0 (by decide)) hk
theorem m_sJ {k : Nat} {v : Int64} {f : Unit → PM α} (hM : MW h) (hk : k < 51) : T (pb (sJ 9 k 0 v) f) h Q = T (f ()) (wJ h 0 k v) Q := t_sJ (hM.2.1 0 (by decide)) hk
theorem m_lI {a k : Nat} {f : Int32 → PM α} (hM : MW h) (ha : a < 37) (ht : mtag a = 17) (hk : k < mlen a) : T (pb (lI 17 a (nI k)) f) h Q = T (f (gi h a k)) h Q := t_lI (by have := hM.2.1 a ha; rw [ht] at this; exact this) hk (mlen_lt a)
theorem m_lJ {a k : Nat} {f : Int64 → PM α} (hM : MW h) (ha : a < 37) (ht : mtag a = 18) (hk : k < mlen a) : T (pb (lJ 18 a (nI k)) f) h Q = T (f (gj h a k)) h Q := t_lJ (by have := hM.2.1 a ha; rw [ht] at this; exact this) hk (mlen_lt a)
theorem m_tI {a k : Nat} {v : Int32} {f : Unit → PM α} (hM : MW h) (ha : a < 37) (ht : mtag a = 17) (hk : k < mlen a) : T (pb (tI 17 a (nI k) v) f) h Q = T (f ()) (wI h a k v) Q := t_tI (by have := hM.2.1 a ha; rw [ht] at this; exact this) hk (mlen_lt a)
theorem m_tJ {a k : Nat} {v : Int64} {f : Unit → PM α} (hM : MW h) (ha : a < 37) (ht : mtag a = 18) (hk : k < mlen a) : T (pb (tJ 18 a (nI k) v) f) h Q = T (f ()) (wJ h a k v) Q := t_tJ (by have := hM.2.1 a ha; rw [ht] at this; exact this) hk (mlen_lt a)
theorem MW_wr {a k d : Nat} (hM : MW h) (hd : d < 36893488147419103232) (h0 : d ≠ 0) (ha : a ≠ 0 ∨ mref k = 0) : MW (wr h a k d) := by
  refine ⟨by rw [wr_len]; exact hM.1, fun b hb => wr_sh hd h0 (hM.2.1 b hb), fun j hj => ?_⟩
  rcases ha with ha | ha
  · rw [wr_dig_ne (Ne.symm ha)]
    exact hM.2.2 j hj
  · have : j ≠ k := fun e => hj (by rw [e]; exact ha)
    rw [wr_dig_nk hd this]
    exact hM.2.2 j hj
theorem MW_wIr {a k : Nat} {v : Int32} (ha : a ≠ 0) (hM : MW h) : MW (wI h a k v) := MW_wr hM (eI_lt v) (eI_0 v) (Or.inl ha)
theorem MW_wJr {a k : Nat} {v : Int64} (ha : a ≠ 0) (hM : MW h) : MW (wJ h a k v) := MW_wr hM (eJ_lt v) (eJ_0 v) (Or.inl ha)
theorem MW_wI0 {k : Nat} {v : Int32} (hk : mref k = 0) (hM : MW h) : MW (wI h 0 k v) := MW_wr hM (eI_lt v) (eI_0 v) (Or.inr hk)
theorem MW_wJ0 {k : Nat} {v : Int64} (hk : mref k = 0) (hM : MW h) : MW (wJ h 0 k v) := MW_wr hM (eJ_lt v) (eJ_0 v) (Or.inr hk)
theorem gj_wJm {a k : Nat} {v : Int64} (hM : MW h) (ha : a < 37) (b j : Nat) : gj (wJ h a k v) b j = if b = a ∧ j = k then v else gj h b j := gj_wJ (by rw [hM.1]; exact ha) b j
theorem gi_wIm {a k : Nat} {v : Int32} (hM : MW h) (ha : a < 37) (b j : Nat) : gi (wI h a k v) b j = if b = a ∧ j = k then v else gi h b j := gi_wI (by rw [hM.1]; exact ha) b j
/-- a place's number: a row's address, or 100 and the field -/
def pcd (a k : Nat) : Nat := if a = 0 then 100 + k else a
/-- nothing but the places of S has changed -/
def Fr (S : List Nat) (h h' : PH) : Prop := MW h' ∧ ∀ a k, pcd a k ∉ S → dig h' a k = dig h a k
theorem Fr.rf (hM : MW h) (S : List Nat) : Fr S h h := ⟨hM, fun _ _ _ => rfl⟩
theorem Fr.tr {S : List Nat} (a : Fr S h0 h) (b : Fr S h h') : Fr S h0 h' := ⟨b.1, fun x k hx => by rw [b.2 x k hx, a.2 x k hx]⟩
theorem Fr.sub {S S' : List Nat} (a : Fr S h0 h) (hs : ∀ x ∈ S, x ∈ S') : Fr S' h0 h := ⟨a.1, fun x k hx => a.2 x k fun q => hx (hs _ q)⟩
theorem Fr.seq {S S' : List Nat} (a : Fr S h0 h) (b : Fr S' h h') (hs : ∀ x ∈ S', x ∈ S) : Fr S h0 h' := a.tr (b.sub hs)
theorem fr_wr {S : List Nat} {a k d : Nat} (f : Fr S h0 h) (hd : d < 36893488147419103232) (hz : d ≠ 0) (ha : a ≠ 0 ∨ mref k = 0) (hs : pcd a k ∈ S) : Fr S h0 (wr h a k d) := by
  refine ⟨MW_wr f.1 hd hz ha, fun b j hb => ?_⟩
  rw [← f.2 b j hb]
  by_cases c : b = a
  · by_cases cj : j = k
    · rw [c, cj] at hb
      exact absurd hs hb
    · exact wr_dig_nk hd cj
  · exact wr_dig_ne c
theorem Fr.I {S : List Nat} {a k : Nat} {v : Int32} (f : Fr S h0 h) (ha : a ≠ 0) (hs : a ∈ S) : Fr S h0 (wI h a k v) := fr_wr f (eI_lt v) (eI_0 v) (Or.inl ha) (by unfold pcd; rw [if_neg ha]; exact hs)
theorem Fr.J {S : List Nat} {a k : Nat} {v : Int64} (f : Fr S h0 h) (ha : a ≠ 0) (hs : a ∈ S) : Fr S h0 (wJ h a k v) := fr_wr f (eJ_lt v) (eJ_0 v) (Or.inl ha) (by unfold pcd; rw [if_neg ha]; exact hs)
theorem Fr.I0 {S : List Nat} {k : Nat} {v : Int32} (f : Fr S h0 h) (hk : mref k = 0) (hs : 100 + k ∈ S) : Fr S h0 (wI h 0 k v) := fr_wr f (eI_lt v) (eI_0 v) (Or.inr hk) hs
theorem Fr.J0 {S : List Nat} {k : Nat} {v : Int64} (f : Fr S h0 h) (hk : mref k = 0) (hs : 100 + k ∈ S) : Fr S h0 (wJ h 0 k v) := fr_wr f (eJ_lt v) (eJ_0 v) (Or.inr hk) hs
theorem fr_gi {S : List Nat} {a k : Nat} (f : Fr S h h') (hs : pcd a k ∉ S) : gi h' a k = gi h a k := by
  unfold gi
  rw [f.2 a k hs]
theorem fr_gj {S : List Nat} {a k : Nat} (f : Fr S h h') (hs : pcd a k ∉ S) : gj h' a k = gj h a k := by
  unfold gj
  rw [f.2 a k hs]
theorem fr_gir {S : List Nat} {a k : Nat} (f : Fr S h h') (ha : a ≠ 0) (hs : a ∉ S) : gi h' a k = gi h a k := fr_gi f (by unfold pcd; rw [if_neg ha]; exact hs)
theorem fr_gjr {S : List Nat} {a k : Nat} (f : Fr S h h') (ha : a ≠ 0) (hs : a ∉ S) : gj h' a k = gj h a k := fr_gj f (by unfold pcd; rw [if_neg ha]; exact hs)
theorem fr_dr {S : List Nat} {a k : Nat} (f : Fr S h h') (ha : a ≠ 0) (hs : a ∉ S) : dig h' a k = dig h a k := f.2 a k (by unfold pcd; rw [if_neg ha]; exact hs)
theorem fr_d0 {S : List Nat} {k : Nat} (f : Fr S h h') (hs : 100 + k ∉ S) : dig h' 0 k = dig h 0 k := f.2 0 k hs
theorem fr_gi0 {S : List Nat} {k : Nat} (f : Fr S h h') (hs : 100 + k ∉ S) : gi h' 0 k = gi h 0 k := fr_gi f hs
theorem fr_gj0 {S : List Nat} {k : Nat} (f : Fr S h h') (hs : 100 + k ∉ S) : gj h' 0 k = gj h 0 k := fr_gj f hs
theorem dig_wJm {a k : Nat} {v : Int64} (hM : MW h) (ha : a < 37) (b j : Nat) : dig (wJ h a k v) b j = if b = a ∧ j = k then eJ v else dig h b j := wr_dig (eJ_lt v) (by rw [hM.1]; exact ha) b j
theorem dig_wIm {a k : Nat} {v : Int32} (hM : MW h) (ha : a < 37) (b j : Nat) : dig (wI h a k v) b j = if b = a ∧ j = k then eI v else dig h b j := wr_dig (eI_lt v) (by rw [hM.1]; exact ha) b j
theorem dig_gj {a k : Nat} {v : Int64} (e : dig h a k = eJ v) : gj h a k = v := gj_eJ e
theorem dig_gi {a k n : Nat} (e : dig h a k = n + 1) : gi h a k = nI n := by unfold gi; rw [e]; rfl
theorem dig_gl {a k n : Nat} (e : dig h a k = n + 1) : gj h a k = lN n := by unfold gj; rw [e]; rfl
theorem eJ_lN {n : Nat} (hn : n < 18446744073709551616) : eJ (lN n) = n + 1 := by
  unfold eJ lN
  show (BitVec.ofNat 64 n).toNat + 1 = n + 1
  rw [BitVec.toNat_ofNat, Nat.mod_eq_of_lt hn]
theorem eI_nI {n : Nat} (hn : n < 4294967296) : eI (nI n) = n + 1 := by
  unfold eI
  rw [pk_tn hn]
end MM
