/-! PURE HEAP: a cell is (tag, length, digits); a digit 0 is unknown, d + 1 is the value d -/
abbrev PC : Type := Nat × Nat × Nat
abbrev PH : Type := List PC
/-- digit 0 of the number is a stamp: it makes the numbers' hashes differ; the digits follow -/
def dg0 (x i : Nat) : Nat := (x >>> (65 * i)) % 36893488147419103232
def dg (x i : Nat) : Nat := (x >>> (65 * i + 65)) % 36893488147419103232
theorem dg_0 (x i : Nat) : dg x i = dg0 x (i + 1) := rfl
def stp (e i : Nat) : Nat := e * (11400714819323198485 + 2 * i) % 18446744073709551616
def ds (x i v : Nat) : Nat := x ^^^ (((dg x i ^^^ v) <<< (65 * i + 65)) ^^^ stp (dg x i ^^^ v) i)
theorem dg_lt (x i : Nat) : dg x i < 36893488147419103232 := Nat.mod_lt _ (by decide)
theorem stp_tb (e i k : Nat) : (stp e i).testBit (65 + k) = false := by
  have h : stp e i < 2 ^ 64 := Nat.mod_lt _ (by decide)
  exact Nat.testBit_lt_two_pow (Nat.lt_of_lt_of_le h (Nat.pow_le_pow_right (by decide) (by omega)))
theorem dg_tb (x i k : Nat) : (dg x i).testBit k = (decide (k < 65) && x.testBit (65 * i + 65 + k)) := by
  unfold dg
  rw [show (36893488147419103232 : Nat) = 2 ^ 65 from rfl, Nat.testBit_mod_two_pow, Nat.testBit_shiftRight]
theorem dg_ds (x i v j : Nat) (hv : v < 36893488147419103232) : dg (ds x i v) j = if j = i then v else dg x j := by
  have hv' : v < 2 ^ 65 := hv
  apply Nat.eq_of_testBit_eq
  intro k
  rw [dg_tb]
  by_cases hk : k < 65
  · unfold ds
    rw [Nat.testBit_xor, Nat.testBit_xor, show 65 * j + 65 + k = 65 + (65 * j + k) by omega, stp_tb, Bool.xor_false, show 65 + (65 * j + k) = 65 * j + 65 + k by omega, Nat.testBit_shiftLeft, Nat.testBit_xor, dg_tb]
    by_cases hji : j = i
    · subst hji
      simp [hk]
    · rw [if_neg hji, dg_tb]
      rcases Nat.lt_or_gt_of_ne hji with h | h
      · have h1 : ¬ 65 * i + 65 ≤ 65 * j + 65 + k := by omega
        simp [hk, h1]
      · have h1 : 65 * i + 65 ≤ 65 * j + 65 + k := by omega
        have h2 : ¬ (65 * j + 65 + k - (65 * i + 65) < 65) := by omega
        have h3 : v.testBit (65 * j + 65 + k - (65 * i + 65)) = false := Nat.testBit_lt_two_pow (Nat.lt_of_lt_of_le hv' (Nat.pow_le_pow_right (by decide) (by omega)))
        simp [hk, h1, h2, h3]
  · have h4 : (if j = i then v else dg x j) < 2 ^ 65 := by
      split
      · exact hv'
      · exact dg_lt x j
    rw [Nat.testBit_lt_two_pow (Nat.lt_of_lt_of_le h4 (Nat.pow_le_pow_right (by decide) (by omega)))]
    simp [hk]
def ones : Nat → Nat
  | 0 => 0
  | n + 1 => ones n + 2 ^ (65 * n)
/-- n digits 1 -/
def onesG (n : Nat) : Nat := (2 ^ (65 * n) - 1) / 36893488147419103231
theorem ones_aux (A P B : Nat) (ih : A + 1 = P) : A + B + 1 = B + P := by omega
theorem ones_eq (n : Nat) : ones n * 36893488147419103231 + 1 = 2 ^ (65 * n) := by
  induction n with
  | zero => rfl
  | succ n ih =>
    have e : ∀ P : Nat, P * 36893488147419103232 = P * 36893488147419103231 + P := fun P => Nat.mul_succ P 36893488147419103231
    rw [ones, Nat.add_mul, show 65 * (n + 1) = 65 * n + 65 by omega, Nat.pow_add]
    have e2 : (2 : Nat) ^ 65 = 36893488147419103232 := by decide
    rw [e2, e (2 ^ (65 * n))]
    exact ones_aux _ _ _ ih
theorem onesG_eq (n : Nat) : onesG n = ones n := by
  unfold onesG
  rw [← ones_eq n, Nat.add_sub_cancel]
  exact Nat.mul_div_cancel _ (by decide)
theorem ones_lt (n : Nat) : ones n < 2 ^ (65 * n) := by
  have := ones_eq n
  omega
theorem dg0_ones (n i : Nat) : dg0 (ones n) i = if i < n then 1 else 0 := by
  induction n with
  | zero => simp [ones, dg0]
  | succ n ih =>
    show dg0 (ones n + 2 ^ (65 * n)) i = _
    unfold dg0 at ih ⊢
    rcases Nat.lt_trichotomy i n with h | h | h
    · rw [if_pos h] at ih
      rw [if_pos (by omega), ← ih]
      have e : 65 * n = 65 * i + 65 + 65 * (n - i - 1) := by omega
      rw [Nat.shiftRight_eq_div_pow, Nat.shiftRight_eq_div_pow, e, Nat.pow_add 2 (65 * i + 65), Nat.pow_add 2 (65 * i), show (2 : Nat) ^ 65 = 36893488147419103232 from rfl, Nat.mul_assoc, Nat.add_mul_div_left _ _ (Nat.two_pow_pos _), Nat.add_mul_mod_self_left]
    · subst h
      rw [if_pos (by omega), Nat.shiftRight_eq_div_pow]
      have h1 := ones_lt i
      rw [Nat.add_div_right _ (Nat.two_pow_pos _), Nat.div_eq_of_lt h1]
    · rw [if_neg (by omega), Nat.shiftRight_eq_div_pow]
      have h1 := ones_lt (n + 1)
      rw [ones] at h1
      rw [Nat.div_eq_of_lt (Nat.lt_of_lt_of_le h1 (Nat.pow_le_pow_right (by decide) (by omega)))]
theorem dg0_onesG (n i : Nat) : dg0 (onesG n) i = if i < n then 1 else 0 := by rw [onesG_eq, dg0_ones]
def onesF (n : Nat) : Nat := onesG (n + 1)
theorem dg_onesF (n i : Nat) : dg (onesF n) i = if i < n then 1 else 0 := by
  rw [dg_0, onesF, dg0_onesG]
  by_cases h : i < n
  · rw [if_pos h, if_pos (by omega)]
  · rw [if_neg h, if_neg (by omega)]
/-- n digits b, b + 1, .. -/
noncomputable def refs (b : Nat) : Nat → Nat
  | 0 => 0
  | n + 1 => ds (refs b n) n (b + n)
theorem dg_refs (b n i : Nat) (hb : b + n ≤ 36893488147419103232) : dg (refs b n) i = if i < n then b + i else 0 := by
  induction n with
  | zero => simp [refs, dg]
  | succ n ih =>
    rw [refs, dg_ds _ _ _ _ (by omega), ih (by omega)]
    rcases Nat.lt_trichotomy i n with h | h | h
    · rw [if_neg (by omega), if_pos h, if_pos (by omega)]
    · rw [if_pos h, if_pos (by omega), h]
    · rw [if_neg (by omega), if_neg (by omega), if_neg (by omega)]
def eI (x : Int32) : Nat := x.toBitVec.toNat + 1
def eJ (x : Int64) : Nat := x.toBitVec.toNat + 1
def eR (r : Option Nat) : Nat := match r with
  | none => 1
  | some a => a + 2
theorem eI_lt (x : Int32) : eI x < 36893488147419103232 := by
  have := x.toBitVec.isLt
  unfold eI
  omega
theorem eJ_lt (x : Int64) : eJ x < 36893488147419103232 := by
  have := x.toBitVec.isLt
  unfold eJ
  omega
theorem ofI (x : Int32) : Int32.ofNat x.toBitVec.toNat = x := by
  apply Int32.toBitVec_inj.mp
  show BitVec.ofNat 32 x.toBitVec.toNat = x.toBitVec
  simp
theorem ofJ (x : Int64) : Int64.ofNat x.toBitVec.toNat = x := by
  apply Int64.toBitVec_inj.mp
  show BitVec.ofNat 64 x.toBitVec.toNat = x.toBitVec
  simp
/-- the list's cells -/
noncomputable def nth (h : PH) : Nat → Option PC := @List.rec PC (fun _ => Nat → Option PC) (fun _ => none) (fun c _ ih n => @Nat.casesOn (fun _ => Option PC) n (some c) ih) h
noncomputable def nset (h : PH) : Nat → PC → PH := @List.rec PC (fun _ => Nat → PC → PH) (fun _ _ => []) (fun c t ih n d => @Nat.casesOn (fun _ => PH) n (d :: t) (fun k => c :: ih k d)) h
theorem nth_eq (h : PH) (a : Nat) : nth h a = h[a]? := by
  induction h generalizing a with
  | nil => simp [nth]
  | cons c t ih =>
    cases a with
    | zero => rfl
    | succ n =>
      rw [List.getElem?_cons_succ, ← ih n]
      rfl
theorem nset_eq (h : PH) (a : Nat) (d : PC) : nset h a d = h.set a d := by
  induction h generalizing a with
  | nil => simp [nset]
  | cons c t ih =>
    cases a with
    | zero => rfl
    | succ n =>
      rw [List.set_cons_succ, ← ih n]
      rfl
theorem nth_lt {h : PH} {a : Nat} {c : PC} (q : nth h a = some c) : a < h.length := by
  rw [nth_eq] at q
  exact (List.getElem?_eq_some_iff.mp q).1
theorem nth_nset_same {h : PH} {a : Nat} {d : PC} (q : a < h.length) : nth (nset h a d) a = some d := by
  rw [nth_eq, nset_eq, List.getElem?_set_self q]
theorem nth_nset_ne {h : PH} {a b : Nat} {d : PC} (q : b ≠ a) : nth (nset h a d) b = nth h b := by
  rw [nth_eq, nset_eq, List.getElem?_set_ne (Ne.symm q), nth_eq]
theorem nset_len (h : PH) (a : Nat) (d : PC) : (nset h a d).length = h.length := by rw [nset_eq, List.length_set]
theorem nth_app_left {h g : PH} {a : Nat} (q : a < h.length) : nth (h ++ g) a = nth h a := by rw [nth_eq, nth_eq, List.getElem?_append_left q]
theorem nth_app_right {h g : PH} {a : Nat} (q : h.length ≤ a) : nth (h ++ g) a = nth g (a - h.length) := by rw [nth_eq, nth_eq, List.getElem?_append_right q]
def sl (h : PH) : Nat := (h.map fun c => c.2.1).sum
theorem sl_app (h g : PH) : sl (h ++ g) = sl h + sl g := by simp [sl]
theorem sl_nset {h : PH} {a : Nat} {c d : PC} (q : nth h a = some c) (e : d.2.1 = c.2.1) : sl (nset h a d) = sl h := by
  rw [nset_eq]
  rw [nth_eq] at q
  induction h generalizing a with
  | nil => simp at q
  | cons b t ih =>
    cases a with
    | zero =>
      simp only [List.getElem?_cons_zero, Option.some.injEq] at q
      subst q
      simp [sl, e]
    | succ n =>
      rw [List.getElem?_cons_succ] at q
      have := ih q
      simp only [sl, List.set_cons_succ, List.map_cons, List.sum_cons] at *
      omega
/-- one digit of the heap -/
noncomputable def dig (h : PH) (a k : Nat) : Nat := match nth h a with
  | none => 0
  | some c => dg c.2.2 k
/-- what every step keeps: cells stay, their tags and lengths too; what is known stays known -/
def Ext (h h' : PH) : Prop := h.length ≤ h'.length ∧ sl h ≤ sl h' ∧ ∀ a c, nth h a = some c → ∃ x, nth h' a = some (c.1, c.2.1, x) ∧ ∀ k, dg c.2.2 k ≠ 0 → dg x k ≠ 0
theorem Ext.rf (h : PH) : Ext h h := ⟨Nat.le_refl _, Nat.le_refl _, fun _ c q => ⟨c.2.2, q, fun _ e => e⟩⟩
theorem Ext.tr {h1 h2 h3 : PH} (a : Ext h1 h2) (b : Ext h2 h3) : Ext h1 h3 := ⟨Nat.le_trans a.1 b.1, Nat.le_trans a.2.1 b.2.1, fun i c q => by
  obtain ⟨x, q1, k1⟩ := a.2.2 i c q
  obtain ⟨y, q2, k2⟩ := b.2.2 i _ q1
  exact ⟨y, q2, fun k e => k2 k (k1 k e)⟩⟩
theorem Ext.st {h : PH} {a : Nat} {c : PC} (q : nth h a = some c) (x : Nat) (hx : ∀ k, dg c.2.2 k ≠ 0 → dg x k ≠ 0) : Ext h (nset h a (c.1, c.2.1, x)) := by
  refine ⟨by rw [nset_len]; exact Nat.le_refl _, by rw [sl_nset (d := (c.1, c.2.1, x)) q rfl]; exact Nat.le_refl _, fun b d q2 => ?_⟩
  by_cases e : b = a
  · subst e
    cases Option.some.inj (q.symm.trans q2)
    exact ⟨x, nth_nset_same (nth_lt q), hx⟩
  · exact ⟨d.2.2, by rw [nth_nset_ne e]; exact q2, fun _ e => e⟩
theorem Ext.ap (h g : PH) : Ext h (h ++ g) := by
  refine ⟨by simp, by rw [sl_app]; omega, fun b d q2 => ⟨d.2.2, ?_, fun _ e => e⟩⟩
  rw [nth_app_left (nth_lt q2)]
  exact q2
theorem Ext.kn {h h' : PH} (e : Ext h h') {a k : Nat} (q : dig h a k ≠ 0) : dig h' a k ≠ 0 := by
  unfold dig at q ⊢
  cases e1 : nth h a with
  | none => rw [e1] at q; exact absurd rfl q
  | some c =>
    rw [e1] at q
    obtain ⟨x, e2, e3⟩ := e.2.2 a c e1
    rw [e2]
    exact e3 k q
theorem dig_nset {h : PH} {a t n x : Nat} (q : a < h.length) (b k : Nat) : dig (nset h a (t, n, x)) b k = if b = a then dg x k else dig h b k := by
  unfold dig
  by_cases e : b = a
  · subst e
    rw [nth_nset_same q, if_pos rfl]
  · rw [nth_nset_ne e, if_neg e]
/-- the first heap knows less -/
def Ref (h0 h : PH) : Prop := h0.length = h.length ∧ ∀ a c, nth h0 a = some c → ∃ x, nth h a = some (c.1, c.2.1, x) ∧ ∀ k, dg c.2.2 k = 0 ∨ dg c.2.2 k = dg x k
theorem Ref.rf (h : PH) : Ref h h := ⟨rfl, fun _ c q => ⟨c.2.2, q, fun _ => Or.inr rfl⟩⟩
theorem Ref.st {h0 h : PH} (r : Ref h0 h) {a t n x0 x : Nat} (q0 : nth h0 a = some (t, n, x0)) (q : nth h a = some (t, n, x)) {y0 y : Nat} (hy : ∀ k, dg y0 k = 0 ∨ dg y0 k = dg y k) : Ref (nset h0 a (t, n, y0)) (nset h a (t, n, y)) := by
  refine ⟨by rw [nset_len, nset_len]; exact r.1, fun b c qb => ?_⟩
  by_cases e : b = a
  · subst e
    rw [nth_nset_same (nth_lt q0)] at qb
    cases qb
    exact ⟨y, nth_nset_same (nth_lt q), hy⟩
  · rw [nth_nset_ne e] at qb
    obtain ⟨z, e1, e2⟩ := r.2 b c qb
    exact ⟨z, by rw [nth_nset_ne e]; exact e1, e2⟩
theorem Ref.ap {h0 h : PH} (r : Ref h0 h) (g : PH) : Ref (h0 ++ g) (h ++ g) := by
  refine ⟨by rw [List.length_append, List.length_append, r.1], fun b c qb => ?_⟩
  by_cases e : b < h0.length
  · rw [nth_app_left e] at qb
    obtain ⟨z, e1, e2⟩ := r.2 b c qb
    exact ⟨z, by rw [nth_app_left (by rw [← r.1]; exact e)]; exact e1, e2⟩
  · rw [nth_app_right (by omega)] at qb
    exact ⟨c.2.2, by rw [nth_app_right (by rw [← r.1]; omega), ← r.1]; exact qb, fun _ => Or.inr rfl⟩
/-- more is known: the same answer, and what the poorer run doesn't know at its end is as it was -/
def Mono {α : Type} (f : PH → Option (α × PH)) : Prop := ∀ h0 h v h0', Ref h0 h → f h0 = some (v, h0') → ∃ h', f h = some (v, h') ∧ Ref h0' h' ∧ ∀ a k, a < h.length → dig h0' a k = 0 → dig h' a k = dig h a k
/-- cells behind don't matter where none is made -/
def Apx {α : Type} (f : PH → Option (α × PH)) : Prop := ∀ h v h' g, f h = some (v, h') → h'.length = h.length → f (h ++ g) = some (v, h' ++ g)
/-- a program over the pure heap -/
abbrev PM (α : Type) : Type := {f : PH → Option (α × PH) // (∀ h a h', f h = some (a, h') → Ext h h') ∧ Mono f ∧ Apx f}
/-- a step that only looks: at one cell's known digit -/
theorem look {α : Type} (f : PH → Option (α × PH)) (h1 : ∀ h v h', f h = some (v, h') → h' = h) (h2 : ∀ h0 h v, Ref h0 h → f h0 = some (v, h0) → f h = some (v, h)) (h3 : ∀ h v g, f h = some (v, h) → f (h ++ g) = some (v, h ++ g)) : (∀ h a h', f h = some (a, h') → Ext h h') ∧ Mono f ∧ Apx f := by
  refine ⟨fun h v h' q => by rw [h1 h v h' q]; exact Ext.rf h, fun h0 h v h0' r q => ?_, fun h v h' g q _ => ?_⟩
  · have e := h1 _ _ _ q
    subst e
    exact ⟨h, h2 _ _ _ r q, r, fun _ _ _ _ => rfl⟩
  · have e := h1 _ _ _ q
    subst e
    exact h3 _ _ _ q
noncomputable def pp {α : Type} (a : α) : PM α := ⟨fun h => some (a, h), look _ (fun h v h' q => by cases q; rfl) (fun h0 h v _ q => by cases q; rfl) (fun h v g q => by cases q; rfl)⟩
noncomputable def pf {α : Type} : PM α := ⟨fun _ => none, look _ (fun _ _ _ q => by cases q) (fun _ _ _ _ q => by cases q) (fun _ _ _ q => by cases q)⟩
theorem pb_ok {α β : Type} (x : PM α) (k : α → PM β) : (∀ h a h', (match x.1 h with
  | none => none
  | some (a, h1) => (k a).1 h1) = some (a, h') → Ext h h') ∧ Mono (fun h => match x.1 h with
  | none => none
  | some (a, h1) => (k a).1 h1) ∧ Apx (fun h => match x.1 h with
  | none => none
  | some (a, h1) => (k a).1 h1) := by
  refine ⟨fun h b h' q => ?_, fun h0 h v h0' r q => ?_, fun h v h' g q hl => ?_⟩
  · cases e : x.1 h with
    | none => rw [e] at q; cases q
    | some y =>
      rw [e] at q
      exact (x.2.1 h y.1 y.2 e).tr ((k y.1).2.1 _ _ _ q)
  · try dsimp only at q ⊢
    cases e : x.1 h0 with
    | none => rw [e] at q; cases q
    | some y =>
      rw [e] at q
      obtain ⟨h1, e1, r1, u1⟩ := x.2.2.1 h0 h y.1 y.2 r e
      obtain ⟨h2, e2, r2, u2⟩ := (k y.1).2.2.1 y.2 h1 v h0' r1 q
      refine ⟨h2, by rw [e1]; exact e2, r2, fun a j ha hz => ?_⟩
      have x1 := (x.2.1 _ _ _ e1).1
      rw [u2 a j (Nat.lt_of_lt_of_le ha x1) hz]
      refine u1 a j ha ?_
      by_cases hn : dig y.2 a j = 0
      · exact hn
      · exact absurd hz (((k y.1).2.1 _ _ _ q).kn hn)
  · try dsimp only at q ⊢
    cases e : x.1 h with
    | none => rw [e] at q; cases q
    | some y =>
      rw [e] at q
      have l1 := (x.2.1 _ _ _ e).1
      have l2 := ((k y.1).2.1 _ _ _ q).1
      rw [x.2.2.2 h y.1 y.2 g e (by omega)]
      exact (k y.1).2.2.2 y.2 v h' g q (by omega)
noncomputable def pb {α β : Type} (x : PM α) (k : α → PM β) : PM β := ⟨fun h => match x.1 h with
  | none => none
  | some (a, h1) => (k a).1 h1, pb_ok x k⟩
/-- one round after another, at most n: a round goes on or ends -/
noncomputable def plo {σ ε : Type} (body : σ → PM (σ ⊕ ε)) (n : Nat) : σ → PM ε := @Nat.rec (fun _ => σ → PM ε) (fun _ => pf) (fun _ ih x => pb (body x) fun r => match r with
  | .inl y => ih y
  | .inr z => pp z) n
theorem plo_0 {σ ε : Type} (body : σ → PM (σ ⊕ ε)) (x : σ) : plo body 0 x = pf := rfl
theorem plo_s {σ ε : Type} (body : σ → PM (σ ⊕ ε)) (n : Nat) (x : σ) : plo body (n + 1) x = pb (body x) fun r => match r with
  | .inl y => plo body n y
  | .inr z => pp z := rfl
theorem pb_some {α β : Type} {x : PM α} {k : α → PM β} {h : PH} {r : β × PH} (q : (pb x k).1 h = some r) : ∃ a h1, x.1 h = some (a, h1) ∧ (k a).1 h1 = some r := by
  unfold pb at q
  simp only at q
  cases e : x.1 h with
  | none => rw [e] at q; cases q
  | some y =>
    rw [e] at q
    exact ⟨y.1, y.2, rfl, q⟩
theorem pb_of {α β : Type} {x : PM α} {k : α → PM β} {h h1 : PH} {a : α} (q : x.1 h = some (a, h1)) : (pb x k).1 h = (k a).1 h1 := by
  unfold pb
  simp only [q]
theorem pp_some {α : Type} {a b : α} {h h' : PH} (q : (pp a).1 h = some (b, h')) : a = b ∧ h = h' := by
  cases q
  exact ⟨rfl, rfl⟩
/-- a number, made plain -/
noncomputable def frN {β : Type} (n : Nat) (k : Nat → β) : β := @Nat.casesOn (fun _ => β) n (k 0) (fun m => k (Nat.add m 1))
theorem frN_eq {β : Type} (n : Nat) (k : Nat → β) : frN n k = k n := by cases n <;> rfl
noncomputable def frI {β : Type} (x : Int32) (k : Int32 → β) : β := frN x.toBitVec.toNat fun n => k (Int32.ofNat n)
theorem frI_eq {β : Type} (x : Int32) (k : Int32 → β) : frI x k = k x := by unfold frI; rw [frN_eq, ofI]
noncomputable def frJ {β : Type} (x : Int64) (k : Int64 → β) : β := frN x.toBitVec.toNat fun n => k (Int64.ofNat n)
theorem frJ_eq {β : Type} (x : Int64) (k : Int64 → β) : frJ x k = k x := by unfold frJ; rw [frN_eq, ofJ]
/-- the list with a cell changed, given on when it is laid out -/
noncomputable def nsetK {β : Type} (h : PH) : Nat → PC → (PH → β) → β := @List.rec PC (fun _ => Nat → PC → (PH → β) → β) (fun _ _ k => k []) (fun c t ih n d k => @Nat.casesOn (fun _ => β) n (k (d :: t)) (fun m => ih m d (fun t' => k (c :: t')))) h
theorem nsetK_eq {β : Type} (h : PH) : ∀ (n : Nat) (d : PC) (k : PH → β), nsetK h n d k = k (nset h n d) := by
  induction h with
  | nil => intro n d k; rfl
  | cons c t ih =>
    intro n d k
    cases n with
    | zero => rfl
    | succ m =>
      show nsetK t m d (fun t' => k (c :: t')) = _
      rw [ih]
      rfl
noncomputable def rdD (h : PH) (t a k : Nat) : Option Nat := match nth h a with
  | none => none
  | some (u, n, x) => bif Nat.beq u t && Nat.ble (k + 1) n then some (dg x k) else none
noncomputable def wrD (h : PH) (t a k v0 : Nat) : Option PH := frN v0 fun v => match nth h a with
  | none => none
  | some (u, n, x) => bif Nat.beq u t && (Nat.ble (k + 1) n && (Nat.ble (v + 1) 36893488147419103232 && Nat.ble 1 v)) then frN (ds x k v) (fun y => nsetK h a (t, n, y) some) else none
theorem rdD_some {h : PH} {t a k d : Nat} (q : rdD h t a k = some d) : ∃ n x, nth h a = some (t, n, x) ∧ k < n ∧ dg x k = d := by
  unfold rdD at q
  cases e : nth h a with
  | none => rw [e] at q; cases q
  | some c =>
    obtain ⟨u, n, x⟩ := c
    rw [e] at q
    try dsimp only at q
    cases hb : (Nat.beq u t && Nat.ble (k + 1) n) with
    | false => rw [hb] at q; cases q
    | true =>
      rw [hb] at q
      simp only [cond_true, Option.some.injEq] at q
      rw [Bool.and_eq_true] at hb
      have h1 : u = t := Nat.eq_of_beq_eq_true hb.1
      subst h1
      exact ⟨n, x, rfl, Nat.le_of_ble_eq_true (n := k + 1) hb.2, q⟩
theorem rdD_of {h : PH} {t a k n x : Nat} (q : nth h a = some (t, n, x)) (hk : k < n) : rdD h t a k = some (dg x k) := by
  unfold rdD
  rw [q]
  have h1 : Nat.beq t t = true := Nat.beq_refl t
  have h2 : Nat.ble (k + 1) n = true := Nat.ble_eq_true_of_le hk
  dsimp only
  rw [h1, h2]
  rfl
theorem wrD_some {h h' : PH} {t a k v : Nat} (q : wrD h t a k v = some h') : ∃ n x, nth h a = some (t, n, x) ∧ k < n ∧ v < 36893488147419103232 ∧ v ≠ 0 ∧ h' = nset h a (t, n, ds x k v) := by
  unfold wrD at q
  rw [frN_eq] at q
  cases e : nth h a with
  | none => rw [e] at q; cases q
  | some c =>
    obtain ⟨u, n, x⟩ := c
    rw [e] at q
    try dsimp only at q
    cases hb : (Nat.beq u t && (Nat.ble (k + 1) n && (Nat.ble (v + 1) 36893488147419103232 && Nat.ble 1 v))) with
    | false => rw [hb] at q; cases q
    | true =>
      rw [hb] at q
      simp only [cond_true] at q
      rw [frN_eq, nsetK_eq] at q
      rw [Bool.and_eq_true, Bool.and_eq_true, Bool.and_eq_true] at hb
      have h1 : u = t := Nat.eq_of_beq_eq_true hb.1
      subst h1
      have h4 : 0 < v := Nat.le_of_ble_eq_true hb.2.2.2
      exact ⟨n, x, rfl, Nat.le_of_ble_eq_true (n := k + 1) hb.2.1, Nat.le_of_ble_eq_true (n := v + 1) hb.2.2.1, by omega, (Option.some.inj q).symm⟩
theorem wrD_of {h : PH} {t a k v n x : Nat} (q : nth h a = some (t, n, x)) (hk : k < n) (hv : v < 36893488147419103232) (h0 : v ≠ 0) : wrD h t a k v = some (nset h a (t, n, ds x k v)) := by
  unfold wrD
  rw [frN_eq, q]
  have h1 : Nat.beq t t = true := Nat.beq_refl t
  have h2 : Nat.ble (k + 1) n = true := Nat.ble_eq_true_of_le hk
  have h3 : Nat.ble (v + 1) 36893488147419103232 = true := Nat.ble_eq_true_of_le hv
  have h4 : Nat.ble 1 v = true := Nat.ble_eq_true_of_le (show 1 ≤ v by omega)
  dsimp only
  rw [h1, h2, h3, h4, frN_eq, nsetK_eq]
  rfl
theorem wrD_ext {h h' : PH} {t a k v : Nat} (q : wrD h t a k v = some h') : Ext h h' := by
  obtain ⟨n, x, q1, -, h2, h3, rfl⟩ := wrD_some q
  refine Ext.st q1 _ fun j e => ?_
  rw [dg_ds _ _ _ _ h2]
  by_cases c : j = k
  · rw [if_pos c]; exact h3
  · rw [if_neg c]; exact e
theorem rdD_ref {h0 h : PH} {t a k d : Nat} (r : Ref h0 h) (q : rdD h0 t a k = some d) (hd : d ≠ 0) : rdD h t a k = some d := by
  obtain ⟨n, x, q1, q2, q3⟩ := rdD_some q
  obtain ⟨y, e1, e2⟩ := r.2 a _ q1
  rw [rdD_of e1 q2]
  rcases e2 k with e | e
  · exact absurd (q3.symm.trans e) hd
  · exact congrArg some (e.symm.trans q3)
theorem rdD_app {h : PH} {t a k d : Nat} (g : PH) (q : rdD h t a k = some d) : rdD (h ++ g) t a k = some d := by
  obtain ⟨n, x, q1, q2, q3⟩ := rdD_some q
  rw [rdD_of (by rw [nth_app_left (nth_lt q1)]; exact q1) q2, q3]
/-- reads of an object's field k (or of a row's place k) -/
noncomputable def gI (t k a : Nat) : PM Int32 := ⟨fun h => match rdD h t a k with
  | some (d + 1) => some (Int32.ofNat d, h)
  | _ => none, by
    refine look _ (fun h v h' q => ?_) (fun h0 h v r q => ?_) (fun h v g q => ?_)
    · try dsimp only at q
      split at q
      · cases q; rfl
      · cases q
    · try dsimp only at q ⊢
      split at q
      · rename_i d e
        rw [rdD_ref r e (Nat.succ_ne_zero d)]
        cases q
        rfl
      · cases q
    · try dsimp only at q ⊢
      split at q
      · rename_i d e
        rw [rdD_app g e]
        cases q
        rfl
      · cases q⟩
noncomputable def gJ (t k a : Nat) : PM Int64 := ⟨fun h => match rdD h t a k with
  | some (d + 1) => some (Int64.ofNat d, h)
  | _ => none, by
    refine look _ (fun h v h' q => ?_) (fun h0 h v r q => ?_) (fun h v g q => ?_)
    · try dsimp only at q
      split at q
      · cases q; rfl
      · cases q
    · try dsimp only at q ⊢
      split at q
      · rename_i d e
        rw [rdD_ref r e (Nat.succ_ne_zero d)]
        cases q
        rfl
      · cases q
    · try dsimp only at q ⊢
      split at q
      · rename_i d e
        rw [rdD_app g e]
        cases q
        rfl
      · cases q⟩
noncomputable def gA (t k a : Nat) : PM Nat := ⟨fun h => match rdD h t a k with
  | some (d + 2) => some (d, h)
  | _ => none, by
    refine look _ (fun h v h' q => ?_) (fun h0 h v r q => ?_) (fun h v g q => ?_)
    · try dsimp only at q
      split at q
      · cases q; rfl
      · cases q
    · try dsimp only at q ⊢
      split at q
      · rename_i d e
        rw [rdD_ref r e (Nat.succ_ne_zero (d + 1))]
        cases q
        rfl
      · cases q
    · try dsimp only at q ⊢
      split at q
      · rename_i d e
        rw [rdD_app g e]
        cases q
        rfl
      · cases q⟩
noncomputable def gN (t k a : Nat) : PM (Option Nat) := ⟨fun h => match rdD h t a k with
  | some (d + 2) => some (some d, h)
  | some 1 => some (none, h)
  | _ => none, by
    refine look _ (fun h v h' q => ?_) (fun h0 h v r q => ?_) (fun h v g q => ?_)
    · try dsimp only at q
      split at q
      · cases q; rfl
      · cases q; rfl
      · cases q
    · try dsimp only at q ⊢
      split at q
      · rename_i d e
        rw [rdD_ref r e (Nat.succ_ne_zero (d + 1))]
        cases q
        rfl
      · rename_i e
        rw [rdD_ref r e (by decide)]
        cases q
        rfl
      · cases q
    · try dsimp only at q ⊢
      split at q
      · rename_i d e
        rw [rdD_app g e]
        cases q
        rfl
      · rename_i e
        rw [rdD_app g e]
        cases q
        rfl
      · cases q⟩
theorem sD_ok (t k a v : Nat) : (∀ h u h', (match wrD h t a k v with
  | some h' => some ((), h')
  | none => none) = some (u, h') → Ext h h') ∧ Mono (fun h => match wrD h t a k v with
  | some h' => some ((), h')
  | none => none) ∧ Apx (fun h => match wrD h t a k v with
  | some h' => some ((), h')
  | none => none) := by
  refine ⟨fun h u h' q => ?_, fun h0 h u h0' r q => ?_, fun h u h' g q _ => ?_⟩
  · split at q
    · rename_i h2 e
      cases q
      exact wrD_ext e
    · cases q
  · try dsimp only at q ⊢
    split at q
    · rename_i h2 e
      cases q
      obtain ⟨n, x, q1, q2, q3, q4, rfl⟩ := wrD_some e
      obtain ⟨y, e1, e2⟩ := r.2 a _ q1
      rw [wrD_of e1 q2 q3 q4]
      refine ⟨_, rfl, r.st q1 e1 fun j => ?_, fun b j _ hz => ?_⟩
      · rw [dg_ds _ _ _ _ q3, dg_ds _ _ _ _ q3]
        by_cases c : j = k
        · rw [if_pos c, if_pos c]; exact Or.inr rfl
        · rw [if_neg c, if_neg c]; exact e2 j
      · rw [dig_nset (nth_lt q1)] at hz
        rw [dig_nset (nth_lt e1)]
        by_cases c : b = a
        · rw [if_pos c] at hz ⊢
          rw [dg_ds _ _ _ _ q3] at hz ⊢
          by_cases c2 : j = k
          · rw [if_pos c2] at hz; exact absurd hz q4
          · rw [if_neg c2]
            unfold dig
            rw [c, e1]
        · rw [if_neg c]
    · cases q
  · try dsimp only at q ⊢
    split at q
    · rename_i h2 e
      cases q
      obtain ⟨n, x, q1, q2, q3, q4, rfl⟩ := wrD_some e
      rw [wrD_of (by rw [nth_app_left (nth_lt q1)]; exact q1) q2 q3 q4]
      dsimp only
      rw [nset_eq, nset_eq, List.set_append_left _ _ (nth_lt q1)]
    · cases q
noncomputable def sD (t k a v : Nat) : PM Unit := ⟨fun h => match wrD h t a k v with
  | some h' => some ((), h')
  | none => none, sD_ok t k a v⟩
noncomputable def sI (t k a : Nat) (v : Int32) : PM Unit := sD t k a (eI v)
noncomputable def sJ (t k a : Nat) (v : Int64) : PM Unit := sD t k a (eJ v)
noncomputable def sR (t k a : Nat) (r : Option Nat) : PM Unit := sD t k a (eR r)
/-- an index of a row -/
noncomputable def aix (j : Int32) : Option Nat := frN j.toBitVec.toNat fun n => bif Nat.ble n 2147483647 then some n else none
noncomputable def lI (t a : Nat) (j : Int32) : PM Int32 := match aix j with
  | none => pf
  | some k => gI t k a
noncomputable def lJ (t a : Nat) (j : Int32) : PM Int64 := match aix j with
  | none => pf
  | some k => gJ t k a
noncomputable def lA (t a : Nat) (j : Int32) : PM Nat := match aix j with
  | none => pf
  | some k => gA t k a
noncomputable def lN' (t a : Nat) (j : Int32) : PM (Option Nat) := match aix j with
  | none => pf
  | some k => gN t k a
noncomputable def tI (t a : Nat) (j v : Int32) : PM Unit := match aix j with
  | none => pf
  | some k => sI t k a v
noncomputable def tJ (t a : Nat) (j : Int32) (v : Int64) : PM Unit := match aix j with
  | none => pf
  | some k => sJ t k a v
/-- the cell b is of the kind te -/
noncomputable def chk (te b : Nat) : PM Unit := ⟨fun h => match nth h b with
  | none => none
  | some (u, _, _) => bif Nat.beq u te then some ((), h) else none, by
    refine look _ (fun h v h' q => ?_) (fun h0 h v r q => ?_) (fun h v g q => ?_)
    · try dsimp only at q
      split at q
      · cases q
      · rename_i u n x e
        cases hb : Nat.beq u te with
        | false => rw [hb] at q; cases q
        | true => rw [hb] at q; cases q; rfl
    · try dsimp only at q ⊢
      cases e : nth h0 b with
      | none => rw [e] at q; cases q
      | some c =>
        obtain ⟨y, e1, e2⟩ := r.2 b _ e
        rw [e] at q
        rw [e1]
        obtain ⟨u, n, x⟩ := c
        try dsimp only at q ⊢
        cases hb : Nat.beq u te with
        | false => rw [hb] at q; cases q
        | true => cases v; rfl
    · try dsimp only at q ⊢
      cases e : nth h b with
      | none => rw [e] at q; cases q
      | some c =>
        rw [e] at q
        rw [nth_app_left (nth_lt e), e]
        obtain ⟨u, n, x⟩ := c
        try dsimp only at q ⊢
        cases hb : Nat.beq u te with
        | false => rw [hb] at q; cases q
        | true => cases v; rfl⟩
theorem chk_some {te b : Nat} {h h' : PH} {u : Unit} (q : (chk te b).1 h = some (u, h')) : h' = h ∧ ∃ n x, nth h b = some (te, n, x) := by
  unfold chk at q
  simp only at q
  split at q
  · cases q
  · rename_i w n x e
    cases hb : Nat.beq w te with
    | false => rw [hb] at q; cases q
    | true =>
      rw [hb] at q
      cases q
      exact ⟨rfl, n, x, by rw [e, ← Nat.eq_of_beq_eq_true hb]⟩
noncomputable def tA (te t a : Nat) (j : Int32) (b : Nat) : PM Unit := pb (chk te b) fun _ => match aix j with
  | none => pf
  | some k => sR t k a (some b)
noncomputable def aln (a : Nat) : PM Int32 := ⟨fun h => match nth h a with
  | none => none
  | some (u, n, _) => bif Nat.ble 16 u && Nat.ble u 24 then some (Int32.ofNat n, h) else none, by
    refine look _ (fun h v h' q => ?_) (fun h0 h v r q => ?_) (fun h v g q => ?_)
    · try dsimp only at q
      split at q
      · cases q
      · rename_i u n x e
        cases hb : (Nat.ble 16 u && Nat.ble u 24) with
        | false => rw [hb] at q; cases q
        | true => rw [hb] at q; cases q; rfl
    · try dsimp only at q ⊢
      cases e : nth h0 a with
      | none => rw [e] at q; cases q
      | some c =>
        obtain ⟨y, e1, e2⟩ := r.2 a _ e
        rw [e] at q
        rw [e1]
        obtain ⟨u, n, x⟩ := c
        try dsimp only at q ⊢
        cases hb : (Nat.ble 16 u && Nat.ble u 24) with
        | false => rw [hb] at q; cases q
        | true => rw [hb] at q; cases q; rfl
    · try dsimp only at q ⊢
      cases e : nth h a with
      | none => rw [e] at q; cases q
      | some c =>
        rw [e] at q
        rw [nth_app_left (nth_lt e), e]
        obtain ⟨u, n, x⟩ := c
        try dsimp only at q ⊢
        cases hb : (Nat.ble 16 u && Nat.ble u 24) with
        | false => rw [hb] at q; cases q
        | true => rw [hb] at q; cases q; rfl⟩
theorem aln_some {a : Nat} {h h' : PH} {v : Int32} (q : (aln a).1 h = some (v, h')) : h' = h ∧ ∃ t n x, nth h a = some (t, n, x) ∧ 16 ≤ t ∧ t < 25 ∧ v = Int32.ofNat n := by
  unfold aln at q
  simp only at q
  split at q
  · cases q
  · rename_i u n x e
    cases hb : (Nat.ble 16 u && Nat.ble u 24) with
    | false => rw [hb] at q; cases q
    | true =>
      rw [hb] at q
      cases q
      rw [Bool.and_eq_true] at hb
      have h2 := Nat.le_of_ble_eq_true hb.2
      exact ⟨rfl, u, n, x, e, Nat.le_of_ble_eq_true hb.1, by omega, rfl⟩
/-- new cells behind: nothing old changes -/
theorem grow {α : Type} (f : PH → Option (α × PH)) (v : Nat → α) (g : Nat → PH) (hg : ∀ n, 0 < (g n).length) (c : Nat → Bool) (hf : ∀ h, f h = bif c h.length then some (v h.length, h ++ g h.length) else none) : (∀ h a h', f h = some (a, h') → Ext h h') ∧ Mono f ∧ Apx f := by
  refine ⟨fun h a h' q => ?_, fun h0 h a h0' r q => ?_, fun h a h' g2 q hl => ?_⟩
  · rw [hf] at q
    cases hb : c h.length with
    | false => rw [hb] at q; cases q
    | true => rw [hb] at q; cases q; exact Ext.ap h _
  · rw [hf] at q
    cases hb : c h0.length with
    | false => rw [hb] at q; cases q
    | true =>
      rw [hb] at q
      cases q
      refine ⟨h ++ g h.length, by rw [hf, ← r.1, hb]; rfl, by rw [← r.1]; exact r.ap _, fun b j hb2 hz => ?_⟩
      unfold dig
      rw [nth_app_left hb2]
  · rw [hf] at q
    cases hb : c h.length with
    | false => rw [hb] at q; cases q
    | true =>
      rw [hb] at q
      cases q
      rw [List.length_append] at hl
      have := hg h.length
      omega
/-- a list behind another, given on when it is laid out -/
noncomputable def apK {β : Type} (h : PH) : PH → (PH → β) → β := @List.rec PC (fun _ => PH → (PH → β) → β) (fun g k => k g) (fun c _ ih g k => ih g (fun t' => k (c :: t'))) h
theorem apK_eq {β : Type} (h : PH) : ∀ (g : PH) (k : PH → β), apK h g k = k (h ++ g) := by
  induction h with
  | nil => intro g k; rfl
  | cons c t ih =>
    intro g k
    show apK t g (fun t' => k (c :: t')) = _
    rw [ih]
    rfl
noncomputable def lenK {β : Type} (h : PH) : Nat → (Nat → β) → β := @List.rec PC (fun _ => Nat → (Nat → β) → β) (fun n k => frN n k) (fun _ _ ih n k => ih (Nat.add n 1) k) h
theorem lenK_eq {β : Type} (h : PH) : ∀ (n : Nat) (k : Nat → β), lenK h n k = k (n + h.length) := by
  induction h with
  | nil => intro n k; exact frN_eq n k
  | cons c t ih =>
    intro n k
    show lenK t (Nat.add n 1) k = _
    rw [ih]
    congr 1
    simp only [List.length_cons, Nat.add_eq]
    omega
noncomputable def al (t n0 : Nat) : PM Nat := ⟨fun h => frN n0 fun n => bif Nat.ble n 1000000 then frN (onesF n) fun o => lenK h 0 fun l => apK h [(t, n, o)] fun h' => some (l, h') else none, grow _ (fun l => l) (fun _ => [(t, n0, onesF n0)]) (fun _ => Nat.zero_lt_one) (fun _ => Nat.ble n0 1000000) (fun h => by simp only [frN_eq, lenK_eq, apK_eq, Nat.zero_add])⟩
theorem al_some {t n a : Nat} {h h' : PH} (q : (al t n).1 h = some (a, h')) : n ≤ 1000000 ∧ a = h.length ∧ h' = h ++ [(t, n, onesF n)] := by
  unfold al at q
  simp only [frN_eq, lenK_eq, apK_eq, Nat.zero_add] at q
  cases hb : Nat.ble n 1000000 with
  | false => rw [hb] at q; cases q
  | true => rw [hb] at q; cases q; exact ⟨Nat.le_of_ble_eq_true hb, rfl, rfl⟩
noncomputable def nA (t : Nat) (j : Int32) : PM Nat := match aix j with
  | none => pf
  | some n => al t n
/-- new T[n][k] -/
noncomputable def mna (t ti : Nat) (i j : Int32) : PM Nat := match aix i with
  | none => pf
  | some n => match aix j with
    | none => pf
    | some k => ⟨fun h => lenK h 0 fun l => bif Nat.ble n 1000000 && (Nat.ble k 1000000 && Nat.ble (l + n) 1000000000) then frN (onesF k) fun o => frN (refs (l + 3) n) fun r => apK ((t, n, r) :: List.replicate n (ti, k, o)) [] fun g => apK h g fun h' => some (l, h') else none, grow _ (fun l => l) (fun l => (t, n, refs (l + 3) n) :: List.replicate n (ti, k, onesF k)) (fun _ => Nat.zero_lt_succ _) (fun l => Nat.ble n 1000000 && (Nat.ble k 1000000 && Nat.ble (l + n) 1000000000)) (fun h => by simp only [frN_eq, lenK_eq, apK_eq, Nat.zero_add, List.append_nil])⟩
theorem gI_some {t k a : Nat} {h h' : PH} {v : Int32} (q : (gI t k a).1 h = some (v, h')) : h' = h ∧ ∃ d, rdD h t a k = some (d + 1) ∧ v = Int32.ofNat d := by
  unfold gI at q
  simp only at q
  split at q
  · rename_i d e
    cases q
    exact ⟨rfl, d, e, rfl⟩
  · cases q
theorem gJ_some {t k a : Nat} {h h' : PH} {v : Int64} (q : (gJ t k a).1 h = some (v, h')) : h' = h ∧ ∃ d, rdD h t a k = some (d + 1) ∧ v = Int64.ofNat d := by
  unfold gJ at q
  simp only at q
  split at q
  · rename_i d e
    cases q
    exact ⟨rfl, d, e, rfl⟩
  · cases q
theorem gA_some {t k a v : Nat} {h h' : PH} (q : (gA t k a).1 h = some (v, h')) : h' = h ∧ rdD h t a k = some (v + 1 + 1) := by
  unfold gA at q
  simp only at q
  split at q
  · rename_i d e
    cases q
    exact ⟨rfl, e⟩
  · cases q
theorem gN_some {t k a : Nat} {v : Option Nat} {h h' : PH} (q : (gN t k a).1 h = some (v, h')) : h' = h ∧ ∃ d, rdD h t a k = some (d + 1) ∧ v = (match d with
  | 0 => none
  | b + 1 => some b) := by
  unfold gN at q
  simp only at q
  split at q
  · rename_i d e
    cases q
    exact ⟨rfl, d + 1, e, rfl⟩
  · rename_i e
    cases q
    exact ⟨rfl, 0, e, rfl⟩
  · cases q
theorem sD_some {t k a v : Nat} {u : Unit} {h h' : PH} (q : (sD t k a v).1 h = some (u, h')) : wrD h t a k v = some h' := by
  unfold sD at q
  simp only at q
  split at q
  · rename_i h2 e
    cases q
    exact e
  · cases q
theorem aix_some {j : Int32} {k : Nat} (q : aix j = some k) : ¬ j < 0 ∧ j.toNatClampNeg = k := by
  unfold aix at q
  rw [frN_eq] at q
  cases hb : Nat.ble j.toBitVec.toNat 2147483647 with
  | false => rw [hb] at q; cases q
  | true =>
    rw [hb] at q
    simp only [cond_true, Option.some.injEq] at q
    have h1 : j.toBitVec.toNat ≤ 2147483647 := Nat.le_of_ble_eq_true hb
    have h2 : j = nI k := by rw [← q]; exact (ofI j).symm
    have h3 : k < 2 ^ 31 := by omega
    rw [h2]
    exact ⟨nI_pos h3, nI_clamp h3⟩
