/-! PURE HEAP: a cell is (tag, length, digits); a digit 0 is unknown, d + 1 is the value d -/
abbrev PC : Type := Nat × Nat × Nat
abbrev PH : Type := List PC
def dg (x i : Nat) : Nat := (x >>> (65 * i)) % 36893488147419103232
def ds (x i v : Nat) : Nat := x ^^^ ((dg x i ^^^ v) <<< (65 * i))
theorem dg_lt (x i : Nat) : dg x i < 36893488147419103232 := Nat.mod_lt _ (by decide)
theorem dg_tb (x i k : Nat) : (dg x i).testBit k = (decide (k < 65) && x.testBit (65 * i + k)) := by
  unfold dg
  rw [show (36893488147419103232 : Nat) = 2 ^ 65 from rfl, Nat.testBit_mod_two_pow, Nat.testBit_shiftRight]
theorem dg_ds (x i v j : Nat) (hv : v < 36893488147419103232) : dg (ds x i v) j = if j = i then v else dg x j := by
  have hv' : v < 2 ^ 65 := hv
  apply Nat.eq_of_testBit_eq
  intro k
  rw [dg_tb]
  by_cases hk : k < 65
  · unfold ds
    rw [Nat.testBit_xor, Nat.testBit_shiftLeft, Nat.testBit_xor, dg_tb]
    by_cases hji : j = i
    · subst hji
      simp [hk]
    · rw [if_neg hji, dg_tb]
      rcases Nat.lt_or_gt_of_ne hji with h | h
      · have h1 : ¬ 65 * i ≤ 65 * j + k := by omega
        simp [hk, h1]
      · have h1 : 65 * i ≤ 65 * j + k := by omega
        have h2 : ¬ (65 * j + k - 65 * i < 65) := by omega
        have h3 : v.testBit (65 * j + k - 65 * i) = false := Nat.testBit_lt_two_pow (Nat.lt_of_lt_of_le hv' (Nat.pow_le_pow_right (by decide) (by omega)))
        simp [hk, h1, h2, h3]
  · have h4 : (if j = i then v else dg x j) < 2 ^ 65 := by
      split
      · exact hv'
      · exact dg_lt x j
    rw [Nat.testBit_lt_two_pow (Nat.lt_of_lt_of_le h4 (Nat.pow_le_pow_right (by decide) (by omega)))]
    simp [hk]
def ones : Nat → Nat
  | 0 => 0
  | n + 1 => ones n + 2 ^ (65 * n)
/-- n digits 1 -/
def onesF (n : Nat) : Nat := (2 ^ (65 * n) - 1) / 36893488147419103231
theorem ones_aux (A P B : Nat) (ih : A + 1 = P) : A + B + 1 = B + P := by omega
theorem ones_eq (n : Nat) : ones n * 36893488147419103231 + 1 = 2 ^ (65 * n) := by
  induction n with
  | zero => rfl
  | succ n ih =>
    have e : ∀ P : Nat, P * 36893488147419103232 = P * 36893488147419103231 + P := fun P => Nat.mul_succ P 36893488147419103231
    rw [ones, Nat.add_mul, show 65 * (n + 1) = 65 * n + 65 by omega, Nat.pow_add]
    have e2 : (2 : Nat) ^ 65 = 36893488147419103232 := by decide
    rw [e2, e (2 ^ (65 * n))]
    exact ones_aux _ _ _ ih
theorem onesF_eq (n : Nat) : onesF n = ones n := by
  unfold onesF
  rw [← ones_eq n, Nat.add_sub_cancel]
  exact Nat.mul_div_cancel _ (by decide)
theorem ones_lt (n : Nat) : ones n < 2 ^ (65 * n) := by
  have := ones_eq n
  omega
theorem dg_ones (n i : Nat) : dg (ones n) i = if i < n then 1 else 0 := by
  induction n with
  | zero => simp [ones, dg]
  | succ n ih =>
    show dg (ones n + 2 ^ (65 * n)) i = _
    unfold dg at ih ⊢
    rcases Nat.lt_trichotomy i n with h | h | h
    · rw [if_pos h] at ih
      rw [if_pos (by omega), ← ih]
      have e : 65 * n = 65 * i + 65 + 65 * (n - i - 1) := by omega
      rw [Nat.shiftRight_eq_div_pow, Nat.shiftRight_eq_div_pow, e, Nat.pow_add 2 (65 * i + 65), Nat.pow_add 2 (65 * i), show (2 : Nat) ^ 65 = 36893488147419103232 from rfl, Nat.mul_assoc, Nat.add_mul_div_left _ _ (Nat.two_pow_pos _), Nat.add_mul_mod_self_left]
    · subst h
      rw [if_pos (by omega), Nat.shiftRight_eq_div_pow]
      have h1 := ones_lt i
      rw [Nat.add_div_right _ (Nat.two_pow_pos _), Nat.div_eq_of_lt h1]
    · rw [if_neg (by omega), Nat.shiftRight_eq_div_pow]
      have h1 := ones_lt (n + 1)
      rw [ones] at h1
      rw [Nat.div_eq_of_lt (Nat.lt_of_lt_of_le h1 (Nat.pow_le_pow_right (by decide) (by omega)))]
theorem dg_onesF (n i : Nat) : dg (onesF n) i = if i < n then 1 else 0 := by rw [onesF_eq, dg_ones]
/-- n digits b, b + 1, .. -/
noncomputable def refs (b : Nat) : Nat → Nat
  | 0 => 0
  | n + 1 => ds (refs b n) n (b + n)
theorem dg_refs (b n i : Nat) (hb : b + n ≤ 36893488147419103232) : dg (refs b n) i = if i < n then b + i else 0 := by
  induction n with
  | zero => simp [refs, dg]
  | succ n ih =>
    rw [refs, dg_ds _ _ _ _ (by omega), ih (by omega)]
    rcases Nat.lt_trichotomy i n with h | h | h
    · rw [if_neg (by omega), if_pos h, if_pos (by omega)]
    · rw [if_pos h, if_pos (by omega), h]
    · rw [if_neg (by omega), if_neg (by omega), if_neg (by omega)]
def eI (x : Int32) : Nat := x.toBitVec.toNat + 1
def eJ (x : Int64) : Nat := x.toBitVec.toNat + 1
def eR (r : Option Nat) : Nat := match r with
  | none => 1
  | some a => a + 2
theorem eI_lt (x : Int32) : eI x < 36893488147419103232 := by
  have := x.toBitVec.isLt
  unfold eI
  omega
theorem eJ_lt (x : Int64) : eJ x < 36893488147419103232 := by
  have := x.toBitVec.isLt
  unfold eJ
  omega
theorem ofI (x : Int32) : Int32.ofNat x.toBitVec.toNat = x := by
  apply Int32.toBitVec_inj.mp
  show BitVec.ofNat 32 x.toBitVec.toNat = x.toBitVec
  simp
theorem ofJ (x : Int64) : Int64.ofNat x.toBitVec.toNat = x := by
  apply Int64.toBitVec_inj.mp
  show BitVec.ofNat 64 x.toBitVec.toNat = x.toBitVec
  simp
/-- the list's cells -/
noncomputable def nth (h : PH) : Nat → Option PC := @List.rec PC (fun _ => Nat → Option PC) (fun _ => none) (fun c _ ih n => @Nat.casesOn (fun _ => Option PC) n (some c) ih) h
noncomputable def nset (h : PH) : Nat → PC → PH := @List.rec PC (fun _ => Nat → PC → PH) (fun _ _ => []) (fun c t ih n d => @Nat.casesOn (fun _ => PH) n (d :: t) (fun k => c :: ih k d)) h
theorem nth_eq (h : PH) (a : Nat) : nth h a = h[a]? := by
  induction h generalizing a with
  | nil => simp [nth]
  | cons c t ih =>
    cases a with
    | zero => rfl
    | succ n =>
      rw [List.getElem?_cons_succ, ← ih n]
      rfl
theorem nset_eq (h : PH) (a : Nat) (d : PC) : nset h a d = h.set a d := by
  induction h generalizing a with
  | nil => simp [nset]
  | cons c t ih =>
    cases a with
    | zero => rfl
    | succ n =>
      rw [List.set_cons_succ, ← ih n]
      rfl
theorem nth_lt {h : PH} {a : Nat} {c : PC} (q : nth h a = some c) : a < h.length := by
  rw [nth_eq] at q
  exact (List.getElem?_eq_some_iff.mp q).1
theorem nth_nset_same {h : PH} {a : Nat} {d : PC} (q : a < h.length) : nth (nset h a d) a = some d := by
  rw [nth_eq, nset_eq, List.getElem?_set_self q]
theorem nth_nset_ne {h : PH} {a b : Nat} {d : PC} (q : b ≠ a) : nth (nset h a d) b = nth h b := by
  rw [nth_eq, nset_eq, List.getElem?_set_ne (Ne.symm q), nth_eq]
theorem nset_len (h : PH) (a : Nat) (d : PC) : (nset h a d).length = h.length := by rw [nset_eq, List.length_set]
theorem nth_app_left {h g : PH} {a : Nat} (q : a < h.length) : nth (h ++ g) a = nth h a := by rw [nth_eq, nth_eq, List.getElem?_append_left q]
theorem nth_app_right {h g : PH} {a : Nat} (q : h.length ≤ a) : nth (h ++ g) a = nth g (a - h.length) := by rw [nth_eq, nth_eq, List.getElem?_append_right q]
def sl (h : PH) : Nat := (h.map fun c => c.2.1).sum
theorem sl_app (h g : PH) : sl (h ++ g) = sl h + sl g := by simp [sl]
theorem sl_nset {h : PH} {a : Nat} {c d : PC} (q : nth h a = some c) (e : d.2.1 = c.2.1) : sl (nset h a d) = sl h := by
  rw [nset_eq]
  rw [nth_eq] at q
  induction h generalizing a with
  | nil => simp at q
  | cons b t ih =>
    cases a with
    | zero =>
      simp only [List.getElem?_cons_zero, Option.some.injEq] at q
      subst q
      simp [sl, e]
    | succ n =>
      rw [List.getElem?_cons_succ] at q
      have := ih q
      simp only [sl, List.set_cons_succ, List.map_cons, List.sum_cons] at *
      omega
/-- what every step keeps: cells stay, their tags and lengths too -/
def Ext (h h' : PH) : Prop := h.length ≤ h'.length ∧ sl h ≤ sl h' ∧ ∀ a c, nth h a = some c → ∃ x, nth h' a = some (c.1, c.2.1, x)
theorem Ext.rf (h : PH) : Ext h h := ⟨Nat.le_refl _, Nat.le_refl _, fun _ c q => ⟨c.2.2, q⟩⟩
theorem Ext.tr {h1 h2 h3 : PH} (a : Ext h1 h2) (b : Ext h2 h3) : Ext h1 h3 := ⟨Nat.le_trans a.1 b.1, Nat.le_trans a.2.1 b.2.1, fun i c q => by
  obtain ⟨x, q1⟩ := a.2.2 i c q
  obtain ⟨y, q2⟩ := b.2.2 i _ q1
  exact ⟨y, q2⟩⟩
theorem Ext.st {h : PH} {a : Nat} {c : PC} (q : nth h a = some c) (x : Nat) : Ext h (nset h a (c.1, c.2.1, x)) := by
  refine ⟨by rw [nset_len]; exact Nat.le_refl _, by rw [sl_nset (d := (c.1, c.2.1, x)) q rfl]; exact Nat.le_refl _, fun b d q2 => ?_⟩
  by_cases e : b = a
  · subst e
    cases Option.some.inj (q.symm.trans q2)
    exact ⟨x, nth_nset_same (nth_lt q)⟩
  · exact ⟨d.2.2, by rw [nth_nset_ne e]; exact q2⟩
theorem Ext.ap (h g : PH) : Ext h (h ++ g) := by
  refine ⟨by simp, by rw [sl_app]; omega, fun b d q2 => ⟨d.2.2, ?_⟩⟩
  rw [nth_app_left (nth_lt q2)]
  exact q2
/-- a program over the pure heap -/
abbrev PM (α : Type) : Type := {f : PH → Option (α × PH) // ∀ h a h', f h = some (a, h') → Ext h h'}
noncomputable def pp {α : Type} (a : α) : PM α := ⟨fun h => some (a, h), fun h b h' q => by cases q; exact Ext.rf h⟩
noncomputable def pf {α : Type} : PM α := ⟨fun _ => none, fun _ _ _ q => by cases q⟩
noncomputable def pb {α β : Type} (x : PM α) (k : α → PM β) : PM β := ⟨fun h => match x.1 h with
  | none => none
  | some r => (k r.1).1 r.2, fun h b h' q => by
    dsimp only at q
    cases e : x.1 h with
    | none => rw [e] at q; cases q
    | some r =>
      rw [e] at q
      exact (x.2 h r.1 r.2 e).tr ((k r.1).2 _ _ _ q)⟩
/-- one round after another, at most n: a round goes on or ends -/
noncomputable def plo {σ ε : Type} (body : σ → PM (σ ⊕ ε)) : Nat → σ → PM ε
  | 0, _ => pf
  | n + 1, x => pb (body x) fun r => match r with
    | .inl y => plo body n y
    | .inr z => pp z
theorem pb_some {α β : Type} {x : PM α} {k : α → PM β} {h : PH} {r : β × PH} (q : (pb x k).1 h = some r) : ∃ a h1, x.1 h = some (a, h1) ∧ (k a).1 h1 = some r := by
  unfold pb at q
  simp only at q
  cases e : x.1 h with
  | none => rw [e] at q; cases q
  | some y =>
    rw [e] at q
    exact ⟨y.1, y.2, rfl, q⟩
theorem pb_of {α β : Type} {x : PM α} {k : α → PM β} {h h1 : PH} {a : α} (q : x.1 h = some (a, h1)) : (pb x k).1 h = (k a).1 h1 := by
  unfold pb
  simp only [q]
theorem pp_some {α : Type} {a b : α} {h h' : PH} (q : (pp a).1 h = some (b, h')) : a = b ∧ h = h' := by
  cases q
  exact ⟨rfl, rfl⟩
noncomputable def rdD (h : PH) (t a k : Nat) : Option Nat := match nth h a with
  | none => none
  | some c => bif Nat.beq c.1 t && Nat.blt k c.2.1 then some (dg c.2.2 k) else none
noncomputable def wrD (h : PH) (t a k v : Nat) : Option PH := match nth h a with
  | none => none
  | some c => bif Nat.beq c.1 t && (Nat.blt k c.2.1 && Nat.blt v 36893488147419103232) then some (nset h a (c.1, c.2.1, ds c.2.2 k v)) else none
theorem rdD_some {h : PH} {t a k d : Nat} (q : rdD h t a k = some d) : ∃ n x, nth h a = some (t, n, x) ∧ k < n ∧ dg x k = d := by
  unfold rdD at q
  split at q
  · cases q
  · rename_i c e
    cases hb : (Nat.beq c.1 t && Nat.blt k c.2.1) with
    | false => rw [hb] at q; cases q
    | true =>
      rw [hb] at q
      simp only [cond_true, Option.some.injEq] at q
      rw [Bool.and_eq_true] at hb
      have h1 : c.1 = t := Nat.eq_of_beq_eq_true hb.1
      have h2 : k < c.2.1 := Nat.le_of_ble_eq_true (n := k + 1) hb.2
      exact ⟨c.2.1, c.2.2, by rw [e, ← h1], h2, q⟩
theorem rdD_of {h : PH} {t a k n x : Nat} (q : nth h a = some (t, n, x)) (hk : k < n) : rdD h t a k = some (dg x k) := by
  unfold rdD
  simp only [q]
  have h1 : Nat.beq t t = true := Nat.beq_refl t
  have h2 : Nat.blt k n = true := Nat.ble_eq_true_of_le hk
  rw [h1, h2]
  rfl
theorem wrD_some {h h' : PH} {t a k v : Nat} (q : wrD h t a k v = some h') : ∃ n x, nth h a = some (t, n, x) ∧ k < n ∧ v < 36893488147419103232 ∧ h' = nset h a (t, n, ds x k v) := by
  unfold wrD at q
  split at q
  · cases q
  · rename_i c e
    cases hb : (Nat.beq c.1 t && (Nat.blt k c.2.1 && Nat.blt v 36893488147419103232)) with
    | false => rw [hb] at q; cases q
    | true =>
      rw [hb] at q
      simp only [cond_true, Option.some.injEq] at q
      rw [Bool.and_eq_true, Bool.and_eq_true] at hb
      have h1 : c.1 = t := Nat.eq_of_beq_eq_true hb.1
      have h2 : k < c.2.1 := Nat.le_of_ble_eq_true (n := k + 1) hb.2.1
      have h3 : v < 36893488147419103232 := Nat.le_of_ble_eq_true (n := v + 1) hb.2.2
      exact ⟨c.2.1, c.2.2, by rw [e, ← h1], h2, h3, by rw [← q, h1]⟩
theorem wrD_ext {h h' : PH} {t a k v : Nat} (q : wrD h t a k v = some h') : Ext h h' := by
  obtain ⟨n, x, q1, -, -, rfl⟩ := wrD_some q
  exact Ext.st q1 _
/-- reads of an object's field k (or of a row's place k) -/
noncomputable def gI (t k a : Nat) : PM Int32 := ⟨fun h => match rdD h t a k with
  | some (d + 1) => some (Int32.ofNat d, h)
  | _ => none, fun h v h' q => by
    simp only at q
    split at q
    · cases q; exact Ext.rf h
    · cases q⟩
noncomputable def gJ (t k a : Nat) : PM Int64 := ⟨fun h => match rdD h t a k with
  | some (d + 1) => some (Int64.ofNat d, h)
  | _ => none, fun h v h' q => by
    simp only at q
    split at q
    · cases q; exact Ext.rf h
    · cases q⟩
noncomputable def gA (t k a : Nat) : PM Nat := ⟨fun h => match rdD h t a k with
  | some (d + 2) => some (d, h)
  | _ => none, fun h v h' q => by
    simp only at q
    split at q
    · cases q; exact Ext.rf h
    · cases q⟩
noncomputable def gN (t k a : Nat) : PM (Option Nat) := ⟨fun h => match rdD h t a k with
  | some (d + 2) => some (some d, h)
  | some 1 => some (none, h)
  | _ => none, fun h v h' q => by
    simp only at q
    split at q
    · cases q; exact Ext.rf h
    · cases q; exact Ext.rf h
    · cases q⟩
noncomputable def sD (t k a v : Nat) : PM Unit := ⟨fun h => match wrD h t a k v with
  | some h' => some ((), h')
  | none => none, fun h u h' q => by
    simp only at q
    split at q
    · rename_i h2 e
      cases q
      exact wrD_ext e
    · cases q⟩
noncomputable def sI (t k a : Nat) (v : Int32) : PM Unit := sD t k a (eI v)
noncomputable def sJ (t k a : Nat) (v : Int64) : PM Unit := sD t k a (eJ v)
noncomputable def sR (t k a : Nat) (r : Option Nat) : PM Unit := sD t k a (eR r)
/-- an index of a row -/
def aix (j : Int32) : Option Nat := bif Nat.blt j.toBitVec.toNat 2147483648 then some j.toBitVec.toNat else none
noncomputable def lI (t a : Nat) (j : Int32) : PM Int32 := match aix j with
  | none => pf
  | some k => gI t k a
noncomputable def lJ (t a : Nat) (j : Int32) : PM Int64 := match aix j with
  | none => pf
  | some k => gJ t k a
noncomputable def lA (t a : Nat) (j : Int32) : PM Nat := match aix j with
  | none => pf
  | some k => gA t k a
noncomputable def lN' (t a : Nat) (j : Int32) : PM (Option Nat) := match aix j with
  | none => pf
  | some k => gN t k a
noncomputable def tI (t a : Nat) (j v : Int32) : PM Unit := match aix j with
  | none => pf
  | some k => sI t k a v
noncomputable def tJ (t a : Nat) (j : Int32) (v : Int64) : PM Unit := match aix j with
  | none => pf
  | some k => sJ t k a v
/-- the cell b is of the kind te -/
noncomputable def chk (te b : Nat) : PM Unit := ⟨fun h => match nth h b with
  | none => none
  | some c => bif Nat.beq c.1 te then some ((), h) else none, fun h u h' q => by
    simp only at q
    split at q
    · cases q
    · rename_i c e
      cases hb : Nat.beq c.1 te with
      | false => rw [hb] at q; cases q
      | true => rw [hb] at q; cases q; exact Ext.rf h⟩
theorem chk_some {te b : Nat} {h h' : PH} {u : Unit} (q : (chk te b).1 h = some (u, h')) : h' = h ∧ ∃ n x, nth h b = some (te, n, x) := by
  unfold chk at q
  simp only at q
  split at q
  · cases q
  · rename_i c e
    cases hb : Nat.beq c.1 te with
    | false => rw [hb] at q; cases q
    | true =>
      rw [hb] at q
      cases q
      exact ⟨rfl, c.2.1, c.2.2, by rw [e, ← Nat.eq_of_beq_eq_true hb]⟩
noncomputable def tA (te t a : Nat) (j : Int32) (b : Nat) : PM Unit := pb (chk te b) fun _ => match aix j with
  | none => pf
  | some k => sR t k a (some b)
noncomputable def aln (a : Nat) : PM Int32 := ⟨fun h => match nth h a with
  | none => none
  | some c => bif Nat.ble 16 c.1 && Nat.ble c.1 24 then some (Int32.ofNat c.2.1, h) else none, fun h u h' q => by
    simp only at q
    split at q
    · cases q
    · rename_i c e
      cases hb : (Nat.ble 16 c.1 && Nat.ble c.1 24) with
      | false => rw [hb] at q; cases q
      | true => rw [hb] at q; cases q; exact Ext.rf h⟩
theorem aln_some {a : Nat} {h h' : PH} {v : Int32} (q : (aln a).1 h = some (v, h')) : h' = h ∧ ∃ t n x, nth h a = some (t, n, x) ∧ 16 ≤ t ∧ t < 25 ∧ v = Int32.ofNat n := by
  unfold aln at q
  simp only at q
  split at q
  · cases q
  · rename_i c e
    cases hb : (Nat.ble 16 c.1 && Nat.ble c.1 24) with
    | false => rw [hb] at q; cases q
    | true =>
      rw [hb] at q
      cases q
      rw [Bool.and_eq_true] at hb
      have h2 := Nat.le_of_ble_eq_true hb.2
      exact ⟨rfl, c.1, c.2.1, c.2.2, e, Nat.le_of_ble_eq_true hb.1, by omega, rfl⟩
noncomputable def al (t n : Nat) : PM Nat := ⟨fun h => bif Nat.ble n 1000000 then some (h.length, h ++ [(t, n, onesF n)]) else none, fun h a h' q => by
    simp only at q
    cases hb : Nat.ble n 1000000 with
    | false => rw [hb] at q; cases q
    | true => rw [hb] at q; cases q; exact Ext.ap h _⟩
theorem al_some {t n a : Nat} {h h' : PH} (q : (al t n).1 h = some (a, h')) : n ≤ 1000000 ∧ a = h.length ∧ h' = h ++ [(t, n, onesF n)] := by
  unfold al at q
  simp only at q
  cases hb : Nat.ble n 1000000 with
  | false => rw [hb] at q; cases q
  | true => rw [hb] at q; cases q; exact ⟨Nat.le_of_ble_eq_true hb, rfl, rfl⟩
noncomputable def nA (t : Nat) (j : Int32) : PM Nat := match aix j with
  | none => pf
  | some n => al t n
/-- new T[n][k] -/
noncomputable def mna (t ti : Nat) (i j : Int32) : PM Nat := match aix i with
  | none => pf
  | some n => match aix j with
    | none => pf
    | some k => ⟨fun h => bif Nat.ble n 1000000 && (Nat.ble k 1000000 && Nat.ble (h.length + n) 1000000000) then some (h.length, h ++ ((t, n, refs (h.length + 3) n) :: List.replicate n (ti, k, onesF k))) else none, fun h a h' q => by
      simp only at q
      cases hb : (Nat.ble n 1000000 && (Nat.ble k 1000000 && Nat.ble (h.length + n) 1000000000)) with
      | false => rw [hb] at q; cases q
      | true => rw [hb] at q; cases q; exact Ext.ap h _⟩
theorem gI_some {t k a : Nat} {h h' : PH} {v : Int32} (q : (gI t k a).1 h = some (v, h')) : h' = h ∧ ∃ d, rdD h t a k = some (d + 1) ∧ v = Int32.ofNat d := by
  unfold gI at q
  simp only at q
  split at q
  · rename_i d e
    cases q
    exact ⟨rfl, d, e, rfl⟩
  · cases q
theorem gJ_some {t k a : Nat} {h h' : PH} {v : Int64} (q : (gJ t k a).1 h = some (v, h')) : h' = h ∧ ∃ d, rdD h t a k = some (d + 1) ∧ v = Int64.ofNat d := by
  unfold gJ at q
  simp only at q
  split at q
  · rename_i d e
    cases q
    exact ⟨rfl, d, e, rfl⟩
  · cases q
theorem gA_some {t k a v : Nat} {h h' : PH} (q : (gA t k a).1 h = some (v, h')) : h' = h ∧ rdD h t a k = some (v + 1 + 1) := by
  unfold gA at q
  simp only at q
  split at q
  · rename_i d e
    cases q
    exact ⟨rfl, e⟩
  · cases q
theorem gN_some {t k a : Nat} {v : Option Nat} {h h' : PH} (q : (gN t k a).1 h = some (v, h')) : h' = h ∧ ∃ d, rdD h t a k = some (d + 1) ∧ v = (match d with
  | 0 => none
  | b + 1 => some b) := by
  unfold gN at q
  simp only at q
  split at q
  · rename_i d e
    cases q
    exact ⟨rfl, d + 1, e, rfl⟩
  · rename_i e
    cases q
    exact ⟨rfl, 0, e, rfl⟩
  · cases q
theorem sD_some {t k a v : Nat} {u : Unit} {h h' : PH} (q : (sD t k a v).1 h = some (u, h')) : wrD h t a k v = some h' := by
  unfold sD at q
  simp only at q
  split at q
  · rename_i h2 e
    cases q
    exact e
  · cases q
theorem aix_some {j : Int32} {k : Nat} (q : aix j = some k) : ¬ j < 0 ∧ j.toNatClampNeg = k := by
  unfold aix at q
  cases hb : Nat.blt j.toBitVec.toNat 2147483648 with
  | false => rw [hb] at q; cases q
  | true =>
    rw [hb] at q
    simp only [cond_true, Option.some.injEq] at q
    have h1 : j.toBitVec.toNat < 2147483648 := Nat.le_of_ble_eq_true (n := j.toBitVec.toNat + 1) hb
    have h2 : j = nI k := by rw [← q]; exact (ofI j).symm
    have h3 : k < 2 ^ 31 := by omega
    rw [h2]
    exact ⟨nI_pos h3, nI_clamp h3⟩
