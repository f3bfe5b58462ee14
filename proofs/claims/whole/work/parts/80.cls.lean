/-! THE CLASS'S HEAP: its own cells at 0 to 26; levels, operators and what they make behind -/
def ctag (a : Nat) : Nat := match a with
  | 0 => 8
  | 1 => 20
  | 2 => 7
  | 3 => 18
  | 4 => 7
  | 5 => 18
  | 6 => 2
  | 7 => 22
  | 8 => 7
  | 9 => 7
  | 10 => 7
  | 11 => 7
  | 12 => 7
  | 13 => 7
  | 14 => 18
  | 15 => 18
  | 16 => 18
  | 17 => 18
  | 18 => 18
  | 19 => 18
  | 20 => 6
  | 21 => 16
  | 22 => 17
  | 23 => 17
  | 24 => 17
  | 25 => 1
  | 26 => 17
  | _ => 0
def clen (a : Nat) : Nat := match a with
  | 0 => 9
  | 1 => 26
  | 2 => 2
  | 3 => 9
  | 4 => 2
  | 5 => 9
  | 6 => 2
  | 7 => 6
  | 8 => 2
  | 9 => 2
  | 10 => 2
  | 11 => 2
  | 12 => 2
  | 13 => 2
  | 14 => 9
  | 15 => 9
  | 16 => 9
  | 17 => 9
  | 18 => 9
  | 19 => 9
  | 20 => 8
  | 21 => 120
  | 22 => 60
  | 23 => 60
  | 24 => 60
  | 25 => 1
  | 26 => 61
  | _ => 0
theorem cl_0 : clen 0 = 9 := rfl
theorem cl_1 : clen 1 = 26 := rfl
theorem cl_2 : clen 2 = 2 := rfl
theorem cl_3 : clen 3 = 9 := rfl
theorem cl_4 : clen 4 = 2 := rfl
theorem cl_5 : clen 5 = 9 := rfl
theorem cl_6 : clen 6 = 2 := rfl
theorem cl_7 : clen 7 = 6 := rfl
theorem cl_8 : clen 8 = 2 := rfl
theorem cl_9 : clen 9 = 2 := rfl
theorem cl_10 : clen 10 = 2 := rfl
theorem cl_11 : clen 11 = 2 := rfl
theorem cl_12 : clen 12 = 2 := rfl
theorem cl_13 : clen 13 = 2 := rfl
theorem cl_14 : clen 14 = 9 := rfl
theorem cl_15 : clen 15 = 9 := rfl
theorem cl_16 : clen 16 = 9 := rfl
theorem cl_17 : clen 17 = 9 := rfl
theorem cl_18 : clen 18 = 9 := rfl
theorem cl_19 : clen 19 = 9 := rfl
theorem cl_20 : clen 20 = 8 := rfl
theorem cl_21 : clen 21 = 120 := rfl
theorem cl_22 : clen 22 = 60 := rfl
theorem cl_23 : clen 23 = 60 := rfl
theorem cl_24 : clen 24 = 60 := rfl
theorem cl_25 : clen 25 = 1 := rfl
theorem cl_26 : clen 26 = 61 := rfl
def cref (a k : Nat) : Nat := match a, k with
  | 0, 0 => 1
  | 0, 1 => 2
  | 0, 2 => 4
  | 0, 3 => 6
  | 0, 4 => 20
  | 0, 5 => 25
  | 2, 1 => 3
  | 4, 1 => 5
  | 6, 0 => 7
  | 8, 1 => 14
  | 9, 1 => 15
  | 10, 1 => 16
  | 11, 1 => 17
  | 12, 1 => 18
  | 13, 1 => 19
  | 20, 0 => 21
  | 20, 2 => 22
  | 20, 3 => 23
  | 20, 4 => 24
  | 25, 0 => 26
  | _, _ => 0
theorem cr_0_0 : cref 0 0 = 1 := rfl
theorem cr_0_1 : cref 0 1 = 2 := rfl
theorem cr_0_2 : cref 0 2 = 4 := rfl
theorem cr_0_3 : cref 0 3 = 6 := rfl
theorem cr_0_4 : cref 0 4 = 20 := rfl
theorem cr_0_5 : cref 0 5 = 25 := rfl
theorem cr_2_1 : cref 2 1 = 3 := rfl
theorem cr_4_1 : cref 4 1 = 5 := rfl
theorem cr_6_0 : cref 6 0 = 7 := rfl
theorem cr_8_1 : cref 8 1 = 14 := rfl
theorem cr_9_1 : cref 9 1 = 15 := rfl
theorem cr_10_1 : cref 10 1 = 16 := rfl
theorem cr_11_1 : cref 11 1 = 17 := rfl
theorem cr_12_1 : cref 12 1 = 18 := rfl
theorem cr_13_1 : cref 13 1 = 19 := rfl
theorem cr_20_0 : cref 20 0 = 21 := rfl
theorem cr_20_2 : cref 20 2 = 22 := rfl
theorem cr_20_3 : cref 20 3 = 23 := rfl
theorem cr_20_4 : cref 20 4 = 24 := rfl
theorem cr_25_0 : cref 25 0 = 26 := rfl

def CW (h : PH) : Prop := 27 ≤ h.length ∧ (∀ a, a < 27 → Sh h a (ctag a) (clen a)) ∧ ∀ a k, cref a k ≠ 0 → dig h a k = cref a k + 2
section CC
variable {α β : Type} {h h0 h1 h' : PH} {Q : α → PH → Prop}
theorem clen_lt (a : Nat) : clen a < 2147483648 := by
  unfold clen
  split <;> decide
theorem cref_lt {a k : Nat} (q : cref a k ≠ 0) : a < 27 ∧ k < clen a := by
  unfold cref at q
  split at q <;> first | decide | exact absurd rfl q
theorem c_sh {t a : Nat} (hC : CW h) (ha : a < 27) (ht : ctag a = t) : Sh h a t (clen a) := by
  have := hC.2.1 a ha
  rw [ht] at this
  exact this
theorem c_chk {t a : Nat} {f : Unit → PM α} (hC : CW h) (ha : a < 27) (ht : ctag a = t) : T (pb (chk t a) f) h Q = T (f ()) h Q := t_chk (c_sh hC ha ht)
theorem c_gI {t a k : Nat} {f : Int32 → PM α} (hC : CW h) (ha : a < 27) (ht : ctag a = t) (hk : k < clen a) : T (pb (gI t k a) f) h Q = T (f (gi h a k)) h Q := t_gI (c_sh hC ha ht) hk
theorem c_gA {t a k : Nat} {f : Nat → PM α} (hC : CW h) (hr : cref a k ≠ 0) (ht : ctag a = t) : T (pb (gA t k a) f) h Q = T (f (cref a k)) h Q := t_gA (c_sh hC (cref_lt hr).1 ht) (cref_lt hr).2 (hC.2.2 a k hr)
theorem c_sI {t a k : Nat} {v : Int32} {f : Unit → PM α} (hC : CW h) (ha : a < 27) (ht : ctag a = t) (hk : k < clen a) : T (pb (sI t k a v) f) h Q = T (f ()) (wI h a k v) Q := t_sI (c_sh hC ha ht) hk
theorem c_lI {t a k : Nat} {f : Int32 → PM α} (hC : CW h) (ha : a < 27) (ht : ctag a = t) (hk : k < clen a) : T (pb (lI t a (nI k)) f) h Q = T (f (gi h a k)) h Q := t_lI (c_sh hC ha ht) hk (clen_lt a)
theorem c_lJ {a k : Nat} {f : Int64 → PM α} (hC : CW h) (ha : a < 27) (ht : ctag a = 18) (hk : k < clen a) : T (pb (lJ 18 a (nI k)) f) h Q = T (f (gj h a k)) h Q := t_lJ (c_sh hC ha ht) hk (clen_lt a)
theorem c_tI {t a k : Nat} {v : Int32} {f : Unit → PM α} (hC : CW h) (ha : a < 27) (ht : ctag a = t) (hk : k < clen a) : T (pb (tI t a (nI k) v) f) h Q = T (f ()) (wI h a k v) Q := t_tI (c_sh hC ha ht) hk (clen_lt a)
theorem c_tJ {a k : Nat} {v : Int64} {f : Unit → PM α} (hC : CW h) (ha : a < 27) (ht : ctag a = 18) (hk : k < clen a) : T (pb (tJ 18 a (nI k) v) f) h Q = T (f ()) (wJ h a k v) Q := t_tJ (c_sh hC ha ht) hk (clen_lt a)
theorem CW_wr {a k d : Nat} (hC : CW h) (hd : d < 36893488147419103232) (h0 : d ≠ 0) (ha : cref a k = 0) : CW (wr h a k d) := by
  refine ⟨by rw [wr_len]; exact hC.1, fun b hb => wr_sh hd h0 (hC.2.1 b hb), fun b j hj => ?_⟩
  by_cases c : b = a
  · by_cases c2 : j = k
    · rw [c, c2] at hj
      exact absurd ha hj
    · rw [wr_dig_nk hd c2]
      exact hC.2.2 b j hj
  · rw [wr_dig_ne c]
    exact hC.2.2 b j hj
theorem CW_wI {a k : Nat} {v : Int32} (ha : cref a k = 0) (hC : CW h) : CW (wI h a k v) := CW_wr hC (eI_lt v) (eI_0 v) ha
theorem CW_wJ {a k : Nat} {v : Int64} (ha : cref a k = 0) (hC : CW h) : CW (wJ h a k v) := CW_wr hC (eJ_lt v) (eJ_0 v) ha
theorem gj_wJc {a k : Nat} {v : Int64} (hC : CW h) (ha : a < 27) (b j : Nat) : gj (wJ h a k v) b j = if b = a ∧ j = k then v else gj h b j := gj_wJ (Nat.lt_of_lt_of_le ha hC.1) b j
theorem gi_wIc {a k : Nat} {v : Int32} (hC : CW h) (ha : a < 27) (b j : Nat) : gi (wI h a k v) b j = if b = a ∧ j = k then v else gi h b j := gi_wI (Nat.lt_of_lt_of_le ha hC.1) b j
theorem dig_wIc {a k : Nat} {v : Int32} (hC : CW h) (ha : a < 27) (b j : Nat) : dig (wI h a k v) b j = if b = a ∧ j = k then eI v else dig h b j := wr_dig (eI_lt v) (Nat.lt_of_lt_of_le ha hC.1) b j
theorem dig_wJc {a k : Nat} {v : Int64} (hC : CW h) (ha : a < 27) (b j : Nat) : dig (wJ h a k v) b j = if b = a ∧ j = k then eJ v else dig h b j := wr_dig (eJ_lt v) (Nat.lt_of_lt_of_le ha hC.1) b j
theorem wr_ext {a k d : Nat} (hd : d < 36893488147419103232) (h0 : d ≠ 0) : Ext h (wr h a k d) := by
  unfold wr
  split
  · exact Ext.rf h
  · rename_i c e
    refine Ext.st e _ fun j q => ?_
    rw [dg_ds _ _ _ _ hd]
    by_cases cj : j = k
    · rw [if_pos cj]; exact h0
    · rw [if_neg cj]; exact q
/-- as many cells and as many slots -/
def Sm (h h' : PH) : Prop := h'.length = h.length ∧ sl h' = sl h
theorem Sm.rf (h : PH) : Sm h h := ⟨rfl, rfl⟩
theorem Sm.tr (a : Sm h0 h) (b : Sm h h') : Sm h0 h' := ⟨by rw [b.1, a.1], by rw [b.2, a.2]⟩
theorem wr_sm (a k d : Nat) : Sm h (wr h a k d) := by
  refine ⟨wr_len a k d, ?_⟩
  unfold wr
  split
  · rfl
  · rename_i c hc
    exact sl_nset hc rfl
/-- nothing but the cells of S has changed; no cell has come -/
def Fc (S : List Nat) (h h' : PH) : Prop := CW h' ∧ Ext h h' ∧ (∀ a k, a < h.length → a ∉ S → dig h' a k = dig h a k) ∧ Sm h h'
theorem Fc.rf (hC : CW h) (S : List Nat) : Fc S h h := ⟨hC, Ext.rf h, fun _ _ _ _ => rfl, Sm.rf h⟩
theorem Fc.tr {S : List Nat} (a : Fc S h0 h) (b : Fc S h h') : Fc S h0 h' := ⟨b.1, a.2.1.tr b.2.1, fun x k hl hx => by rw [b.2.2.1 x k (Nat.lt_of_lt_of_le hl a.2.1.1) hx, a.2.2.1 x k hl hx], a.2.2.2.tr b.2.2.2⟩
theorem Fc.sub {S S' : List Nat} (a : Fc S h0 h) (hs : ∀ x ∈ S, x ∈ S') : Fc S' h0 h := ⟨a.1, a.2.1, fun x k hl hx => a.2.2.1 x k hl fun q => hx (hs _ q), a.2.2.2⟩
theorem Fc.seq {S S' : List Nat} (a : Fc S h0 h) (b : Fc S' h h') (hs : ∀ x ∈ S', x ∈ S) : Fc S h0 h' := a.tr (b.sub hs)
theorem fc_wr {S : List Nat} {a k d : Nat} (f : Fc S h0 h) (hd : d < 36893488147419103232) (hz : d ≠ 0) (ha : cref a k = 0) (hs : a ∈ S) : Fc S h0 (wr h a k d) := by
  refine ⟨CW_wr f.1 hd hz ha, f.2.1.tr (wr_ext hd hz), fun b j hl hb => ?_, f.2.2.2.tr (wr_sm a k d)⟩
  rw [← f.2.2.1 b j hl hb]
  exact wr_dig_ne (fun e => hb (by rw [e]; exact hs))
theorem Fc.I {S : List Nat} {a k : Nat} {v : Int32} (f : Fc S h0 h) (ha : cref a k = 0) (hs : a ∈ S) : Fc S h0 (wI h a k v) := fc_wr f (eI_lt v) (eI_0 v) ha hs
theorem Fc.J {S : List Nat} {a k : Nat} {v : Int64} (f : Fc S h0 h) (ha : cref a k = 0) (hs : a ∈ S) : Fc S h0 (wJ h a k v) := fc_wr f (eJ_lt v) (eJ_0 v) ha hs
theorem fc_d {S : List Nat} {a k : Nat} (f : Fc S h h') (hC : CW h) (ha : a < 27) (hs : a ∉ S) : dig h' a k = dig h a k := f.2.2.1 a k (Nat.lt_of_lt_of_le ha hC.1) hs
theorem fc_gi {S : List Nat} {a k : Nat} (f : Fc S h h') (hC : CW h) (ha : a < 27) (hs : a ∉ S) : gi h' a k = gi h a k := by
  unfold gi
  rw [fc_d f hC ha hs]
theorem fc_gj {S : List Nat} {a k : Nat} (f : Fc S h h') (hC : CW h) (ha : a < 27) (hs : a ∉ S) : gj h' a k = gj h a k := by
  unfold gj
  rw [fc_d f hC ha hs]
/-! refusals, within -/
theorem c_within (x a b : Int32) : T (fX9_within x a b) h (fun v h' => h' = h ∧ v = if rg x a.toInt b.toInt then 1 else 0) := by
  unfold fX9_within
  rw [T_ite, T_pp, T_ite, T_pp, T_pp]
  refine ⟨fun c => ⟨rfl, ?_⟩, fun c => ⟨fun c2 => ⟨rfl, ?_⟩, fun c2 => ⟨rfl, ?_⟩⟩⟩
  · rw [Int32.lt_iff_toInt_lt] at c
    rw [if_neg (fun z => by have := z.1; omega)]
  · rw [Int32.lt_iff_toInt_lt] at c2
    rw [if_neg (fun z => by have := z.2; omega)]
  · rw [Int32.lt_iff_toInt_lt] at c c2
    rw [if_pos ⟨by omega, by omega⟩]
end CC
