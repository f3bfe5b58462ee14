section ROWS4
variable {p : Program} {l : Launch} {e : Env} {R : Room} {s : State} {m : MethodId} {args : Array Value} {below : List Frame} {meth : Method} {c : Code} {H : Heap} {locs : List Loc} {cells slots : Nat} {Q : State → Prop}
variable {cc : ByteArray} {pc : Nat} {ls : Array Slot} {rest st0 : List Value} {G : GG} {ρ : Nat → Nat} {n0 s0 : Nat} {H0 : Heap} {h h1 : PH} {own nm : String} {nL : Nat} {rt : Option FieldType}
/-- rounds of a loop, at most -/
def fu : Nat := 5000
theorem pb_rd {α β : Type} {x : PM α} {k : α → PM β} {h : PH} {r : β × PH} (hx : ∀ h v h', x.1 h = some (v, h') → h' = h) (q : (pb x k).1 h = some r) : ∃ v, x.1 h = some (v, h) ∧ (k v).1 h = some r := by
  obtain ⟨a, h1, e1, e2⟩ := pb_some q
  have e3 := hx _ _ _ e1
  subst e3
  exact ⟨a, e1, e2⟩
theorem rd_gI (t k a : Nat) : ∀ h v h', (gI t k a).1 h = some (v, h') → h' = h := fun _ _ _ q => (gI_some q).1
theorem rd_gJ (t k a : Nat) : ∀ h v h', (gJ t k a).1 h = some (v, h') → h' = h := fun _ _ _ q => (gJ_some q).1
theorem rd_gA (t k a : Nat) : ∀ h v h', (gA t k a).1 h = some (v, h') → h' = h := fun _ _ _ q => (gA_some q).1
theorem rd_gN (t k a : Nat) : ∀ h v h', (gN t k a).1 h = some (v, h') → h' = h := fun _ _ _ q => (gN_some q).1
theorem rd_lI (t a : Nat) (j : Int32) : ∀ h v h', (lI t a j).1 h = some (v, h') → h' = h := fun _ _ _ q => (lI_some q).1
theorem rd_lJ (t a : Nat) (j : Int32) : ∀ h v h', (lJ t a j).1 h = some (v, h') → h' = h := fun _ _ _ q => (lJ_some q).1
theorem rd_lA (t a : Nat) (j : Int32) : ∀ h v h', (lA t a j).1 h = some (v, h') → h' = h := fun _ _ _ q => (lA_some q).1
theorem rd_lN (t a : Nat) (j : Int32) : ∀ h v h', (lN' t a j).1 h = some (v, h') → h' = h := fun _ _ _ q => (lN_some q).1
theorem rd_chk (t a : Nat) : ∀ h v h', (chk t a).1 h = some (v, h') → h' = h := fun _ _ _ q => (chk_some q).1
theorem rd_aln (a : Nat) : ∀ h v h', (aln a).1 h = some (v, h') → h' = h := fun _ _ _ q => (aln_some q).1
abbrev RM (fr lo : Nat) (h0 hE : PH) : Room := { frames := fr, cells := DC h0 hE, slots := DS h0 hE, locals := lo }
theorem room_of {h0 hE : PH} (hW : Wd G ρ h0.length (sl h0) H0 h H locs cells slots) (hx1 : Ext h h1) (hx2 : Ext h1 hE) : cells + DC h h1 ≤ DC h0 hE ∧ slots + DS h h1 ≤ DS h0 hE := by
  have a1 := hW.2.1
  have a2 := hW.2.2.1
  have b1 := hx1.1
  have b2 := hx1.2.1
  have b3 := hx2.1
  have b4 := hx2.2.1
  unfold DC DS
  constructor <;> omega
theorem pext {α : Type} {x : PM α} {h h' : PH} {a : α} (q : x.1 h = some (a, h')) : Ext h h' := x.2.1 _ _ _ q
theorem r_aldQn (hx : p.tables.exec = Jvm.exec) (hb : c.code = cc) {k : Fin 4} {i : Nat} {x : Option Nat} (hdg : decode cc pc = .ok (.aload_n k, 1)) (hi : (k : Nat) = i) (hl : ls[i]? = some (.val (va_rf x))) (kk : W p l e R s m args below meth c H locs cells slots Q (F0 m (pc + 1) ls (va_rf x :: rest))) : W p l e R s m args below meth c H locs cells slots Q (F0 m pc ls rest) := by
  cases x with
  | none => exact lv_aload_nN hx hb hdg hi hl kk
  | some a => exact lv_aload_n hx hb hdg hi hl kk
theorem r_aldQ (hx : p.tables.exec = Jvm.exec) (hb : c.code = cc) {i : Nat} {x : Option Nat} (hdg : decode cc pc = .ok (.aload i, 2)) (hl : ls[i]? = some (.val (va_rf x))) (kk : W p l e R s m args below meth c H locs cells slots Q (F0 m (pc + 2) ls (va_rf x :: rest))) : W p l e R s m args below meth c H locs cells slots Q (F0 m pc ls rest) := by
  cases x with
  | none => exact lv_aloadN hx hb hdg hl kk
  | some a => exact lv_aload hx hb hdg hl kk
theorem r_astQn (hx : p.tables.exec = Jvm.exec) (hb : c.code = cc) {k : Fin 4} {i : Nat} {x : Option Nat} {lv lv' : List (Nat × Value)} (hdg : decode cc pc = .ok (.astore_n k, 1)) (hi : (k : Nat) = i) (hl : lv_has ls nL lv) (hn : i < nL) (he : (i, va_rf x) :: lv.filter (fun q => !(q.1 == i) && !(q.1 + 1 == i && q.2.category == 2)) = lv') (kk : ∀ ls' : Array Slot, lv_has ls' nL lv' → W p l e R s m args below meth c H locs cells slots Q (F0 m (pc + 1) ls' rest)) : W p l e R s m args below meth c H locs cells slots Q (F0 m pc ls (va_rf x :: rest)) := by
  cases x with
  | none => exact lv_astore_nN hx hb hdg hi hl hn he kk
  | some a => exact lv_astore_n hx hb hdg hi hl hn he kk
theorem r_astQ (hx : p.tables.exec = Jvm.exec) (hb : c.code = cc) {i : Nat} {x : Option Nat} {lv lv' : List (Nat × Value)} (hdg : decode cc pc = .ok (.astore i, 2)) (hl : lv_has ls nL lv) (hn : i < nL) (he : (i, va_rf x) :: lv.filter (fun q => !(q.1 == i) && !(q.1 + 1 == i && q.2.category == 2)) = lv') (kk : ∀ ls' : Array Slot, lv_has ls' nL lv' → W p l e R s m args below meth c H locs cells slots Q (F0 m (pc + 2) ls' rest)) : W p l e R s m args below meth c H locs cells slots Q (F0 m pc ls (va_rf x :: rest)) := by
  cases x with
  | none => exact lv_astoreN hx hb hdg hl hn he kk
  | some a => exact lv_astore hx hb hdg hl hn he kk
theorem sw_out {x : Int32} {lo : Int} (ks : List Int32) (h : ∀ k ∈ ks, ¬ x = k) (hk : ks.map Int32.toInt = (List.range ks.length).map (fun i : Nat => lo + i)) : x.toInt < lo ∨ lo + ks.length - 1 < x.toInt := by
  rcases Int.lt_or_le x.toInt lo with q | q
  · exact Or.inl q
  · rcases Int.lt_or_le (lo + ks.length - 1) x.toInt with q2 | q2
    · exact Or.inr q2
    · exfalso
      have hlt : (x.toInt - lo).toNat < ks.length := by omega
      have e : (ks.map Int32.toInt)[(x.toInt - lo).toNat]? = some x.toInt := by
        rw [hk, List.getElem?_map, List.getElem?_range hlt]
        simp only [Option.map_some, Option.some.injEq]
        omega
      rw [List.getElem?_map] at e
      cases e2 : ks[(x.toInt - lo).toNat]? with
      | none => rw [e2] at e; cases e
      | some k =>
        rw [e2] at e
        simp only [Option.map_some, Option.some.injEq] at e
        exact h k (List.mem_of_getElem? e2) (Int32.toInt_inj.mp e.symm)
theorem hx_of (C : Cx G own cc nL rt nm p s m args meth c) : p.tables.exec = Jvm.exec := C.1
theorem hb_of (C : Cx G own cc nL rt nm p s m args meth c) : c.code = cc := C.2.1
theorem r_ldc2 (C : Cx G own cc nL rt nm p s m args meth c) {index : Nat} {v : Int64} (hq : Cond.constantLong own index v ∈ tb) (hdg : decode cc pc = .ok (.ldc2_w index, 3)) (kk : W p l e R s m args below meth c H locs cells slots Q (F0 m (pc + 3) ls (.long v :: rest))) : W p l e R s m args below meth c H locs cells slots Q (F0 m pc ls rest) :=
  lv_ldc2 C.1 C.2.1 C.2.2.2.1 (C.2.2.2.2.1 _ hq) hdg kk
theorem r_obj (C : Cx G own cc nL rt nm p s m args meth c) {index a : Nat} (hq : Cond.methodLink own index objectInit ∈ tb) (hl : ls.size = nL) (hro : (rest.map fun v => v.category).sum ≤ 8) (hf : 1 ≤ R.frames) (hlo : 20 ≤ R.locals) (h2 : Cond.instanceMethod objectInit ∈ tb) (h3 : Cond.code objectInit ⟨#[0xb1]⟩ 1 none ∈ tb) (hdg : decode cc pc = .ok (.invokespecial index, 3)) (kk : W p l e R s m args below meth c H locs cells slots Q (F0 m (pc + 3) ls rest)) : W p l e R s m args below meth c H locs cells slots Q (F0 m pc ls (.ref a :: rest)) :=
  W.objInit C.1 C.2.1 C.2.2.2.1 (C.2.2.2.2.1 _ hq) (C.2.2.2.2.1 _ h2) (C.2.2.2.2.1 _ h3) rfl (by rw [C.2.2.1]; exact hl) rfl hdg hf (by have := lv_room (m := m) (pc := pc) (ls := ls) (rest := .ref a :: rest) hro; omega) kk
/-- comparisons that the kernel does fast -/
noncomputable def bI (x : Int32) : Nat := frN x.toBitVec.toNat fun n => (n + 2147483648) % 4294967296
theorem bI_int (x : Int32) : (bI x : Int) = x.toInt + 2147483648 := by
  have h := x.toBitVec.isLt
  have e : x.toInt = x.toBitVec.toInt := rfl
  rw [e, BitVec.toInt_eq_toNat_cond]
  unfold bI
  rw [frN_eq]
  split <;> omega
noncomputable def bJ (x : Int64) : Nat := frN x.toBitVec.toNat fun n => (n + 9223372036854775808) % 18446744073709551616
theorem bJ_int (x : Int64) : (bJ x : Int) = x.toInt + 9223372036854775808 := by
  have h := x.toBitVec.isLt
  have e : x.toInt = x.toBitVec.toInt := rfl
  rw [e, BitVec.toInt_eq_toNat_cond]
  unfold bJ
  rw [frN_eq]
  split <;> omega
noncomputable def dLe (x y : Int32) : Decidable (x ≤ y) := decidable_of_iff (Nat.ble (bI x) (bI y) = true) (by
  rw [Nat.ble_eq, Int32.le_iff_toInt_le]
  have := bI_int x
  have := bI_int y
  omega)
noncomputable def dLt (x y : Int32) : Decidable (x < y) := decidable_of_iff (Nat.ble (bI x + 1) (bI y) = true) (by
  rw [Nat.ble_eq, Int32.lt_iff_toInt_lt]
  have := bI_int x
  have := bI_int y
  omega)
noncomputable def dEq (x y : Int32) : Decidable (x = y) := decidable_of_iff (Nat.beq x.toBitVec.toNat y.toBitVec.toNat = true) (by
  rw [Nat.beq_eq]
  constructor
  · intro h
    rw [← ofI x, ← ofI y, h]
  · intro h
    rw [h])
theorem cmp_eq (x y : Int64) : lg_cmp x y = 0 ↔ x = y := by
  unfold lg_cmp
  by_cases h : x > y
  · rw [if_pos h]
    constructor
    · intro q
      exact absurd q (by decide)
    · intro q
      subst q
      exact absurd h (by simp)
  · rw [if_neg h]
    by_cases e : x = y
    · rw [if_pos e]
      simp [e]
    · rw [if_neg e]
      simp [e]
theorem cmp_lt (x y : Int64) : lg_cmp x y < 0 ↔ x < y := by
  unfold lg_cmp
  by_cases h : x > y
  · rw [if_pos h]
    have h' : y < x := h
    have := Int64.lt_iff_toInt_lt.mp h'
    constructor
    · intro q
      exact absurd q (by decide)
    · intro q
      have := Int64.lt_iff_toInt_lt.mp q
      omega
  · rw [if_neg h]
    by_cases e : x = y
    · rw [if_pos e]
      subst e
      constructor
      · intro q
        exact absurd q (by decide)
      · intro q
        have := Int64.lt_iff_toInt_lt.mp q
        omega
    · rw [if_neg e]
      constructor
      · intro _
        apply Int64.lt_iff_toInt_lt.mpr
        have h1 : ¬ y.toInt < x.toInt := fun q => h (Int64.lt_iff_toInt_lt.mpr q)
        have h2 : x.toInt ≠ y.toInt := fun q => e (Int64.toInt_inj.mp q)
        omega
      · intro _
        decide
theorem cmp_gt (x y : Int64) : 0 < lg_cmp x y ↔ y < x := by
  unfold lg_cmp
  by_cases h : x > y
  · rw [if_pos h]
    have h' : y < x := h
    constructor
    · intro _
      exact h'
    · intro _
      decide
  · rw [if_neg h]
    have h' : ¬ y < x := h
    by_cases e : x = y
    · rw [if_pos e]
      constructor
      · intro q
        exact absurd q (by decide)
      · intro q
        exact absurd q h'
    · rw [if_neg e]
      constructor
      · intro q
        exact absurd q (by decide)
      · intro q
        exact absurd q h'
theorem ltJ (x y : Int64) : Nat.ble (bJ x + 1) (bJ y) = true ↔ x < y := by
  rw [Nat.ble_eq, Int64.lt_iff_toInt_lt]
  have := bJ_int x
  have := bJ_int y
  omega
theorem not_le0 (x : Int32) : x ≤ 0 ↔ ¬ 0 < x := by
  rw [Int32.le_iff_toInt_le, Int32.lt_iff_toInt_lt]
  omega
theorem not_lt0 (x : Int32) : 0 ≤ x ↔ ¬ x < 0 := by
  rw [Int32.le_iff_toInt_le, Int32.lt_iff_toInt_lt]
  omega
noncomputable def dEqJ (x : Int64) : Decidable (x = 0) := decidable_of_iff (Nat.beq x.toBitVec.toNat 0 = true) (by
  rw [Nat.beq_eq]
  constructor
  · intro h
    rw [← ofJ x, h]
    rfl
  · intro h
    rw [h]
    rfl)
noncomputable def dcE (x y : Int64) : Decidable (lg_cmp x y = 0) := decidable_of_iff (Nat.beq x.toBitVec.toNat y.toBitVec.toNat = true) (by
  rw [Nat.beq_eq, cmp_eq]
  constructor
  · intro h
    rw [← ofJ x, ← ofJ y, h]
  · intro h
    rw [h])
noncomputable def dcL (x y : Int64) : Decidable (lg_cmp x y < 0) := decidable_of_iff (Nat.ble (bJ x + 1) (bJ y) = true) (by rw [ltJ, cmp_lt])
noncomputable def dcG (x y : Int64) : Decidable (0 < lg_cmp x y) := decidable_of_iff (Nat.ble (bJ y + 1) (bJ x) = true) (by rw [ltJ, cmp_gt])
noncomputable def dcLE (x y : Int64) : Decidable (lg_cmp x y ≤ 0) := decidable_of_iff (Nat.ble (bJ y + 1) (bJ x) = false) (by rw [not_le0, cmp_gt, ← ltJ, Bool.not_eq_true])
noncomputable def dcGE (x y : Int64) : Decidable (0 ≤ lg_cmp x y) := decidable_of_iff (Nat.ble (bJ x + 1) (bJ y) = false) (by rw [not_lt0, cmp_lt, ← ltJ, Bool.not_eq_true])
theorem pf_no {α : Type} {h : PH} {r : α × PH} (q : (pf : PM α).1 h = some r) : False := by
  unfold pf at q
  cases q
/-- a truth value is 0 or 1 -/
noncomputable def pz (v : Int32) : PM Unit := @ite _ (v = 0) (dEq v 0) (pp ()) (@ite _ (v = 1) (dEq v 1) (pp ()) pf)
theorem pz_some {β : Type} {v : Int32} {k : Unit → PM β} {h : PH} {r : β × PH} (q : (pb (pz v) k).1 h = some r) : (v = 0 ∨ v = 1) ∧ (k ()).1 h = some r := by
  obtain ⟨a, h1, e1, e2⟩ := pb_some q
  unfold pz at e1
  by_cases c : v = 0
  · rw [if_pos c] at e1
    obtain ⟨-, rfl⟩ := pp_some e1
    exact ⟨Or.inl c, e2⟩
  · rw [if_neg c] at e1
    by_cases c2 : v = 1
    · rw [if_pos c2] at e1
      obtain ⟨-, rfl⟩ := pp_some e1
      exact ⟨Or.inr c2, e2⟩
    · rw [if_neg c2] at e1
      exact (pf_no e1).elim
theorem pz_nar {v : Int32} (h : v = 0 ∨ v = 1) : narrow .boolean (.int v) = .int v := by
  rcases h with rfl | rfl <;> rfl
end ROWS4
