/-! THE CLAIM OUT OF ONE WALK OF THE LAW'S BODY. Your part is whole_start (and what it stands on); all else here is the same for every law, but numbers. -/
def R_law : String := "PairSymbolsLaw"
def lw_P (b : Addr) (xs : List Int32) (args : Array Value) (s : State) : Prop := args = #[.ref b] ∧ s.IntsAt b xs ∧ xs.length ≤ 2560 ∧ (Jvm.Cond.and given_1 narrow_1).before args s = true
def lw_Q (_ : Array Value) (s : State) (o : Outcome) (t : State) : Prop := o = .returned (some (.int 1)) ∧ Framed s o t [] 600000 7302250
def lw_Z (below : List Frame) (a : Array Value) (s : State) : State → Prop := fun t => ∃ o, t.status = .running ∧ Ended t below o ∧ lw_Q a s o t
/-- the law's own end, with 1 on the stack, nothing written that was there before, its room as the claim has it -/
theorem lw_ret {p : Program} {l : Launch} {e : Env} {s : State} {m : MethodId} {below : List Frame} {meth : Method} {c : Code} {b : Nat} (hx : p.tables.exec = Jvm.exec) (hb : c.code = code) (hr : meth.sig.returnType = ret) (hlocks : meth.locks = false) {pc : Nat} {H : Heap} {ls : Array Slot} (hdg : decode code pc = .ok (.ireturn, 1)) : W p l e room_1 s m #[Value.ref b] below meth c H [] 600000 7302250 (lw_Z below #[Value.ref b] s) (F0 m pc ls [.int 1]) := by
  intro T hT X
  obtain ⟨fs, hret, hrun, hended, hW, hframe⟩ := X.leave (v := some (.int 1)) (hlocks := hlocks) (fun h => by rw [hr] at h; cases h)
  have hmeth' : T.vm.method? m = some meth := X.method'
  refine ⟨T.setFrames fs, ?_, .returned (some (.int 1)), hrun, hended, rfl, ⟨_, rfl⟩, hW, hframe⟩
  jvm_step X.here [X.here.top, hx, hb, hdg, hmeth', hr, ret, narrow_b1]
  (try refine ⟨rfl, ?_⟩); (try refine ⟨rfl, ?_⟩)
  first | (intro acts; rw [hret _ acts rfl rfl rfl]) | rw [hret _ _ rfl rfl rfl]
  exact Steps.refl _
/-- what holds at the law's entry: the machine, the code, the tables' words (any of lw_tbl by 'hts w (by decide +kernel)'), the script of L ints xs at the cell b, what the Statement gives of the start (any of its parts by flat_of_before) -/
def lw_At (p : Program) (s : State) (m : MethodId) (meth : Method) (c : Code) (b L : Nat) (xs : Nat → Int32) : Prop :=
  p.tables.exec = Jvm.exec ∧ c.code = code ∧ meth.sig.returnType = ret ∧ c.maxLocals = 4 ∧ s.vm.findClass R_law = some m.cls ∧ (∀ w ∈ lw_tbl, w.before #[Value.ref b] s = true) ∧ va_X b L xs s s.heap ∧ b < s.heap.size ∧ meth.locks = false ∧ (Jvm.Cond.and given_1 narrow_1).before #[Value.ref b] s = true

/-- an array over arrays, by the tables -/
theorem aoa_spec {A : Array Value} {s : State} {t : FieldType} (h : (Cond.arrayOver (.array t)).before A s = true) : ∃ comp c k, s.vm.classes[c]? = some k ∧ k.kind = .array comp (.array t) ∧ s.vm.findClass ("[" ++ (FieldType.array t).toString) = some c := by
  unfold Cond.before Cond.holds at h
  simp only [Cond.value, beq_iff_eq] at h
  cases hc : s.vm.findClass (FieldType.array t).toString with
  | none => simp [hc] at h
  | some comp =>
    simp only [hc, Option.bind_some, Option.bind_eq_some_iff, Option.map_eq_some_iff] at h
    obtain ⟨c, hi, k, hk, hb⟩ := h
    obtain ⟨hlt, hp, -⟩ := Array.findIdx?_eq_some_iff_getElem.mp hi
    have hkk : s.vm.classes[c] = k := (Array.getElem?_eq_some_iff.mp hk).2
    rw [hkk] at hp
    cases hkind : k.kind with
    | array component ty =>
      rw [hkind] at hb hp
      simp at hb hp
      exact ⟨comp, c, k, hk, by rw [hkind, hp, hb.1], hb.2⟩
    | _ => rw [hkind] at hb; simp at hb
theorem arr_of {s : State} {cA : ClassId} {kA : Class} {comp : ClassId} {ty : FieldType} (h2 : s.vm.classes[cA]? = some kA) (h3 : kA.kind = .array comp ty) : ArrOfT s cA ty := fun n z => ⟨fun k h => (by cases h), kA, h2, comp, h3⟩
/-- the tables know the classes and the arrays -/
theorem law_K {s : State} {A : Array Value} (hts : ∀ w ∈ lw_tbl, w.before A s = true) : ∃ G : GG, va_K G.1 vwCl (tysL G.2) s := by
  have htb : ∀ w ∈ tb, w.before A s = true := fun w hw => hts w (List.mem_filter.mp hw).1

  obtain ⟨c0, i0, k0⟩ := u_known (n := 2) htb inC0 (hts (.instantiable RX0 2) q_115)
  obtain ⟨c1, i1, k1⟩ := u_known (n := 1) htb inC1 (hts (.instantiable RX1 1) q_276)
  obtain ⟨c2, i2, k2⟩ := u_known (n := 2) htb inC2 (hts (.instantiable RX2 2) q_222)
  obtain ⟨c3, i3, k3⟩ := u_known (n := 16) htb inC3 (hts (.instantiable RX3 16) q_24)
  obtain ⟨c4, i4, k4⟩ := u_known (n := 5) htb inC4 (hts (.instantiable RX5 5) q_398)
  obtain ⟨c5, i5, k5⟩ := u_known (n := 4) htb inC5 (hts (.instantiable RX6 4) q_60)
  obtain ⟨c6, i6, k6⟩ := u_known (n := 8) htb inC6 (hts (.instantiable RX7 8) q_239)
  obtain ⟨c7, i7, k7⟩ := u_known (n := 2) htb inC7 (hts (.instantiable RX8 2) q_206)
  obtain ⟨c8, i8, k8⟩ := u_known (n := 9) htb inC8 (hts (.instantiable RX9 9) q_16)
  obtain ⟨c9, i9, k9⟩ := u_known (n := 51) htb inC9 (hts (.instantiable RX10 51) q_665)
  obtain ⟨a16, b16, d16, x16, y16, z16⟩ := Cond.arrayClass_spec (type := .byte) (hts _ q_274)
  obtain ⟨a17, b17, d17, x17, y17, z17⟩ := Cond.arrayClass_spec (type := .int) (hts _ q_80)
  obtain ⟨a18, b18, d18, x18, y18, z18⟩ := Cond.arrayClass_spec (type := .long) (hts _ q_220)
  obtain ⟨a19, b19, d19, x19, y19, z19⟩ := Cond.arrayClass_spec (type := .boolean) (hts _ q_81)
  obtain ⟨d20, a20, b20, w20, -, y20, z20, x20⟩ := Cond.arrayOver_spec (n := "PairSymbols$Level") (hts _ q_204)
  obtain ⟨d21, a21, b21, w21, -, y21, z21, x21⟩ := Cond.arrayOver_spec (n := "PairSymbols$Operato\x72") (hts _ q_133)
  obtain ⟨d22, a22, b22, w22, -, y22, z22, x22⟩ := Cond.arrayOver_spec (n := "PairSymbols$State") (hts _ q_228)
  obtain ⟨d23, a23, b23, y23, z23, x23⟩ := aoa_spec (t := .int) (hts _ q_66)
  obtain ⟨d24, a24, b24, y24, z24, x24⟩ := aoa_spec (t := .long) (hts _ q_404)
  refine ⟨((fun k => match k with
    | 0 => c0
    | 1 => c1
    | 2 => c2
    | 3 => c3
    | 4 => c4
    | 5 => c5
    | 6 => c6
    | 7 => c7
    | 8 => c8
    | _ => c9, fun k => match k with
    | 0 => i0
    | 1 => i1
    | 2 => i2
    | 3 => i3
    | 4 => i4
    | 5 => i5
    | 6 => i6
    | 7 => i7
    | 8 => i8
    | _ => i9), fun t => match t with
    | 16 => a16
    | 17 => a17
    | 18 => a18
    | 19 => a19
    | 20 => a20
    | 21 => a21
    | 22 => a22
    | 23 => a23
    | _ => a24), fun k q hq => ?_, fun k q hq => ?_⟩
  · match k, hq with
    | 0, hq => cases hq; exact k0
    | 1, hq => cases hq; exact k1
    | 2, hq => cases hq; exact k2
    | 3, hq => cases hq; exact k3
    | 4, hq => cases hq; exact k4
    | 5, hq => cases hq; exact k5
    | 6, hq => cases hq; exact k6
    | 7, hq => cases hq; exact k7
    | 8, hq => cases hq; exact k8
    | 9, hq => cases hq; exact k9
    | k + 10, hq => simp [vwCl] at hq
  · match k, hq with
    | 0, hq => cases hq; exact ⟨arr_of y16 z16, x16⟩
    | 1, hq => cases hq; exact ⟨arr_of y17 z17, x17⟩
    | 2, hq => cases hq; exact ⟨arr_of y18 z18, x18⟩
    | 3, hq => cases hq; exact ⟨arr_of y19 z19, x19⟩
    | 4, hq => cases hq; exact ⟨arr_of y20 z20, b20, d20, y20, z20, w20, x20⟩
    | 5, hq => cases hq; exact ⟨arr_of y21 z21, b21, d21, y21, z21, w21, x21⟩
    | 6, hq => cases hq; exact ⟨arr_of y22 z22, b22, d22, y22, z22, w22, x22⟩
    | 7, hq => cases hq; exact ⟨arr_of y23 z23, x23⟩
    | 8, hq => cases hq; exact ⟨arr_of y24 z24, x24⟩
    | k + 9, hq => simp [tysL] at hq
set_option maxHeartbeats 4000000 in
/-- one round of the law's loop -/
theorem law_head {p : Program} {l : Launch} {e : Env} {s : State} {m : MethodId} {below : List Frame} {meth : Method} {c : Code} {G : GG} {nm : String} {b L : Nat} {xs : Nat → Int32} (C : Cx G "PairSymbolsLaw" code 4 ret nm p s m #[Value.ref b] meth c) (hX : va_X b L xs s s.heap) (hbl : b < s.heap.size) (hL : L ≤ 2560) {k : Nat} (hk0 : 5 * k ≤ 2565) {ρc ρm : Nat → Nat} {hc hm : PH} {H : Heap} {locs : List Loc} {st : St} {ls : Array Slot} (hl : lv_has ls 4 [(0, .ref b), (1, .ref (ρc 0)), (2, .ref (ρm 0)), (3, .int (nI (5 * k)))]) (q : CR (20 * k) hc st) (qm : MR hm st) (w : LW G s ρc hc ρm hm H locs)
    (nx : 5 * k + 4 < L → ∀ (H1 : Heap) (locs1 : List Loc) (ρm1 : Nat → Nat) (hc1 hm1 : PH) (st1 : St) (ls1 : Array Slot), lv_has ls1 4 [(0, .ref b), (1, .ref (ρc 0)), (2, .ref (ρm1 0)), (3, .int (nI (5 * (k + 1))))] → CR (20 * (k + 1)) hc1 st1 → MR hm1 st1 → LW G s ρc hc1 ρm1 hm1 H1 locs1 → W p l e room_1 s m #[Value.ref b] below meth c H1 locs1 (hc1.length + 37) (sl hc1 + slM) (lw_Z below #[Value.ref b] s) (F0 m 18 ls1 [])) : W p l e room_1 s m #[Value.ref b] below meth c H locs (hc.length + 37) (sl hc + slM) (lw_Z below #[Value.ref b] s) (F0 m 18 ls []) := by
  obtain ⟨hx, hb, hml, hown, hts, hK, hr, hlocks, -⟩ := id C
  have hS := w.2.2.2.2.2
  have hbA : ¬ (fun q : Nat => s.heap.size ≤ q) b := Nat.not_le.mpr hbl
  have rm := q.room (by omega)
  refine lv_iload_n hx hb dL_18 rfl (lv_at hl 3 rfl) ?_
  refine lv_aload_n hx hb dL_19 rfl (lv_at hl 0 rfl) ?_
  refine va_slen hx hb hX hbl hbA hS dL_20 ?_
  refine lv_iconst (v := nI 5) hx hb dL_21 (by decide) ?_
  refine lv_isub hx hb dL_22 ?_
  refine lv_icmp_gt (tgt := 782) hx hb dL_23 (by decide) (fun c1 => ?_) (fun c1 => ?_)
  · refine lv_iconst (v := 1) hx hb dL_782 (by decide) ?_
    refine va_forget (fun q hq => hS.2.2 q hq) ?_
    refine W.widen (k := 600000) (n := 7302250) (by omega) (by unfold slM; omega) ?_
    exact lw_ret hx hb hr hlocks dL_783
  · have hk : 5 * k + 4 < L := by
      by_cases z : 5 * k + 4 < L
      · exact z
      · exfalso
        have e1 : (Int32.ofNat L - nI 5).toInt = (L : Int) - 5 := pk_sub_toInt (a := L) (b := 5) (by omega) (by decide)
        have e2 : (nI (5 * k)).toInt = ((5 * k : Nat) : Int) := nI_toInt (by omega)
        have lt : Int32.ofNat L - nI 5 < nI (5 * k) := by
          rw [Int32.lt_iff_toInt_lt, e1, e2]
          omega
        first | exact c1 lt | exact absurd lt c1 | (rw [Int32.lt_iff_toInt_lt] at c1; rw [Int32.lt_iff_toInt_lt] at lt; omega)
    refine lv_aload_n hx hb dL_26 rfl (lv_at hl 0 rfl) ?_
    refine lv_iload_n hx hb dL_27 rfl (lv_at hl 3 rfl) ?_
    refine va_sld hx hb hX hbl hbA hS (i := nI (5 * k)) (vp_in_nI (by omega) (by omega)) dL_28 ?_
    refine lv_bipush (v := 31) hx hb dL_29 (by decide) ?_
    refine lv_iand hx hb dL_31 ?_
    have ej := pk_and (xs (nI (5 * k)).toNatClampNeg) (m := 31) 5 (by decide)
    have lj : (xs (nI (5 * k)).toNatClampNeg).toBitVec.toNat % 2 ^ 5 < 32 := Nat.mod_lt _ (by decide)
    rw [ej]
    generalize (xs (nI (5 * k)).toNatClampNeg).toBitVec.toNat % 2 ^ 5 = j at lj ⊢
    have nx' : ∀ (H1 : Heap) (locs1 : List Loc) (ρm1 : Nat → Nat) (hc1 hm1 : PH) (st1 : St), CR (20 * (k + 1)) hc1 st1 → MR hm1 st1 → LW G s ρc hc1 ρm1 hm1 H1 locs1 → ρm1 0 = ρm 0 → W p l e room_1 s m #[Value.ref b] below meth c H1 locs1 (hc1.length + 37) (sl hc1 + slM) (lw_Z below #[Value.ref b] s) (F0 m 776 ls []) := by
      intro H1 locs1 ρm1 hc1 hm1 st1 q1 qm1 w1 e0
      have hl2 : lv_has ls 4 [(0, .ref b), (1, .ref (ρc 0)), (2, .ref (ρm1 0)), (3, .int (nI (5 * k)))] := by rw [e0]; exact hl
      have e5 : nI (5 * k) + Int32.ofInt 5 = nI (5 * (k + 1)) := by
        have : Int32.ofInt 5 = nI 5 := by decide
        rw [this, nI_add]
        rfl
      refine lv_iinc (v := nI (5 * (k + 1))) (lv' := [(3, .int (nI (5 * (k + 1)))), (0, .ref b), (1, .ref (ρc 0)), (2, .ref (ρm1 0))]) hx hb dL_776 hl2 (k := 3) rfl e5 (by decide) rfl (fun ls1 hl1 => ?_)
      refine lv_goto (tgt := 18) hx hb dL_779 (by decide) ?_
      exact nx hk H1 locs1 ρm1 hc1 hm1 st1 ls1 (lv_sub hl1 [1, 2, 3, 0] rfl) q1 qm1 w1
    rcases (show j = 0 ∨ j = 1 ∨ j = 2 ∨ j = 3 ∨ j = 4 ∨ j = 5 ∨ j = 6 ∨ j = 7 ∨ j = 8 ∨ j = 9 ∨ j = 10 ∨ j = 11 ∨ j = 12 ∨ j = 13 ∨ j = 14 ∨ j = 15 ∨ j = 16 ∨ j = 17 ∨ j = 18 ∨ j = 19 ∨ j = 20 ∨ j = 21 ∨ j = 22 ∨ 23 ≤ j by omega) with rfl | rfl | rfl | rfl | rfl | rfl | rfl | rfl | rfl | rfl | rfl | rfl | rfl | rfl | rfl | rfl | rfl | rfl | rfl | rfl | rfl | rfl | rfl | hj
    · refine lv_tableIn (off := 108) (tgt := 140) hx hb dL_32 (by decide) (by decide) (by decide) (by decide) ?_
      exact lwc_level C hX hbl hL hk hl q qm w nx'
    · refine lv_tableIn (off := 131) (tgt := 163) hx hb dL_32 (by decide) (by decide) (by decide) (by decide) ?_
      exact lwc_symbols C hX hbl hL hk hl q qm w nx'
    · refine lv_tableIn (off := 144) (tgt := 176) hx hb dL_32 (by decide) (by decide) (by decide) (by decide) ?_
      exact lwc_symbol C hX hbl hL hk hl q qm w nx'
    · refine lv_tableIn (off := 177) (tgt := 209) hx hb dL_32 (by decide) (by decide) (by decide) (by decide) ?_
      exact lwc_pair C hX hbl hL hk hl q qm w nx'
    · refine lv_tableIn (off := 210) (tgt := 242) hx hb dL_32 (by decide) (by decide) (by decide) (by decide) ?_
      exact lwc_space C hX hbl hL hk hl q qm w nx'
    · refine lv_tableIn (off := 233) (tgt := 265) hx hb dL_32 (by decide) (by decide) (by decide) (by decide) ?_
      exact lwc_fraction C hX hbl hL hk hl q qm w nx'
    · refine lv_tableIn (off := 277) (tgt := 309) hx hb dL_32 (by decide) (by decide) (by decide) (by decide) ?_
      exact lwc_table C hX hbl hL hk hl q qm w nx'
    · refine lv_tableIn (off := 331) (tgt := 363) hx hb dL_32 (by decide) (by decide) (by decide) (by decide) ?_
      exact lwc_trace C hX hbl hL hk hl q qm w nx'
    · refine lv_tableIn (off := 365) (tgt := 397) hx hb dL_32 (by decide) (by decide) (by decide) (by decide) ?_
      exact lwc_polynomial C hX hbl hL hk hl q qm w nx'
    · refine lv_tableIn (off := 409) (tgt := 441) hx hb dL_32 (by decide) (by decide) (by decide) (by decide) ?_
      exact lwc_root C hX hbl hL hk hl q qm w nx'
    · refine lv_tableIn (off := 442) (tgt := 474) hx hb dL_32 (by decide) (by decide) (by decide) (by decide) ?_
      exact lwc_formula C hX hbl hL hk hl q qm w nx'
    · refine lv_tableIn (off := 475) (tgt := 507) hx hb dL_32 (by decide) (by decide) (by decide) (by decide) ?_
      exact lwc_adds C hX hbl hL hk hl q qm w nx'
    · refine lv_tableIn (off := 508) (tgt := 540) hx hb dL_32 (by decide) (by decide) (by decide) (by decide) ?_
      exact lwc_applies C hX hbl hL hk hl q qm w nx'
    · refine lv_tableIn (off := 531) (tgt := 563) hx hb dL_32 (by decide) (by decide) (by decide) (by decide) ?_
      exact lwc_walks C hX hbl hL hk hl q qm w nx'
    · refine lv_tableIn (off := 564) (tgt := 596) hx hb dL_32 (by decide) (by decide) (by decide) (by decide) ?_
      exact lwc_sum C hX hbl hL hk hl q qm w nx'
    · refine lv_tableIn (off := 598) (tgt := 630) hx hb dL_32 (by decide) (by decide) (by decide) (by decide) ?_
      exact lwc_boundary C hX hbl hL hk hl q qm w nx'
    · refine lv_tableIn (off := 632) (tgt := 664) hx hb dL_32 (by decide) (by decide) (by decide) (by decide) ?_
      exact lwc_cuspidal C hX hbl hL hk hl q qm w nx'
    · refine lv_tableIn (off := 645) (tgt := 677) hx hb dL_32 (by decide) (by decide) (by decide) (by decide) ?_
      exact lwc_type C hX hbl hL hk hl q qm w nx'
    · refine lv_tableIn (off := 668) (tgt := 700) hx hb dL_32 (by decide) (by decide) (by decide) (by decide) ?_
      exact lwc_clear C hX hbl hL hk hl q qm w nx'
    · refine lv_tableIn (off := 681) (tgt := 713) hx hb dL_32 (by decide) (by decide) (by decide) (by decide) ?_
      exact lwc_reads C hX hbl hL hk hl q qm w nx'
    · refine lv_tableIn (off := 694) (tgt := 726) hx hb dL_32 (by decide) (by decide) (by decide) (by decide) ?_
      exact lwc_back C hX hbl hL hk hl q qm w nx'
    · refine lv_tableIn (off := 707) (tgt := 739) hx hb dL_32 (by decide) (by decide) (by decide) (by decide) ?_
      exact lwc_told C hX hbl hL hk hl q qm w nx'
    · refine lv_tableIn (off := 730) (tgt := 762) hx hb dL_32 (by decide) (by decide) (by decide) (by decide) ?_
      exact lwc_digest C hX hbl hL hk hl q qm w nx'
    · have e2 : (nI j).toInt = (j : Int) := nI_toInt (by omega)
      refine lv_tableOut (tgt := 776) hx hb dL_32 (Or.inr (by rw [e2]; omega)) (by decide) ?_
      exact nx' H locs ρm hc hm st (q.mono (by omega)) qm w rfl
theorem law_loop {p : Program} {l : Launch} {e : Env} {s : State} {m : MethodId} {below : List Frame} {meth : Method} {c : Code} {G : GG} {nm : String} {b L : Nat} {xs : Nat → Int32} (C : Cx G "PairSymbolsLaw" code 4 ret nm p s m #[Value.ref b] meth c) (hX : va_X b L xs s s.heap) (hbl : b < s.heap.size) (hL : L ≤ 2560) {ρc : Nat → Nat} : ∀ (n k : Nat) (hn : L + 1 ≤ 5 * k + 5 * n) (hk0 : 5 * k ≤ 2565) (ρm : Nat → Nat) (hc hm : PH) (H : Heap) (locs : List Loc) (st : St) (ls : Array Slot), lv_has ls 4 [(0, .ref b), (1, .ref (ρc 0)), (2, .ref (ρm 0)), (3, .int (nI (5 * k)))] → CR (20 * k) hc st → MR hm st → LW G s ρc hc ρm hm H locs → W p l e room_1 s m #[Value.ref b] below meth c H locs (hc.length + 37) (sl hc + slM) (lw_Z below #[Value.ref b] s) (F0 m 18 ls []) := by
  intro n
  induction n with
  | zero =>
    intro k hn hk0 ρm hc hm H locs st ls hl q qm w
    exact law_head C hX hbl hL hk0 hl q qm w (fun hk => by omega)
  | succ n ih =>
    intro k hn hk0 ρm hc hm H locs st ls hl q qm w
    exact law_head C hX hbl hL hk0 hl q qm w (fun hk H1 locs1 ρm1 hc1 hm1 st1 ls1 hl1 q1 qm1 w1 => ih (k + 1) (by omega) (by omega) ρm1 hc1 hm1 H1 locs1 st1 ls1 hl1 q1 qm1 w1)
set_option maxRecDepth 20000 in
set_option maxHeartbeats 4000000 in
theorem whole_start {p : Program} {e : Env} {s : State} {m : MethodId} {below : List Frame} {meth : Method} {c : Code} (l : Launch) (hflags : l.flags = flags0) {b L : Nat} {xs : Nat → Int32} (hL : L ≤ 2560) (C0 : lw_At p s m meth c b L xs) : W p l e room_1 s m #[Value.ref b] below meth c s.heap [] 0 0 (lw_Z below #[Value.ref b] s) (entryFrame m ([Value.ref b] : List Value).toArray 4) := by
  obtain ⟨hx, hb, hr, hml, hown, hts, hX, hbl, hlocks, hgv⟩ := C0
  obtain ⟨G, hK⟩ := law_K hts
  have C : Cx G "PairSymbolsLaw" code 4 ret meth.name p s m #[Value.ref b] meth c := ⟨hx, hb, hml, hown, fun w hw => hts w (List.mem_filter.mp hw).1, hK, hr, hlocks, rfl⟩
  have hl := lv_entry ([.ref b]) (n := 4) (Nat.le_of_ble_eq_true rfl)
  rw [lg_entry_eq]
  generalize (lg_sl ([.ref b]) ++ List.replicate (4 - (lg_sl ([.ref b])).length) Slot.unset).toArray = ls at hl ⊢
  have hl : lv_has ls 4 [(0, .ref b)] := hl
  obtain ⟨ρ, hρ⟩ : ∃ ρ : Nat → Nat, ρ = fun x => s.heap.size + x := ⟨_, rfl⟩
  have hW : Wd G ρ 0 0 s.heap [] s.heap [] 0 0 := by
    rw [hρ]
    refine ⟨⟨fun a b q => by dsimp only at q; omega, fun i => by show s.heap.size + (0 + i) = _; omega, fun a c h => by cases h⟩, rfl, rfl, fun i => by dsimp only; omega, va_S.rf⟩
  have hal : (al 8 9).1 [] = some (0, [(8, 9, onesF 9)]) := by
    unfold al
    simp only [frN_eq, lenK_eq, apK_eq]
    rfl
  obtain ⟨u, e3, run, ok⟩ := runW_at ini_r
  unfold iniR at run
  obtain ⟨u1, e1, r1, run⟩ := pb_some run
  obtain ⟨v, e2, r2, r3⟩ := pb_some run
  obtain ⟨u2, e1', r1', l80⟩ := runW_at ini_c
  obtain ⟨hI, eI⟩ : ∃ hI : PH, hI = [(8, 9, onesF 9)] := ⟨_, rfl⟩
  rw [← eI] at hal r1 r1'
  have ee : e1' = e1 := by
    rw [r1] at r1'
    cases r1'
    rfl
  subst ee
  have l80 : e1'.length = 80 := Nat.eq_of_beq_eq_true l80
  obtain ⟨-, ev, -⟩ := al_some r2
  have ev : v = 80 := by rw [ev]; exact l80
  subst ev
  unfold okI at ok
  simp only [Bool.and_eq_true] at ok
  obtain ⟨⟨ok1, ok2⟩, ok3, ok4⟩ := ok
  have l117 := Nat.eq_of_beq_eq_true ok3
  have sle := Nat.eq_of_beq_eq_true ok4
  have x1 := (fX9_init 0).2.1 _ _ _ r1
  have x2 := (al 9 51).2.1 _ _ _ r2
  have x3 := (fX10_init 80).2.1 _ _ _ r3
  have r0 := CR0.room (by decide)
  have slc : sl CIm = slM := sl_CIm
  have x0 : Ext [] hI := (al 8 9).2.1 _ _ _ hal
  have rm : ∀ {h0 h1 : PH} {H : Heap} {locs : List Loc} {cells slots : Nat}, Wd G ρ 0 0 s.heap h0 H locs cells slots → Ext h0 h1 → Ext h1 e3 → cells + DC h0 h1 ≤ 600000 ∧ slots + DS h0 h1 ≤ 7302250 := by
    intro h0 h1 H locs cells slots hW y1 y2
    have a1 := hW.2.1
    have a2 := hW.2.2.1
    have a3 := y1.1
    have a4 := y1.2.1
    have a5 := y2.1
    have a6 := y2.2.1
    unfold DC DS
    unfold slM at slc
    exact ⟨by omega, by omega⟩
  refine r_new C hW (idx := 7) hal CT8 rfl (tq q_15 rfl) (tq q_16 rfl) knX9_init (rm hW x0 (x1.tr (x2.tr x3))) dL_0 (fun H c1 s1 hW => ?_)
  refine lv_dup hx hb dL_3 rfl ?_
  refine r_callv hW x1 (run_I (b := 0) (As := []) (rest := [.ref (ρ 0)]) C hW (metX9_init l G ρ r1) ⟨rfl, rfl⟩ kcX9_init (tq q_17 rfl) kiX9_init knX9_init rfl kdX9_init ⟨Nat.le_of_ble_eq_true rfl, Nat.le_of_ble_eq_true rfl⟩ hl.1 (Nat.le_of_ble_eq_true rfl) (rm hW x1 (x2.tr x3)) dL_4 rfl) (fun H locs c1 s1 hW => ?_)
  refine lv_astore_n (lv' := [(1, .ref (ρ 0)), (0, .ref b)]) hx hb dL_7 rfl hl (by decide) rfl (fun ls hl => ?_)
  refine r_new C hW (idx := 10) r2 CT9 rfl (tq q_664 rfl) (tq q_665 rfl) knX10_init (rm hW x2 x3) dL_8 (fun H c1 s1 hW => ?_)
  refine lv_dup hx hb dL_11 rfl ?_
  refine r_callv hW x3 (run_I (b := 80) (As := []) (rest := [.ref (ρ 80)]) C hW (metX10_init l G ρ r3) ⟨rfl, rfl⟩ kcX10_init (tq q_666 rfl) kiX10_init knX10_init rfl kdX10_init ⟨Nat.le_of_ble_eq_true rfl, Nat.le_of_ble_eq_true rfl⟩ hl.1 (Nat.le_of_ble_eq_true rfl) (rm hW x3 (Ext.rf _)) dL_12 rfl) (fun H locs c1 s1 hW => ?_)
  refine lv_astore_n (lv' := [(2, .ref (ρ 80)), (1, .ref (ρ 0)), (0, .ref b)]) hx hb dL_15 rfl hl (by decide) rfl (fun ls hl => ?_)
  refine lv_iconst (v := nI 0) hx hb dL_16 (by decide) ?_
  refine lv_istore_n (lv' := [(3, .int (nI 0)), (2, .ref (ρ 80)), (1, .ref (ρ 0)), (0, .ref b)]) hx hb dL_17 rfl hl (by decide) rfl (fun ls hl => ?_)
  have ce : c1 = CI.length + 37 := by
    have a1 := hW.2.1
    have := ci_len
    omega
  have se : s1 = sl CI + slM := by
    have a1 := hW.2.2.1
    omega
  subst ce
  subst se
  have em1 := emb_prm ok1 clos_CI
  have em2 := emb_prm ok2 clos_CIm
  have R1 := Rep_perm hW.1 em1 clos_CI inj_C (fun _ _ => rfl) (Nat.le_refl _)
  have R2 := Rep_perm hW.1 em2 clos_CIm inj_M (fun _ _ => rfl) (Nat.le_refl _)
  have hS : va_S (fun q : Nat => s.heap.size ≤ q) s.heap H locs := by
    obtain ⟨a1, a2, a3⟩ := hW.2.2.2.2
    have af : ∀ q, Af ρ 0 s.heap.size q → s.heap.size ≤ q := by
      rintro q (⟨x, hx, -⟩ | hq)
      · exact absurd hx (Nat.not_lt_zero _)
      · exact hq
    exact ⟨a1, fun q h1 h2 => a2 q h1 (fun z => h2 (af q z)), fun q hq => af _ (a3 q hq)⟩
  have w : LW G s (rex (fun b => ρ (piC b)) CI.length H.size) CI (rex (fun b => ρ (piN b)) CIm.length H.size) CIm H locs := by
    refine ⟨R1, R2, fun a b ha hb => ?_, fun a ha => ?_, fun b hb => ?_, hS⟩
    · rw [rex_in ha, rex_in hb]
      intro z
      have z := hW.1.1 _ _ z
      rw [ci_len] at ha
      have := Nat.le_of_ble_eq_true (allN_at pi_lt a ha)
      unfold piN at z
      omega
    · rw [rex_in ha, hρ]
      exact Nat.le_add_right _ _
    · rw [rex_in hb, hρ]
      exact Nat.le_add_right _ _
  have z1 : rex (fun b => ρ (piC b)) CI.length H.size 0 = ρ 0 := by
    rw [rex_in (by rw [ci_len]; decide)]
    show ρ (piC 0) = ρ 0
    rw [pi_0.1]
  have z2 : rex (fun b => ρ (piN b)) CIm.length H.size 0 = ρ 80 := by
    rw [rex_in (by rw [cim_len]; decide)]
    show ρ (piN 0) = ρ 80
    rw [pi_0.2]
  have hl4 : lv_has ls 4 [(0, .ref b), (1, .ref (rex (fun b => ρ (piC b)) CI.length H.size 0)), (2, .ref (rex (fun b => ρ (piN b)) CIm.length H.size 0)), (3, .int (nI (5 * 0)))] := by
    rw [z1, z2]
    exact lv_sub hl [3, 2, 1, 0] rfl
  exact law_loop C hX hbl hL 514 0 (by omega) (by decide) _ CI CIm H locs st0 ls hl4 CR0 MR0 w
set_option maxHeartbeats 4000000 in
theorem lw_walk (l : Launch) (hflags : l.flags = flags0) (b : Addr) (xs : List Int32) : MetFree l x (headSpec (Jvm.Cond.code x code maxLocals ret :: tables_1) room_1) (lw_P b xs) (fun _ _ _ _ _ => True) lw_Q := by
  refine MetFree.of_bodyS (code := code) (maxLocals := maxLocals) (ret := ret) (by decide) ?_ ?_
  · intro args s m h hn
    obtain ⟨meth, c, h1, h2, h3, h4, h5, h6, -, -⟩ := Cond.code_spec hn (atoms_spec (ws := Jvm.Cond.code x code maxLocals ret :: tables_1) h _ List.mem_cons_self)
    exact ⟨meth, c, h1, h2, h3, h4, h5, h6⟩
  · intro p e s m args below meth c s₁ B hml0 hP _
    obtain ⟨rfl, hx, hbd, hgv⟩ := hP
    obtain ⟨scr, harrAt, hlist, hof, hsmall⟩ := hx
    obtain ⟨hcb, hkn, -, -⟩ := State.arrayAt?_spec harrAt
    have hown : s.vm.findClass R_law = some m.cls := findClass_of_methodNamed B.named
    have hts0 : ∀ c ∈ (Jvm.Cond.code x code maxLocals ret :: tables_1), c.before #[Value.ref b] s = true := atoms_spec (ws := Jvm.Cond.code x code maxLocals ret :: tables_1) B.pre
    have hts : ∀ w ∈ lw_tbl, w.before #[Value.ref b] s = true := k2_hts_sels lw_privs (fun w hw => hts0 w (List.mem_cons_of_mem _ hw)) lw_privs_ok
    have hml : c.maxLocals = 4 := B.maxLocals_eq (hts0 _ List.mem_cons_self)
    have X₀ : Stand p l e room_1 s m #[Value.ref b] below meth c s₁ [] 0 0 := Stand.of_body B
    have hh0 : s₁.heap = s.heap := by rw [B.state]; rfl
    have hsz : scr.slots.size = xs.length := by rw [← Array.length_toList, hlist, List.length_map]
    have hval : ∀ j : Nat, j < xs.length → scr.slots[j]? = some (.int (xs.getD j 0)) := fun j hj => by
      rw [← Array.getElem?_toList, hlist]
      simp [hj]
    have hbl : b < s.heap.size := (Array.getElem?_eq_some_iff.mp hcb).1
    have hX : va_X b xs.length (fun j => xs.getD j 0) s s.heap := ⟨scr, hcb, hof, hkn, hsz, hval⟩
    have K : W p l e room_1 s m #[Value.ref b] below meth c s₁.heap [] 0 0 (lw_Z below #[Value.ref b] s) (entryFrame m ([Value.ref b] : List Value).toArray 4) := by
      rw [hh0]
      exact whole_start l hflags hbd ⟨B.exec, B.bytes, B.returns, hml, hown, hts, hX, hbl, B.notSynchronized, hgv⟩
    obtain ⟨t, a1, o, b1, b2, b3⟩ := K s₁ rfl X₀
    exact ⟨t, o, a1, b1, b2, b3⟩
theorem lw_pre_spec {args : Array Value} {s : State} (h : (Jvm.Cond.and given_1 narrow_1).before args s = true) (hr : rest_1_c.before args s = true) : ∃ (b : Addr) (xs : List Int32), lw_P b xs args s := by
  have hs := flat_of_before _ h
  have hq := flat_of_before _ hr
  have hc : (Cond.count 1).before args s = true := hs _ (by decide +kernel)
  have harr : (Cond.arrayOf (.arg 0) .int).before args s = true := hs _ (by decide +kernel)
  have hle : (Cond.le (.length (.arg 0)) (.int 2560)).before args s = true := hs _ (by decide +kernel)
  have hlen : (Cond.isInt (.length (.arg 0))).before args s = true := hq _ (by decide +kernel)
  have hall : (Cond.all (.arg 0) (.isInt (.elem (.arg 0) (.index 0)))).before args s = true := hq _ (by decide +kernel)
  obtain ⟨b, xs, hb, hx⟩ := State.ints_of_pre rfl harr hlen hall
  have hsm : xs.length < 2 ^ 31 := hx.choose_spec.2.2.2
  have hev : (Term.length (.arg 0)).eval args s none [] s = some (.int xs.length.toInt32) := hx.length_eval hb
  have hv := Cond.le_ints hev (show (Term.int 2560).eval args s none [] s = some (.int 2560) from rfl)
  have hd : xs.length.toInt32 ≤ 2560 := by
    simpa [Cond.before, Cond.holds, hv] using hle
  have hN : xs.length ≤ 2560 := (Int32.ofNat_le_ofNat hsm (by decide)).mp (show Int32.ofNat xs.length ≤ Int32.ofNat 2560 from hd)
  exact ⟨b, xs, Cond.one_arg hc (show args[0]? = some (.ref b) from hb), hx, hN, h⟩
theorem lw_comes (l : Launch) (hflags : l.flags = flags0) : Comes l x (Jvm.Cond.code x code maxLocals ret :: tables_1) room_1 (fun tb e args s => Calls_1 tb e args s ∧ rest_1 tb e args s ∧ Pre_1 tb e args s)
    (fun _ _ args s o t => lw_Q args s o t) := by
  intro p e ha hc hk s m args below hf hfit hheap happ hpre
  obtain ⟨b, xs, hP⟩ := lw_pre_spec hpre.2.2 hpre.2.1
  obtain ⟨k, o, h1, h2, h3, hQ⟩ := lw_walk l hflags b xs p e ha hc hk s m args below hf ((Spec.applies_iff_loose hf).mp happ).1 hP trivial
  exact ⟨k, o, h1, h2, h3, hQ⟩
theorem lw_frame {s t : State} {o : Outcome} {args : Array Value} (h : Framed s o t [] 600000 7302250) :
    Framed s o t (fieldLocs frame_1_writes args s ++ arrayLocs frame_1_arrays args s ++ staticLocs frame_1_statics s) 600000 7302250 := h
theorem lw_limb (L : Cond) (hL : ∀ (args : Array Value) (s t : State), L.after args s (.returned (some (.int 1))) t = true) :
    ArmFor flags0 classFile x code maxLocals ret World_1 tables_1 room_1 Calls_1 rest_1 Pre_1
      (fun tb e a s o t => postC L tb e a s o t ∧ Framed s o t (fieldLocs frame_1_writes a s ++ arrayLocs frame_1_arrays a s ++ staticLocs frame_1_statics s) 600000 7302250) := by
  intro l hflags _ _ p e ha hc hk s m args below hf hfit hheap happ hpre
  obtain ⟨k, o, h1, h2, h3, rfl, hF⟩ := lw_comes l hflags p e ha hc hk s m args below hf hfit hheap happ hpre
  exact ⟨k, _, h1, h2, h3, hL args s _, lw_frame hF⟩
theorem i_vc : Claimed_1_1 ∧ Claimed_1_2 := ⟨lw_limb limb_1_1 (fun args s t => by simp [limb_1_1, Cond.after, Cond.holds, Cond.value]), lw_limb limb_1_2 (fun args s t => Cond.after_iff.mpr (by
  first | (rw [show limb_1_2 = Cond.eq .result (.int 1) from rfl, Cond.eq_ints (x := 1) (y := 1) rfl rfl]; simp; done) | (simp [limb_1_2, Cond.value, Term.eval]; done)))⟩
