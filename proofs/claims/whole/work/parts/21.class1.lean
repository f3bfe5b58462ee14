theorem flX3_9 : FL "PairSymbols$Level" 9 3 0 true := ⟨_, CT3, by decide, (tq q_134 rfl), rfl, fun _ => Or.inr trivial⟩
theorem flX3_15 : FL "PairSymbols$Level" 15 3 1 true := ⟨_, CT3, by decide, (tq q_136 rfl), rfl, fun _ => Or.inr trivial⟩
theorem flX3_23 : FL "PairSymbols$Level" 23 3 2 true := ⟨_, CT3, by decide, (tq q_137 rfl), rfl, fun _ => Or.inr trivial⟩
theorem flX3_26 : FL "PairSymbols$Level" 26 3 3 true := ⟨_, CT3, by decide, (tq q_139 rfl), rfl, fun _ => Or.inr trivial⟩
theorem flX3_29 : FL "PairSymbols$Level" 29 3 4 true := ⟨_, CT3, by decide, (tq q_142 rfl), rfl, fun _ => Or.inr trivial⟩
theorem flX3_32 : FL "PairSymbols$Level" 32 3 5 true := ⟨_, CT3, by decide, (tq q_145 rfl), rfl, fun _ => Or.inr trivial⟩
theorem flX3_35 : FL "PairSymbols$Level" 35 3 6 true := ⟨_, CT3, by decide, (tq q_147 rfl), rfl, fun _ => Or.inr trivial⟩
theorem flX3_38 : FL "PairSymbols$Level" 38 3 7 true := ⟨_, CT3, by decide, (tq q_149 rfl), rfl, fun _ => Or.inr trivial⟩
theorem flX3_47 : FL "PairSymbols$Level" 47 3 8 true := ⟨_, CT3, by decide, (tq q_151 rfl), rfl, fun _ => Or.inr trivial⟩
theorem flX6_7 : FL "PairSymbols$Relations" 7 5 0 true := ⟨_, CT5, by decide, (tq q_67 rfl), rfl, fun _ => Or.inr trivial⟩
theorem flX6_13 : FL "PairSymbols$Relations" 13 5 1 true := ⟨_, CT5, by decide, (tq q_68 rfl), rfl, fun _ => Or.inr trivial⟩
theorem flX6_19 : FL "PairSymbols$Relations" 19 5 2 true := ⟨_, CT5, by decide, (tq q_69 rfl), rfl, fun _ => Or.inr trivial⟩
theorem flX6_36 : FL "PairSymbols$Relations" 36 5 3 false := ⟨_, CT5, by decide, (tq q_70 rfl), rfl, fun _ => Or.inr trivial⟩
theorem dJ7_fill_53178_0 : decode cJ7_fill_53178 0 = .ok (.iconst 0, 1) := by decide +kernel
theorem dJ7_fill_53178_1 : decode cJ7_fill_53178 1 = .ok (.istore_n 2, 1) := by decide +kernel
theorem dJ7_fill_53178_2 : decode cJ7_fill_53178 2 = .ok (.aload_n 0, 1) := by decide +kernel
theorem dJ7_fill_53178_3 : decode cJ7_fill_53178 3 = .ok (.arraylength, 1) := by decide +kernel
theorem dJ7_fill_53178_4 : decode cJ7_fill_53178 4 = .ok (.istore_n 3, 1) := by decide +kernel
theorem dJ7_fill_53178_5 : decode cJ7_fill_53178 5 = .ok (.iload_n 2, 1) := by decide +kernel
theorem dJ7_fill_53178_6 : decode cJ7_fill_53178 6 = .ok (.iload_n 3, 1) := by decide +kernel
theorem dJ7_fill_53178_7 : decode cJ7_fill_53178 7 = .ok (.if_icmp .ge 13, 3) := by decide +kernel
theorem dJ7_fill_53178_10 : decode cJ7_fill_53178 10 = .ok (.aload_n 0, 1) := by decide +kernel
theorem dJ7_fill_53178_11 : decode cJ7_fill_53178 11 = .ok (.iload_n 2, 1) := by decide +kernel
theorem dJ7_fill_53178_12 : decode cJ7_fill_53178 12 = .ok (.iload_n 1, 1) := by decide +kernel
theorem dJ7_fill_53178_13 : decode cJ7_fill_53178 13 = .ok (.iastore, 1) := by decide +kernel
theorem dJ7_fill_53178_14 : decode cJ7_fill_53178 14 = .ok (.iinc 2 1, 3) := by decide +kernel
theorem dJ7_fill_53178_17 : decode cJ7_fill_53178 17 = .ok (.goto (-12), 3) := by decide +kernel
theorem dJ7_fill_53178_20 : decode cJ7_fill_53178 20 = .ok (.return_, 1) := by decide +kernel
theorem kcJ7_fill_53178 : Cond.code yJ7_fill_53178 cJ7_fill_53178 4 none ∈ tb := tq q_35 rfl
theorem knJ7_fill_53178 : Cond.initialized yJ7_fill_53178.cls ∈ tb := (tq q_3 rfl)
theorem kdJ7_fill_53178 : yJ7_fill_53178.cls ≠ "java/lang/invoke/MethodHandle" ∧ yJ7_fill_53178.cls ≠ "java/lang/invoke/VarHandle" ∧ (parseMethodDescriptor yJ7_fill_53178.desc).map (fun d => d.parameters.length) = some 2 := ⟨by decide +kernel, by decide +kernel, by decide +kernel⟩
theorem kiJ7_fill_53178 : Cond.static yJ7_fill_53178 ∈ tb := (tq q_34 rfl)
set_option maxHeartbeats 4000000 in
set_option maxRecDepth 100000 in
theorem wJ7_fill_53178_B5 {p : Program} {l : Launch} {e : Env} {s : State} {m : MethodId} {args : Array Value} {below : List Frame} {meth : Method} {c : Code} {G : GG} {ρ : Nat → Nat} {h0 hE hB : PH} {Q : State → Prop} {x0 : Nat} {x1 : Int32} {x3 : Int32} (C : Cx G "java/util/Arrays" cJ7_fill_53178 4 none "fill" p s m args meth c) {x2 : Int32} {h : PH} {H : Heap} {locs : List Loc} {cells slots : Nat} {ls : Array Slot} {r : (Int32) ⊕ (Unit)} (hf : (fJ7_fill_53178_b5 x0 x1 x3 x2).1 h = some (r, hB)) (hX : Ext hB hE) (hW : Wd G ρ h0.length (sl h0) s.heap h H locs cells slots) (hl : lv_has ls 4 [(0, .ref (ρ x0)), (1, .int x1), (2, .int x2), (3, .int x3)]) (kc : ∀ y : Int32, r = .inl y → ∀ (H : Heap) (locs : List Loc) (c1 s1 : Nat) (ls : Array Slot), Wd G ρ h0.length (sl h0) s.heap hB H locs c1 s1 → lv_has ls 4 [(0, .ref (ρ x0)), (1, .int x1), (2, .int y), (3, .int x3)] → W p l e (RM 0 0 h0 hE) s m args below meth c H locs c1 s1 Q (F0 m 5 ls [])) (ke : ∀ z : Unit, r = .inr z → ∀ (H : Heap) (locs : List Loc) (c1 s1 : Nat) (ls : Array Slot), Wd G ρ h0.length (sl h0) s.heap hB H locs c1 s1 → lv_has ls 4 [] → W p l e (RM 0 0 h0 hE) s m args below meth c H locs c1 s1 Q (F0 m 20 ls [])) : W p l e (RM 0 0 h0 hE) s m args below meth c H locs cells slots Q (F0 m 5 ls []) := by
  have hx := C.1
  have hb := C.2.1
  unfold fJ7_fill_53178_b5 at hf
  refine lv_iload_n hx hb dJ7_fill_53178_5 rfl (lv_at hl 2 rfl) ?_
  refine lv_iload_n hx hb dJ7_fill_53178_6 rfl (lv_at hl 3 rfl) ?_
  refine lv_icmp_ge (tgt := 20) hx hb dJ7_fill_53178_7 (by decide) (fun c2 => ?_) (fun c2 => ?_)
  · rw [if_pos c2] at hf
    obtain ⟨rfl, rfl⟩ := pp_some hf
    exact ke _ rfl _ _ _ _ _ hW (lv_sub hl [] rfl)
  · rw [if_neg c2] at hf
    refine lv_aload_n hx hb dJ7_fill_53178_10 rfl (lv_at hl 0 rfl) ?_
    refine lv_iload_n hx hb dJ7_fill_53178_11 rfl (lv_at hl 2 rfl) ?_
    refine lv_iload_n hx hb dJ7_fill_53178_12 rfl (lv_at hl 1 rfl) ?_
    obtain ⟨_, h3, e3, hf⟩ := pb_some hf
    refine r_iast C hW e3 dJ7_fill_53178_13 (fun H locs hW => ?_)
    refine lv_iinc (v := (x2 + 1)) (lv' := [(2, .int (x2 + 1)), (0, .ref (ρ x0)), (1, .int x1), (3, .int x3)]) hx hb dJ7_fill_53178_14 hl (k := 2) rfl rfl (by decide) rfl (fun ls hl => ?_)
    refine lv_goto (tgt := 5) hx hb dJ7_fill_53178_17 (by decide) ?_
    obtain ⟨rfl, rfl⟩ := pp_some hf
    exact kc _ rfl _ _ _ _ _ hW (lv_sub hl [1, 2, 0, 3] rfl)
set_option maxHeartbeats 4000000 in
theorem wJ7_fill_53178_L5 {p : Program} {l : Launch} {e : Env} {s : State} {m : MethodId} {args : Array Value} {below : List Frame} {meth : Method} {c : Code} {G : GG} {ρ : Nat → Nat} {h0 hE hB : PH} {Q : State → Prop} {x0 : Nat} {x1 : Int32} {x3 : Int32} (C : Cx G "java/util/Arrays" cJ7_fill_53178 4 none "fill" p s m args meth c) {z : (Unit)} (n : Nat) : ∀ (x : Int32) {h : PH} {H : Heap} {locs : List Loc} {cells slots : Nat} {ls : Array Slot}, (plo (fJ7_fill_53178_B5 x0 x1 x3) n x).1 h = some (z, hB) → Ext hB hE → Wd G ρ h0.length (sl h0) s.heap h H locs cells slots → lv_has ls 4 [(0, .ref (ρ x0)), (1, .int x1), (2, .int x), (3, .int x3)] → (ke : ∀ (H : Heap) (locs : List Loc) (c1 s1 : Nat) (ls : Array Slot), Wd G ρ h0.length (sl h0) s.heap hB H locs c1 s1 → lv_has ls 4 [] → W p l e (RM 0 0 h0 hE) s m args below meth c H locs c1 s1 Q (F0 m 20 ls [])) → W p l e (RM 0 0 h0 hE) s m args below meth c H locs cells slots Q (F0 m 5 ls []) := by
  induction n with
  | zero =>
    intro x h H locs cells slots ls hf
    rw [plo_0] at hf
    exact (pf_no hf).elim
  | succ n ih =>
    intro x h H locs cells slots ls hf hX hW hl ke
    rw [plo_s] at hf
    obtain ⟨r, h1, e1, hf⟩ := pb_some hf
    unfold fJ7_fill_53178_B5 at e1
    rw [frI_eq] at e1
    refine wJ7_fill_53178_B5 C e1 ((pext hf).tr hX) hW hl (fun y hr H locs c1 s1 ls hW hl => ?_) (fun y hr H locs c1 s1 ls hW hl => ?_)
    · subst hr
      exact ih y hf hX hW hl ke
    · subst hr
      obtain ⟨rfl, rfl⟩ := pp_some hf
      exact ke H locs c1 s1 ls hW hl
set_option maxHeartbeats 4000000 in
set_option maxRecDepth 100000 in
theorem metJ7_fill_53178 (l : Launch) (G : GG) (ρ : Nat → Nat) {z : Nat} {x0 : Nat} {x1 : Int32} {h hE : PH} {v : Unit} (hf : (fJ7_fill_53178 x0 x1).1 h = some (v, hE)) : Met l yJ7_fill_53178 (wsY yJ7_fill_53178 cJ7_fill_53178 4 none) (RM 0 0 h hE) (va_Pc [.ref (ρ x0), .int x1] (PcB G ρ h z)) (QV G ρ hE h.length z) (DC h hE) (DS h hE) (Af ρ h.length z) := by
  refine met_start (by decide) (Nat.le_of_ble_eq_true rfl) ?_
  intro p e s m below meth c ls hz C hW hl
  subst hz
  have C : Cx G "java/util/Arrays" cJ7_fill_53178 4 none "fill" p s m _ meth c := C
  have hx := C.1
  have hb := C.2.1
  have hX : Ext hE hE := Ext.rf hE
  have hl : lv_has ls 4 [(0, .ref (ρ x0)), (1, .int x1)] := hl
  have hW : Wd G ρ h.length (sl h) s.heap h s.heap [] 0 0 := hW
  unfold fJ7_fill_53178 at hf
  refine lv_iconst (v := 0) hx hb dJ7_fill_53178_0 (by decide) ?_
  refine lv_istore_n (lv' := [(2, .int (0 : Int32)), (0, .ref (ρ x0)), (1, .int x1)]) hx hb dJ7_fill_53178_1 rfl hl (by decide) rfl (fun ls hl => ?_)
  refine lv_aload_n hx hb dJ7_fill_53178_2 rfl (lv_at hl 1 rfl) ?_
  obtain ⟨v1, e1, hf⟩ := pb_rd (rd_aln _) hf
  refine r_alen C hW e1 dJ7_fill_53178_3 ?_
  refine lv_istore_n (lv' := [(3, .int v1), (2, .int (0 : Int32)), (0, .ref (ρ x0)), (1, .int x1)]) hx hb dJ7_fill_53178_4 rfl hl (by decide) rfl (fun ls hl => ?_)
  obtain ⟨z4, h4, e4, hf⟩ := pb_some hf
  refine wJ7_fill_53178_L5 C fu _ e4 ((pext hf).tr hX) hW (lv_sub hl [2, 3, 1, 0] rfl) (fun H locs c1 s1 ls hW hl => ?_)
  obtain ⟨rfl, rfl⟩ := pp_some hf
  exact r_vret C hW dJ7_fill_53178_20

theorem dX9_gcd_0 : decode cX9_gcd 0 = .ok (.iload_n 0, 1) := by decide +kernel
theorem dX9_gcd_1 : decode cX9_gcd 1 = .ok (.istore_n 2, 1) := by decide +kernel
theorem dX9_gcd_2 : decode cX9_gcd 2 = .ok (.iload_n 1, 1) := by decide +kernel
theorem dX9_gcd_3 : decode cX9_gcd 3 = .ok (.istore_n 3, 1) := by decide +kernel
theorem dX9_gcd_4 : decode cX9_gcd 4 = .ok (.iconst 0, 1) := by decide +kernel
theorem dX9_gcd_5 : decode cX9_gcd 5 = .ok (.istore 4, 2) := by decide +kernel
theorem dX9_gcd_7 : decode cX9_gcd 7 = .ok (.iload 4, 2) := by decide +kernel
theorem dX9_gcd_9 : decode cX9_gcd 9 = .ok (.bipush 64, 2) := by decide +kernel
theorem dX9_gcd_11 : decode cX9_gcd 11 = .ok (.if_icmp .ge 23, 3) := by decide +kernel
theorem dX9_gcd_14 : decode cX9_gcd 14 = .ok (.iload_n 3, 1) := by decide +kernel
theorem dX9_gcd_15 : decode cX9_gcd 15 = .ok (.ifCond .eq 19, 3) := by decide +kernel
theorem dX9_gcd_18 : decode cX9_gcd 18 = .ok (.iload_n 2, 1) := by decide +kernel
theorem dX9_gcd_19 : decode cX9_gcd 19 = .ok (.iload_n 3, 1) := by decide +kernel
theorem dX9_gcd_20 : decode cX9_gcd 20 = .ok (.irem, 1) := by decide +kernel
theorem dX9_gcd_21 : decode cX9_gcd 21 = .ok (.istore 5, 2) := by decide +kernel
theorem dX9_gcd_23 : decode cX9_gcd 23 = .ok (.iload_n 3, 1) := by decide +kernel
theorem dX9_gcd_24 : decode cX9_gcd 24 = .ok (.istore_n 2, 1) := by decide +kernel
theorem dX9_gcd_25 : decode cX9_gcd 25 = .ok (.iload 5, 2) := by decide +kernel
theorem dX9_gcd_27 : decode cX9_gcd 27 = .ok (.istore_n 3, 1) := by decide +kernel
theorem dX9_gcd_28 : decode cX9_gcd 28 = .ok (.iinc 4 1, 3) := by decide +kernel
theorem dX9_gcd_31 : decode cX9_gcd 31 = .ok (.goto (-24), 3) := by decide +kernel
theorem dX9_gcd_34 : decode cX9_gcd 34 = .ok (.iload_n 2, 1) := by decide +kernel
theorem dX9_gcd_35 : decode cX9_gcd 35 = .ok (.ireturn, 1) := by decide +kernel
theorem kcX9_gcd : Cond.code yX9_gcd cX9_gcd 6 (some .int) ∈ tb := tq q_38 rfl
theorem knX9_gcd : Cond.initialized yX9_gcd.cls ∈ tb := (tq q_1 rfl)
theorem kdX9_gcd : yX9_gcd.cls ≠ "java/lang/invoke/MethodHandle" ∧ yX9_gcd.cls ≠ "java/lang/invoke/VarHandle" ∧ (parseMethodDescriptor yX9_gcd.desc).map (fun d => d.parameters.length) = some 2 := ⟨by decide +kernel, by decide +kernel, by decide +kernel⟩
theorem kiX9_gcd : Cond.static yX9_gcd ∈ tb := (tq q_37 rfl)
set_option maxHeartbeats 4000000 in
set_option maxRecDepth 100000 in
theorem wX9_gcd_B7 {p : Program} {l : Launch} {e : Env} {s : State} {m : MethodId} {args : Array Value} {below : List Frame} {meth : Method} {c : Code} {G : GG} {ρ : Nat → Nat} {h0 hE hB : PH} {Q : State → Prop}  (C : Cx G "PairSymbols" cX9_gcd 6 (some .int) "gcd" p s m args meth c) {x2 : Int32} {x3 : Int32} {x4 : Int32} {h : PH} {H : Heap} {locs : List Loc} {cells slots : Nat} {ls : Array Slot} {r : (Int32 × Int32 × Int32) ⊕ (Int32)} (hf : (fX9_gcd_b7  x2 x3 x4).1 h = some (r, hB)) (hX : Ext hB hE) (hW : Wd G ρ h0.length (sl h0) s.heap h H locs cells slots) (hl : lv_has ls 6 [(2, .int x2), (3, .int x3), (4, .int x4)]) (kc : ∀ y : Int32 × Int32 × Int32, r = .inl y → ∀ (H : Heap) (locs : List Loc) (c1 s1 : Nat) (ls : Array Slot), Wd G ρ h0.length (sl h0) s.heap hB H locs c1 s1 → lv_has ls 6 [(2, .int y.1), (3, .int y.2.1), (4, .int y.2.2)] → W p l e (RM 0 0 h0 hE) s m args below meth c H locs c1 s1 Q (F0 m 7 ls [])) (ke : ∀ z : Int32, r = .inr z → ∀ (H : Heap) (locs : List Loc) (c1 s1 : Nat) (ls : Array Slot), Wd G ρ h0.length (sl h0) s.heap hB H locs c1 s1 → lv_has ls 6 [(2, .int z)] → W p l e (RM 0 0 h0 hE) s m args below meth c H locs c1 s1 Q (F0 m 34 ls [])) : W p l e (RM 0 0 h0 hE) s m args below meth c H locs cells slots Q (F0 m 7 ls []) := by
  have hx := C.1
  have hb := C.2.1
  unfold fX9_gcd_b7 at hf
  refine lv_iload hx hb dX9_gcd_7 (lv_at hl 2 rfl) ?_
  refine lv_bipush (v := 64) hx hb dX9_gcd_9 (by decide) ?_
  refine lv_icmp_ge (tgt := 34) hx hb dX9_gcd_11 (by decide) (fun c1 => ?_) (fun c1 => ?_)
  · rw [if_pos c1] at hf
    obtain ⟨rfl, rfl⟩ := pp_some hf
    exact ke _ rfl _ _ _ _ _ hW (lv_sub hl [0] rfl)
  · rw [if_neg c1] at hf
    refine lv_iload_n hx hb dX9_gcd_14 rfl (lv_at hl 1 rfl) ?_
    refine lv_if_eq (tgt := 34) hx hb dX9_gcd_15 (by decide) (fun c2 => ?_) (fun c2 => ?_)
    · rw [if_pos c2] at hf
      obtain ⟨rfl, rfl⟩ := pp_some hf
      exact ke _ rfl _ _ _ _ _ hW (lv_sub hl [0] rfl)
    · rw [if_neg c2] at hf
      refine lv_iload_n hx hb dX9_gcd_18 rfl (lv_at hl 0 rfl) ?_
      refine lv_iload_n hx hb dX9_gcd_19 rfl (lv_at hl 1 rfl) ?_
      by_cases c3 : x3 = 0
      · rw [if_pos c3] at hf
        exact (pf_no hf).elim
      rw [if_neg c3] at hf
      refine lv_irem hx hb dX9_gcd_20 c3 ?_
      refine lv_istore (lv' := [(5, .int (x2 - x2 / x3 * x3)), (2, .int x2), (3, .int x3), (4, .int x4)]) hx hb dX9_gcd_21 hl (by decide) rfl (fun ls hl => ?_)
      refine lv_iload_n hx hb dX9_gcd_23 rfl (lv_at hl 2 rfl) ?_
      refine lv_istore_n (lv' := [(2, .int x3), (5, .int (x2 - x2 / x3 * x3)), (3, .int x3), (4, .int x4)]) hx hb dX9_gcd_24 rfl hl (by decide) rfl (fun ls hl => ?_)
      refine lv_iload hx hb dX9_gcd_25 (lv_at hl 1 rfl) ?_
      refine lv_istore_n (lv' := [(3, .int (x2 - x2 / x3 * x3)), (2, .int x3), (5, .int (x2 - x2 / x3 * x3)), (4, .int x4)]) hx hb dX9_gcd_27 rfl hl (by decide) rfl (fun ls hl => ?_)
      refine lv_iinc (v := (x4 + 1)) (lv' := [(4, .int (x4 + 1)), (3, .int (x2 - x2 / x3 * x3)), (2, .int x3), (5, .int (x2 - x2 / x3 * x3))]) hx hb dX9_gcd_28 hl (k := 3) rfl rfl (by decide) rfl (fun ls hl => ?_)
      refine lv_goto (tgt := 7) hx hb dX9_gcd_31 (by decide) ?_
      obtain ⟨rfl, rfl⟩ := pp_some hf
      exact kc _ rfl _ _ _ _ _ hW (lv_sub hl [2, 1, 0] rfl)
set_option maxHeartbeats 4000000 in
theorem wX9_gcd_L7 {p : Program} {l : Launch} {e : Env} {s : State} {m : MethodId} {args : Array Value} {below : List Frame} {meth : Method} {c : Code} {G : GG} {ρ : Nat → Nat} {h0 hE hB : PH} {Q : State → Prop}  (C : Cx G "PairSymbols" cX9_gcd 6 (some .int) "gcd" p s m args meth c) {z : (Int32)} (n : Nat) : ∀ (x : Int32 × Int32 × Int32) {h : PH} {H : Heap} {locs : List Loc} {cells slots : Nat} {ls : Array Slot}, (plo (fX9_gcd_B7 ) n x).1 h = some (z, hB) → Ext hB hE → Wd G ρ h0.length (sl h0) s.heap h H locs cells slots → lv_has ls 6 [(2, .int x.1), (3, .int x.2.1), (4, .int x.2.2)] → (ke : ∀ (H : Heap) (locs : List Loc) (c1 s1 : Nat) (ls : Array Slot), Wd G ρ h0.length (sl h0) s.heap hB H locs c1 s1 → lv_has ls 6 [(2, .int z)] → W p l e (RM 0 0 h0 hE) s m args below meth c H locs c1 s1 Q (F0 m 34 ls [])) → W p l e (RM 0 0 h0 hE) s m args below meth c H locs cells slots Q (F0 m 7 ls []) := by
  induction n with
  | zero =>
    intro x h H locs cells slots ls hf
    rw [plo_0] at hf
    exact (pf_no hf).elim
  | succ n ih =>
    intro x h H locs cells slots ls hf hX hW hl ke
    rw [plo_s] at hf
    obtain ⟨r, h1, e1, hf⟩ := pb_some hf
    unfold fX9_gcd_B7 at e1
    rw [frI_eq, frI_eq, frI_eq] at e1
    refine wX9_gcd_B7 C e1 ((pext hf).tr hX) hW hl (fun y hr H locs c1 s1 ls hW hl => ?_) (fun y hr H locs c1 s1 ls hW hl => ?_)
    · subst hr
      exact ih y hf hX hW hl ke
    · subst hr
      obtain ⟨rfl, rfl⟩ := pp_some hf
      exact ke H locs c1 s1 ls hW hl
set_option maxHeartbeats 4000000 in
set_option maxRecDepth 100000 in
theorem metX9_gcd (l : Launch) (G : GG) (ρ : Nat → Nat) {z : Nat} {x0 : Int32} {x1 : Int32} {h hE : PH} {v : Int32} (hf : (fX9_gcd x0 x1).1 h = some (v, hE)) : Met l yX9_gcd (wsY yX9_gcd cX9_gcd 6 (some .int)) (RM 0 0 h hE) (va_Pc [.int x0, .int x1] (PcB G ρ h z)) (QI G ρ v hE h.length z) (DC h hE) (DS h hE) (Af ρ h.length z) := by
  refine met_start (by decide) (Nat.le_of_ble_eq_true rfl) ?_
  intro p e s m below meth c ls hz C hW hl
  subst hz
  have C : Cx G "PairSymbols" cX9_gcd 6 (some .int) "gcd" p s m _ meth c := C
  have hx := C.1
  have hb := C.2.1
  have hX : Ext hE hE := Ext.rf hE
  have hl : lv_has ls 6 [(0, .int x0), (1, .int x1)] := hl
  have hW : Wd G ρ h.length (sl h) s.heap h s.heap [] 0 0 := hW
  unfold fX9_gcd at hf
  refine lv_iload_n hx hb dX9_gcd_0 rfl (lv_at hl 0 rfl) ?_
  refine lv_istore_n (lv' := [(2, .int x0), (0, .int x0), (1, .int x1)]) hx hb dX9_gcd_1 rfl hl (by decide) rfl (fun ls hl => ?_)
  refine lv_iload_n hx hb dX9_gcd_2 rfl (lv_at hl 2 rfl) ?_
  refine lv_istore_n (lv' := [(3, .int x1), (2, .int x0), (0, .int x0), (1, .int x1)]) hx hb dX9_gcd_3 rfl hl (by decide) rfl (fun ls hl => ?_)
  refine lv_iconst (v := 0) hx hb dX9_gcd_4 (by decide) ?_
  refine lv_istore (lv' := [(4, .int (0 : Int32)), (3, .int x1), (2, .int x0), (0, .int x0), (1, .int x1)]) hx hb dX9_gcd_5 hl (by decide) rfl (fun ls hl => ?_)
  obtain ⟨z4, h4, e4, hf⟩ := pb_some hf
  refine wX9_gcd_L7 C fu _ e4 ((pext hf).tr hX) hW (lv_sub hl [2, 1, 0] rfl) (fun H locs c1 s1 ls hW hl => ?_)
  refine lv_iload_n hx hb dX9_gcd_34 rfl (lv_at hl 0 rfl) ?_
  obtain ⟨rfl, rfl⟩ := pp_some hf
  exact r_iret C hW dX9_gcd_35

theorem dX3_markClass_0 : decode cX3_markClass 0 = .ok (.iconst 1, 1) := by decide +kernel
theorem dX3_markClass_1 : decode cX3_markClass 1 = .ok (.istore 4, 2) := by decide +kernel
theorem dX3_markClass_3 : decode cX3_markClass 3 = .ok (.iload 4, 2) := by decide +kernel
theorem dX3_markClass_5 : decode cX3_markClass 5 = .ok (.aload_n 0, 1) := by decide +kernel
theorem dX3_markClass_6 : decode cX3_markClass 6 = .ok (.getfield 9, 3) := by decide +kernel
theorem dX3_markClass_9 : decode cX3_markClass 9 = .ok (.if_icmp .gt 52, 3) := by decide +kernel
theorem dX3_markClass_12 : decode cX3_markClass 12 = .ok (.iload 4, 2) := by decide +kernel
theorem dX3_markClass_14 : decode cX3_markClass 14 = .ok (.aload_n 0, 1) := by decide +kernel
theorem dX3_markClass_15 : decode cX3_markClass 15 = .ok (.getfield 9, 3) := by decide +kernel
theorem dX3_markClass_18 : decode cX3_markClass 18 = .ok (.invokestatic 109, 3) := by decide +kernel
theorem dX3_markClass_21 : decode cX3_markClass 21 = .ok (.iconst 1, 1) := by decide +kernel
theorem dX3_markClass_22 : decode cX3_markClass 22 = .ok (.if_icmp .ne 33, 3) := by decide +kernel
theorem dX3_markClass_25 : decode cX3_markClass 25 = .ok (.aload_n 0, 1) := by decide +kernel
theorem dX3_markClass_26 : decode cX3_markClass 26 = .ok (.getfield 15, 3) := by decide +kernel
theorem dX3_markClass_29 : decode cX3_markClass 29 = .ok (.iload 4, 2) := by decide +kernel
theorem dX3_markClass_31 : decode cX3_markClass 31 = .ok (.iload_n 1, 1) := by decide +kernel
theorem dX3_markClass_32 : decode cX3_markClass 32 = .ok (.imul, 1) := by decide +kernel
theorem dX3_markClass_33 : decode cX3_markClass 33 = .ok (.aload_n 0, 1) := by decide +kernel
theorem dX3_markClass_34 : decode cX3_markClass 34 = .ok (.getfield 9, 3) := by decide +kernel
theorem dX3_markClass_37 : decode cX3_markClass 37 = .ok (.irem, 1) := by decide +kernel
theorem dX3_markClass_38 : decode cX3_markClass 38 = .ok (.aload_n 0, 1) := by decide +kernel
theorem dX3_markClass_39 : decode cX3_markClass 39 = .ok (.getfield 9, 3) := by decide +kernel
theorem dX3_markClass_42 : decode cX3_markClass 42 = .ok (.imul, 1) := by decide +kernel
theorem dX3_markClass_43 : decode cX3_markClass 43 = .ok (.iload 4, 2) := by decide +kernel
theorem dX3_markClass_45 : decode cX3_markClass 45 = .ok (.iload_n 2, 1) := by decide +kernel
theorem dX3_markClass_46 : decode cX3_markClass 46 = .ok (.imul, 1) := by decide +kernel
theorem dX3_markClass_47 : decode cX3_markClass 47 = .ok (.aload_n 0, 1) := by decide +kernel
theorem dX3_markClass_48 : decode cX3_markClass 48 = .ok (.getfield 9, 3) := by decide +kernel
theorem dX3_markClass_51 : decode cX3_markClass 51 = .ok (.irem, 1) := by decide +kernel
theorem dX3_markClass_52 : decode cX3_markClass 52 = .ok (.iadd, 1) := by decide +kernel
theorem dX3_markClass_53 : decode cX3_markClass 53 = .ok (.iload_n 3, 1) := by decide +kernel
theorem dX3_markClass_54 : decode cX3_markClass 54 = .ok (.iastore, 1) := by decide +kernel
theorem dX3_markClass_55 : decode cX3_markClass 55 = .ok (.iinc 4 1, 3) := by decide +kernel
theorem dX3_markClass_58 : decode cX3_markClass 58 = .ok (.goto (-55), 3) := by decide +kernel
theorem dX3_markClass_61 : decode cX3_markClass 61 = .ok (.return_, 1) := by decide +kernel
theorem kcX3_markClass : Cond.code yX3_markClass cX3_markClass 5 none ∈ tb := tq q_42 rfl
theorem knX3_markClass : Cond.initialized yX3_markClass.cls ∈ tb := (tq q_2 rfl)
theorem kdX3_markClass : yX3_markClass.cls ≠ "java/lang/invoke/MethodHandle" ∧ yX3_markClass.cls ≠ "java/lang/invoke/VarHandle" ∧ (parseMethodDescriptor yX3_markClass.desc).map (fun d => d.parameters.length) = some 3 := ⟨by decide +kernel, by decide +kernel, by decide +kernel⟩
theorem kiX3_markClass : Cond.instanceMethod yX3_markClass ∈ tb := (tq q_41 rfl)
theorem ksX3_markClass : Cond.selects yX3_markClass.cls yX3_markClass yX3_markClass ∈ tb := (tq z_1 rfl)
theorem tgX3_markClass {x0 : Nat} {x1 : Int32} {x2 : Int32} {x3 : Int32} {h : PH} {r : Unit × PH} (hf : (fX3_markClass x0 x1 x2 x3).1 h = some r) : ∃ n x, nth h x0 = some (3, n, x) := by
  obtain ⟨_, _, e, _⟩ := pb_some hf
  exact (chk_some e).2
set_option maxHeartbeats 4000000 in
set_option maxRecDepth 100000 in
theorem wX3_markClass_B3 {p : Program} {l : Launch} {e : Env} {s : State} {m : MethodId} {args : Array Value} {below : List Frame} {meth : Method} {c : Code} {G : GG} {ρ : Nat → Nat} {h0 hE hB : PH} {Q : State → Prop} {x0 : Nat} {x1 : Int32} {x2 : Int32} {x3 : Int32} (C : Cx G "PairSymbols$Level" cX3_markClass 5 none "markClass" p s m args meth c) {x4 : Int32} {h : PH} {H : Heap} {locs : List Loc} {cells slots : Nat} {ls : Array Slot} {r : (Int32) ⊕ (Unit)} (hf : (fX3_markClass_b3 x0 x1 x2 x3 x4).1 h = some (r, hB)) (hX : Ext hB hE) (hW : Wd G ρ h0.length (sl h0) s.heap h H locs cells slots) (hl : lv_has ls 5 [(0, .ref (ρ x0)), (1, .int x1), (2, .int x2), (3, .int x3), (4, .int x4)]) (kc : ∀ y : Int32, r = .inl y → ∀ (H : Heap) (locs : List Loc) (c1 s1 : Nat) (ls : Array Slot), Wd G ρ h0.length (sl h0) s.heap hB H locs c1 s1 → lv_has ls 5 [(0, .ref (ρ x0)), (1, .int x1), (2, .int x2), (3, .int x3), (4, .int y)] → W p l e (RM 1 25 h0 hE) s m args below meth c H locs c1 s1 Q (F0 m 3 ls [])) (ke : ∀ z : Unit, r = .inr z → ∀ (H : Heap) (locs : List Loc) (c1 s1 : Nat) (ls : Array Slot), Wd G ρ h0.length (sl h0) s.heap hB H locs c1 s1 → lv_has ls 5 [] → W p l e (RM 1 25 h0 hE) s m args below meth c H locs c1 s1 Q (F0 m 61 ls [])) : W p l e (RM 1 25 h0 hE) s m args below meth c H locs cells slots Q (F0 m 3 ls []) := by
  have hx := C.1
  have hb := C.2.1
  unfold fX3_markClass_b3 at hf
  refine lv_iload hx hb dX3_markClass_3 (lv_at hl 4 rfl) ?_
  refine lv_aload_n hx hb dX3_markClass_5 rfl (lv_at hl 0 rfl) ?_
  obtain ⟨v1, e1, hf⟩ := pb_rd (rd_gI _ _ _) hf
  refine r_gI C hW e1 flX3_9 rfl dX3_markClass_6 ?_
  refine lv_icmp_gt (tgt := 61) hx hb dX3_markClass_9 (by decide) (fun c2 => ?_) (fun c2 => ?_)
  · rw [if_pos c2] at hf
    obtain ⟨rfl, rfl⟩ := pp_some hf
    exact ke _ rfl _ _ _ _ _ hW (lv_sub hl [] rfl)
  · rw [if_neg c2] at hf
    refine lv_iload hx hb dX3_markClass_12 (lv_at hl 4 rfl) ?_
    refine lv_aload_n hx hb dX3_markClass_14 rfl (lv_at hl 0 rfl) ?_
    obtain ⟨v3, e3, hf⟩ := pb_rd (rd_gI _ _ _) hf
    refine r_gI C hW e3 flX3_9 rfl dX3_markClass_15 ?_
    obtain ⟨v4, h4, e4, hf⟩ := pb_some hf
    refine r_calli hW (pext e4) (run_SN (As := [.int x4, .int v3]) (rest := []) C hW (metX9_gcd l G ρ e4) ⟨rfl, rfl⟩ kcX9_gcd (tq q_36 rfl) kiX9_gcd knX9_gcd kdX9_gcd ⟨Nat.le_of_ble_eq_true rfl, Nat.le_of_ble_eq_true rfl⟩ hl.1 (Nat.le_of_ble_eq_true rfl) (room_of hW (pext e4) ((pext hf).tr hX)) dX3_markClass_18 rfl) (fun H locs c1 s1 hW => ?_)
    refine lv_iconst (v := 1) hx hb dX3_markClass_21 (by decide) ?_
    refine lv_icmp_ne (tgt := 55) hx hb dX3_markClass_22 (by decide) (fun c5 => ?_) (fun c5 => ?_)
    · rw [if_neg c5] at hf
      refine lv_iinc (v := (x4 + 1)) (lv' := [(4, .int (x4 + 1)), (0, .ref (ρ x0)), (1, .int x1), (2, .int x2), (3, .int x3)]) hx hb dX3_markClass_55 hl (k := 4) rfl rfl (by decide) rfl (fun ls hl => ?_)
      refine lv_goto (tgt := 3) hx hb dX3_markClass_58 (by decide) ?_
      obtain ⟨rfl, rfl⟩ := pp_some hf
      exact kc _ rfl _ _ _ _ _ hW (lv_sub hl [1, 2, 3, 4, 0] rfl)
    · rw [if_pos c5] at hf
      refine lv_aload_n hx hb dX3_markClass_25 rfl (lv_at hl 0 rfl) ?_
      obtain ⟨v6, e6, hf⟩ := pb_rd (rd_gA _ _ _) hf
      refine r_gA C hW e6 flX3_15 rfl dX3_markClass_26 ?_
      refine lv_iload hx hb dX3_markClass_29 (lv_at hl 4 rfl) ?_
      refine lv_iload_n hx hb dX3_markClass_31 rfl (lv_at hl 1 rfl) ?_
      refine lv_imul hx hb dX3_markClass_32 ?_
      refine lv_aload_n hx hb dX3_markClass_33 rfl (lv_at hl 0 rfl) ?_
      obtain ⟨v7, e7, hf⟩ := pb_rd (rd_gI _ _ _) hf
      refine r_gI C hW e7 flX3_9 rfl dX3_markClass_34 ?_
      by_cases c8 : v7 = 0
      · rw [if_pos c8] at hf
        exact (pf_no hf).elim
      rw [if_neg c8] at hf
      refine lv_irem hx hb dX3_markClass_37 c8 ?_
      refine lv_aload_n hx hb dX3_markClass_38 rfl (lv_at hl 0 rfl) ?_
      obtain ⟨v9, e9, hf⟩ := pb_rd (rd_gI _ _ _) hf
      refine r_gI C hW e9 flX3_9 rfl dX3_markClass_39 ?_
      refine lv_imul hx hb dX3_markClass_42 ?_
      refine lv_iload hx hb dX3_markClass_43 (lv_at hl 4 rfl) ?_
      refine lv_iload_n hx hb dX3_markClass_45 rfl (lv_at hl 2 rfl) ?_
      refine lv_imul hx hb dX3_markClass_46 ?_
      refine lv_aload_n hx hb dX3_markClass_47 rfl (lv_at hl 0 rfl) ?_
      obtain ⟨v10, e10, hf⟩ := pb_rd (rd_gI _ _ _) hf
      refine r_gI C hW e10 flX3_9 rfl dX3_markClass_48 ?_
      by_cases c11 : v10 = 0
      · rw [if_pos c11] at hf
        exact (pf_no hf).elim
      rw [if_neg c11] at hf
      refine lv_irem hx hb dX3_markClass_51 c11 ?_
      refine lv_iadd hx hb dX3_markClass_52 ?_
      refine lv_iload_n hx hb dX3_markClass_53 rfl (lv_at hl 3 rfl) ?_
      obtain ⟨_, h12, e12, hf⟩ := pb_some hf
      refine r_iast C hW e12 dX3_markClass_54 (fun H locs hW => ?_)
      refine lv_iinc (v := (x4 + 1)) (lv' := [(4, .int (x4 + 1)), (0, .ref (ρ x0)), (1, .int x1), (2, .int x2), (3, .int x3)]) hx hb dX3_markClass_55 hl (k := 4) rfl rfl (by decide) rfl (fun ls hl => ?_)
      refine lv_goto (tgt := 3) hx hb dX3_markClass_58 (by decide) ?_
      obtain ⟨rfl, rfl⟩ := pp_some hf
      exact kc _ rfl _ _ _ _ _ hW (lv_sub hl [1, 2, 3, 4, 0] rfl)
set_option maxHeartbeats 4000000 in
theorem wX3_markClass_L3 {p : Program} {l : Launch} {e : Env} {s : State} {m : MethodId} {args : Array Value} {below : List Frame} {meth : Method} {c : Code} {G : GG} {ρ : Nat → Nat} {h0 hE hB : PH} {Q : State → Prop} {x0 : Nat} {x1 : Int32} {x2 : Int32} {x3 : Int32} (C : Cx G "PairSymbols$Level" cX3_markClass 5 none "markClass" p s m args meth c) {z : (Unit)} (n : Nat) : ∀ (x : Int32) {h : PH} {H : Heap} {locs : List Loc} {cells slots : Nat} {ls : Array Slot}, (plo (fX3_markClass_B3 x0 x1 x2 x3) n x).1 h = some (z, hB) → Ext hB hE → Wd G ρ h0.length (sl h0) s.heap h H locs cells slots → lv_has ls 5 [(0, .ref (ρ x0)), (1, .int x1), (2, .int x2), (3, .int x3), (4, .int x)] → (ke : ∀ (H : Heap) (locs : List Loc) (c1 s1 : Nat) (ls : Array Slot), Wd G ρ h0.length (sl h0) s.heap hB H locs c1 s1 → lv_has ls 5 [] → W p l e (RM 1 25 h0 hE) s m args below meth c H locs c1 s1 Q (F0 m 61 ls [])) → W p l e (RM 1 25 h0 hE) s m args below meth c H locs cells slots Q (F0 m 3 ls []) := by
  induction n with
  | zero =>
    intro x h H locs cells slots ls hf
    rw [plo_0] at hf
    exact (pf_no hf).elim
  | succ n ih =>
    intro x h H locs cells slots ls hf hX hW hl ke
    rw [plo_s] at hf
    obtain ⟨r, h1, e1, hf⟩ := pb_some hf
    unfold fX3_markClass_B3 at e1
    rw [frI_eq] at e1
    refine wX3_markClass_B3 C e1 ((pext hf).tr hX) hW hl (fun y hr H locs c1 s1 ls hW hl => ?_) (fun y hr H locs c1 s1 ls hW hl => ?_)
    · subst hr
      exact ih y hf hX hW hl ke
    · subst hr
      obtain ⟨rfl, rfl⟩ := pp_some hf
      exact ke H locs c1 s1 ls hW hl
set_option maxHeartbeats 4000000 in
set_option maxRecDepth 100000 in
theorem metX3_markClass (l : Launch) (G : GG) (ρ : Nat → Nat) {z : Nat} {x0 : Nat} {x1 : Int32} {x2 : Int32} {x3 : Int32} {h hE : PH} {v : Unit} (hf : (fX3_markClass x0 x1 x2 x3).1 h = some (v, hE)) : Met l yX3_markClass (wsY yX3_markClass cX3_markClass 5 none) (RM 1 25 h hE) (va_Pc [.ref (ρ x0), .int x1, .int x2, .int x3] (PcB G ρ h z)) (QV G ρ hE h.length z) (DC h hE) (DS h hE) (Af ρ h.length z) := by
  refine met_start (by decide) (Nat.le_of_ble_eq_true rfl) ?_
  intro p e s m below meth c ls hz C hW hl
  subst hz
  have C : Cx G "PairSymbols$Level" cX3_markClass 5 none "markClass" p s m _ meth c := C
  have hx := C.1
  have hb := C.2.1
  have hX : Ext hE hE := Ext.rf hE
  have hl : lv_has ls 5 [(0, .ref (ρ x0)), (1, .int x1), (2, .int x2), (3, .int x3)] := hl
  have hW : Wd G ρ h.length (sl h) s.heap h s.heap [] 0 0 := hW
  unfold fX3_markClass at hf
  obtain ⟨_, e0, hf⟩ := pb_rd (rd_chk _ _) hf
  refine lv_iconst (v := 1) hx hb dX3_markClass_0 (by decide) ?_
  refine lv_istore (lv' := [(4, .int (1 : Int32)), (0, .ref (ρ x0)), (1, .int x1), (2, .int x2), (3, .int x3)]) hx hb dX3_markClass_1 hl (by decide) rfl (fun ls hl => ?_)
  obtain ⟨z13, h13, e13, hf⟩ := pb_some hf
  refine wX3_markClass_L3 C fu _ e13 ((pext hf).tr hX) hW (lv_sub hl [1, 2, 3, 4, 0] rfl) (fun H locs c1 s1 ls hW hl => ?_)
  obtain ⟨rfl, rfl⟩ := pp_some hf
  exact r_vret C hW dX3_markClass_61

theorem dX3_numberPairs_0 : decode cX3_numberPairs 0 = .ok (.aload_n 0, 1) := by decide +kernel
theorem dX3_numberPairs_1 : decode cX3_numberPairs 1 = .ok (.getfield 15, 3) := by decide +kernel
theorem dX3_numberPairs_4 : decode cX3_numberPairs 4 = .ok (.iconst (-1), 1) := by decide +kernel
theorem dX3_numberPairs_5 : decode cX3_numberPairs 5 = .ok (.invokestatic 86, 3) := by decide +kernel
theorem dX3_numberPairs_8 : decode cX3_numberPairs 8 = .ok (.iconst 0, 1) := by decide +kernel
theorem dX3_numberPairs_9 : decode cX3_numberPairs 9 = .ok (.istore_n 1, 1) := by decide +kernel
theorem dX3_numberPairs_10 : decode cX3_numberPairs 10 = .ok (.iconst 0, 1) := by decide +kernel
theorem dX3_numberPairs_11 : decode cX3_numberPairs 11 = .ok (.istore_n 2, 1) := by decide +kernel
theorem dX3_numberPairs_12 : decode cX3_numberPairs 12 = .ok (.iload_n 2, 1) := by decide +kernel
theorem dX3_numberPairs_13 : decode cX3_numberPairs 13 = .ok (.aload_n 0, 1) := by decide +kernel
theorem dX3_numberPairs_14 : decode cX3_numberPairs 14 = .ok (.getfield 9, 3) := by decide +kernel
theorem dX3_numberPairs_17 : decode cX3_numberPairs 17 = .ok (.if_icmp .ge 68, 3) := by decide +kernel
theorem dX3_numberPairs_20 : decode cX3_numberPairs 20 = .ok (.iconst 0, 1) := by decide +kernel
theorem dX3_numberPairs_21 : decode cX3_numberPairs 21 = .ok (.istore_n 3, 1) := by decide +kernel
theorem dX3_numberPairs_22 : decode cX3_numberPairs 22 = .ok (.iload_n 3, 1) := by decide +kernel
theorem dX3_numberPairs_23 : decode cX3_numberPairs 23 = .ok (.aload_n 0, 1) := by decide +kernel
theorem dX3_numberPairs_24 : decode cX3_numberPairs 24 = .ok (.getfield 9, 3) := by decide +kernel
theorem dX3_numberPairs_27 : decode cX3_numberPairs 27 = .ok (.if_icmp .ge 52, 3) := by decide +kernel
theorem dX3_numberPairs_30 : decode cX3_numberPairs 30 = .ok (.aload_n 0, 1) := by decide +kernel
theorem dX3_numberPairs_31 : decode cX3_numberPairs 31 = .ok (.getfield 15, 3) := by decide +kernel
theorem dX3_numberPairs_34 : decode cX3_numberPairs 34 = .ok (.iload_n 2, 1) := by decide +kernel
theorem dX3_numberPairs_35 : decode cX3_numberPairs 35 = .ok (.aload_n 0, 1) := by decide +kernel
theorem dX3_numberPairs_36 : decode cX3_numberPairs 36 = .ok (.getfield 9, 3) := by decide +kernel
theorem dX3_numberPairs_39 : decode cX3_numberPairs 39 = .ok (.imul, 1) := by decide +kernel
theorem dX3_numberPairs_40 : decode cX3_numberPairs 40 = .ok (.iload_n 3, 1) := by decide +kernel
theorem dX3_numberPairs_41 : decode cX3_numberPairs 41 = .ok (.iadd, 1) := by decide +kernel
theorem dX3_numberPairs_42 : decode cX3_numberPairs 42 = .ok (.iaload, 1) := by decide +kernel
theorem dX3_numberPairs_43 : decode cX3_numberPairs 43 = .ok (.iconst (-1), 1) := by decide +kernel
theorem dX3_numberPairs_44 : decode cX3_numberPairs 44 = .ok (.if_icmp .ne 29, 3) := by decide +kernel
theorem dX3_numberPairs_47 : decode cX3_numberPairs 47 = .ok (.iload_n 2, 1) := by decide +kernel
theorem dX3_numberPairs_48 : decode cX3_numberPairs 48 = .ok (.iload_n 3, 1) := by decide +kernel
theorem dX3_numberPairs_49 : decode cX3_numberPairs 49 = .ok (.invokestatic 109, 3) := by decide +kernel
theorem dX3_numberPairs_52 : decode cX3_numberPairs 52 = .ok (.aload_n 0, 1) := by decide +kernel
theorem dX3_numberPairs_53 : decode cX3_numberPairs 53 = .ok (.getfield 9, 3) := by decide +kernel
theorem dX3_numberPairs_56 : decode cX3_numberPairs 56 = .ok (.invokestatic 109, 3) := by decide +kernel
theorem dX3_numberPairs_59 : decode cX3_numberPairs 59 = .ok (.iconst 1, 1) := by decide +kernel
theorem dX3_numberPairs_60 : decode cX3_numberPairs 60 = .ok (.if_icmp .ne 13, 3) := by decide +kernel
theorem dX3_numberPairs_63 : decode cX3_numberPairs 63 = .ok (.aload_n 0, 1) := by decide +kernel
theorem dX3_numberPairs_64 : decode cX3_numberPairs 64 = .ok (.iload_n 2, 1) := by decide +kernel
theorem dX3_numberPairs_65 : decode cX3_numberPairs 65 = .ok (.iload_n 3, 1) := by decide +kernel
theorem dX3_numberPairs_66 : decode cX3_numberPairs 66 = .ok (.iload_n 1, 1) := by decide +kernel
theorem dX3_numberPairs_67 : decode cX3_numberPairs 67 = .ok (.invokevirtual 113, 3) := by decide +kernel
theorem dX3_numberPairs_70 : decode cX3_numberPairs 70 = .ok (.iinc 1 1, 3) := by decide +kernel
theorem dX3_numberPairs_73 : decode cX3_numberPairs 73 = .ok (.iinc 3 1, 3) := by decide +kernel
theorem dX3_numberPairs_76 : decode cX3_numberPairs 76 = .ok (.goto (-54), 3) := by decide +kernel
theorem dX3_numberPairs_79 : decode cX3_numberPairs 79 = .ok (.iinc 2 1, 3) := by decide +kernel
theorem dX3_numberPairs_82 : decode cX3_numberPairs 82 = .ok (.goto (-70), 3) := by decide +kernel
theorem dX3_numberPairs_85 : decode cX3_numberPairs 85 = .ok (.iload_n 1, 1) := by decide +kernel
theorem dX3_numberPairs_86 : decode cX3_numberPairs 86 = .ok (.ireturn, 1) := by decide +kernel
theorem kcX3_numberPairs : Cond.code yX3_numberPairs cX3_numberPairs 4 (some .int) ∈ tb := tq q_32 rfl
theorem knX3_numberPairs : Cond.initialized yX3_numberPairs.cls ∈ tb := (tq q_2 rfl)
theorem kdX3_numberPairs : yX3_numberPairs.cls ≠ "java/lang/invoke/MethodHandle" ∧ yX3_numberPairs.cls ≠ "java/lang/invoke/VarHandle" ∧ (parseMethodDescriptor yX3_numberPairs.desc).map (fun d => d.parameters.length) = some 0 := ⟨by decide +kernel, by decide +kernel, by decide +kernel⟩
theorem kiX3_numberPairs : Cond.instanceMethod yX3_numberPairs ∈ tb := (tq q_31 rfl)
theorem ksX3_numberPairs : Cond.selects yX3_numberPairs.cls yX3_numberPairs yX3_numberPairs ∈ tb := (tq z_0 rfl)
theorem tgX3_numberPairs {x0 : Nat} {h : PH} {r : Int32 × PH} (hf : (fX3_numberPairs x0).1 h = some r) : ∃ n x, nth h x0 = some (3, n, x) := by
  obtain ⟨_, _, e, _⟩ := pb_some hf
  exact (chk_some e).2
set_option maxHeartbeats 4000000 in
set_option maxRecDepth 100000 in
theorem wX3_numberPairs_B22 {p : Program} {l : Launch} {e : Env} {s : State} {m : MethodId} {args : Array Value} {below : List Frame} {meth : Method} {c : Code} {G : GG} {ρ : Nat → Nat} {h0 hE hB : PH} {Q : State → Prop} {x0 : Nat} {x2 : Int32} (C : Cx G "PairSymbols$Level" cX3_numberPairs 4 (some .int) "numberPairs" p s m args meth c) {x1 : Int32} {x3 : Int32} {h : PH} {H : Heap} {locs : List Loc} {cells slots : Nat} {ls : Array Slot} {r : (Int32 × Int32) ⊕ (Int32)} (hf : (fX3_numberPairs_b22 x0 x2 x1 x3).1 h = some (r, hB)) (hX : Ext hB hE) (hW : Wd G ρ h0.length (sl h0) s.heap h H locs cells slots) (hl : lv_has ls 4 [(0, .ref (ρ x0)), (1, .int x1), (2, .int x2), (3, .int x3)]) (kc : ∀ y : Int32 × Int32, r = .inl y → ∀ (H : Heap) (locs : List Loc) (c1 s1 : Nat) (ls : Array Slot), Wd G ρ h0.length (sl h0) s.heap hB H locs c1 s1 → lv_has ls 4 [(0, .ref (ρ x0)), (1, .int y.1), (2, .int x2), (3, .int y.2)] → W p l e (RM 2 49 h0 hE) s m args below meth c H locs c1 s1 Q (F0 m 22 ls [])) (ke : ∀ z : Int32, r = .inr z → ∀ (H : Heap) (locs : List Loc) (c1 s1 : Nat) (ls : Array Slot), Wd G ρ h0.length (sl h0) s.heap hB H locs c1 s1 → lv_has ls 4 [(0, .ref (ρ x0)), (1, .int z), (2, .int x2)] → W p l e (RM 2 49 h0 hE) s m args below meth c H locs c1 s1 Q (F0 m 79 ls [])) : W p l e (RM 2 49 h0 hE) s m args below meth c H locs cells slots Q (F0 m 22 ls []) := by
  have hx := C.1
  have hb := C.2.1
  unfold fX3_numberPairs_b22 at hf
  refine lv_iload_n hx hb dX3_numberPairs_22 rfl (lv_at hl 3 rfl) ?_
  refine lv_aload_n hx hb dX3_numberPairs_23 rfl (lv_at hl 0 rfl) ?_
  obtain ⟨v5, e5, hf⟩ := pb_rd (rd_gI _ _ _) hf
  refine r_gI C hW e5 flX3_9 rfl dX3_numberPairs_24 ?_
  refine lv_icmp_ge (tgt := 79) hx hb dX3_numberPairs_27 (by decide) (fun c6 => ?_) (fun c6 => ?_)
  · rw [if_pos c6] at hf
    obtain ⟨rfl, rfl⟩ := pp_some hf
    exact ke _ rfl _ _ _ _ _ hW (lv_sub hl [0, 1, 2] rfl)
  · rw [if_neg c6] at hf
    refine lv_aload_n hx hb dX3_numberPairs_30 rfl (lv_at hl 0 rfl) ?_
    obtain ⟨v7, e7, hf⟩ := pb_rd (rd_gA _ _ _) hf
    refine r_gA C hW e7 flX3_15 rfl dX3_numberPairs_31 ?_
    refine lv_iload_n hx hb dX3_numberPairs_34 rfl (lv_at hl 2 rfl) ?_
    refine lv_aload_n hx hb dX3_numberPairs_35 rfl (lv_at hl 0 rfl) ?_
    obtain ⟨v8, e8, hf⟩ := pb_rd (rd_gI _ _ _) hf
    refine r_gI C hW e8 flX3_9 rfl dX3_numberPairs_36 ?_
    refine lv_imul hx hb dX3_numberPairs_39 ?_
    refine lv_iload_n hx hb dX3_numberPairs_40 rfl (lv_at hl 3 rfl) ?_
    refine lv_iadd hx hb dX3_numberPairs_41 ?_
    obtain ⟨v9, e9, hf⟩ := pb_rd (rd_lI _ _ _) hf
    refine r_iald C hW e9 dX3_numberPairs_42 ?_
    refine lv_iconst (v := -1) hx hb dX3_numberPairs_43 (by decide) ?_
    refine lv_icmp_ne (tgt := 73) hx hb dX3_numberPairs_44 (by decide) (fun c10 => ?_) (fun c10 => ?_)
    · rw [if_neg c10] at hf
      refine lv_iinc (v := (x3 + 1)) (lv' := [(3, .int (x3 + 1)), (0, .ref (ρ x0)), (1, .int x1), (2, .int x2)]) hx hb dX3_numberPairs_73 hl (k := 3) rfl rfl (by decide) rfl (fun ls hl => ?_)
      refine lv_goto (tgt := 22) hx hb dX3_numberPairs_76 (by decide) ?_
      obtain ⟨rfl, rfl⟩ := pp_some hf
      exact kc _ rfl _ _ _ _ _ hW (lv_sub hl [1, 2, 3, 0] rfl)
    · rw [if_pos c10] at hf
      refine lv_iload_n hx hb dX3_numberPairs_47 rfl (lv_at hl 2 rfl) ?_
      refine lv_iload_n hx hb dX3_numberPairs_48 rfl (lv_at hl 3 rfl) ?_
      obtain ⟨v11, h11, e11, hf⟩ := pb_some hf
      refine r_calli hW (pext e11) (run_SN (As := [.int x2, .int x3]) (rest := []) C hW (metX9_gcd l G ρ e11) ⟨rfl, rfl⟩ kcX9_gcd (tq q_36 rfl) kiX9_gcd knX9_gcd kdX9_gcd ⟨Nat.le_of_ble_eq_true rfl, Nat.le_of_ble_eq_true rfl⟩ hl.1 (Nat.le_of_ble_eq_true rfl) (room_of hW (pext e11) ((pext hf).tr hX)) dX3_numberPairs_49 rfl) (fun H locs c1 s1 hW => ?_)
      refine lv_aload_n hx hb dX3_numberPairs_52 rfl (lv_at hl 0 rfl) ?_
      obtain ⟨v12, e12, hf⟩ := pb_rd (rd_gI _ _ _) hf
      refine r_gI C hW e12 flX3_9 rfl dX3_numberPairs_53 ?_
      obtain ⟨v13, h13, e13, hf⟩ := pb_some hf
      refine r_calli hW (pext e13) (run_SN (As := [.int v11, .int v12]) (rest := []) C hW (metX9_gcd l G ρ e13) ⟨rfl, rfl⟩ kcX9_gcd (tq q_36 rfl) kiX9_gcd knX9_gcd kdX9_gcd ⟨Nat.le_of_ble_eq_true rfl, Nat.le_of_ble_eq_true rfl⟩ hl.1 (Nat.le_of_ble_eq_true rfl) (room_of hW (pext e13) ((pext hf).tr hX)) dX3_numberPairs_56 rfl) (fun H locs c1 s1 hW => ?_)
      refine lv_iconst (v := 1) hx hb dX3_numberPairs_59 (by decide) ?_
      refine lv_icmp_ne (tgt := 73) hx hb dX3_numberPairs_60 (by decide) (fun c14 => ?_) (fun c14 => ?_)
      · rw [if_neg c14] at hf
        refine lv_iinc (v := (x3 + 1)) (lv' := [(3, .int (x3 + 1)), (0, .ref (ρ x0)), (1, .int x1), (2, .int x2)]) hx hb dX3_numberPairs_73 hl (k := 3) rfl rfl (by decide) rfl (fun ls hl => ?_)
        refine lv_goto (tgt := 22) hx hb dX3_numberPairs_76 (by decide) ?_
        obtain ⟨rfl, rfl⟩ := pp_some hf
        exact kc _ rfl _ _ _ _ _ hW (lv_sub hl [1, 2, 3, 0] rfl)
      · rw [if_pos c14] at hf
        refine lv_aload_n hx hb dX3_numberPairs_63 rfl (lv_at hl 0 rfl) ?_
        refine lv_iload_n hx hb dX3_numberPairs_64 rfl (lv_at hl 2 rfl) ?_
        refine lv_iload_n hx hb dX3_numberPairs_65 rfl (lv_at hl 3 rfl) ?_
        refine lv_iload_n hx hb dX3_numberPairs_66 rfl (lv_at hl 1 rfl) ?_
        obtain ⟨_, h15, e15, hf⟩ := pb_some hf
        obtain ⟨_, _, t16⟩ := tgX3_markClass e15
        refine r_callv hW (pext e15) (run_V (b := x0) (As := [.int x2, .int x3, .int x1]) (rest := []) C hW (metX3_markClass l G ρ e15) ⟨rfl, rfl⟩ kcX3_markClass (tq q_39 rfl) kiX3_markClass ksX3_markClass knX3_markClass kdX3_markClass t16 rfl rfl ⟨Nat.le_of_ble_eq_true rfl, Nat.le_of_ble_eq_true rfl⟩ hl.1 (Nat.le_of_ble_eq_true rfl) (room_of hW (pext e15) ((pext hf).tr hX)) dX3_numberPairs_67 rfl) (fun H locs c1 s1 hW => ?_)
        refine lv_iinc (v := (x1 + 1)) (lv' := [(1, .int (x1 + 1)), (0, .ref (ρ x0)), (2, .int x2), (3, .int x3)]) hx hb dX3_numberPairs_70 hl (k := 1) rfl rfl (by decide) rfl (fun ls hl => ?_)
        refine lv_iinc (v := (x3 + 1)) (lv' := [(3, .int (x3 + 1)), (1, .int (x1 + 1)), (0, .ref (ρ x0)), (2, .int x2)]) hx hb dX3_numberPairs_73 hl (k := 3) rfl rfl (by decide) rfl (fun ls hl => ?_)
        refine lv_goto (tgt := 22) hx hb dX3_numberPairs_76 (by decide) ?_
        obtain ⟨rfl, rfl⟩ := pp_some hf
        exact kc _ rfl _ _ _ _ _ hW (lv_sub hl [2, 1, 3, 0] rfl)
set_option maxHeartbeats 4000000 in
theorem wX3_numberPairs_L22 {p : Program} {l : Launch} {e : Env} {s : State} {m : MethodId} {args : Array Value} {below : List Frame} {meth : Method} {c : Code} {G : GG} {ρ : Nat → Nat} {h0 hE hB : PH} {Q : State → Prop} {x0 : Nat} {x2 : Int32} (C : Cx G "PairSymbols$Level" cX3_numberPairs 4 (some .int) "numberPairs" p s m args meth c) {z : (Int32)} (n : Nat) : ∀ (x : Int32 × Int32) {h : PH} {H : Heap} {locs : List Loc} {cells slots : Nat} {ls : Array Slot}, (plo (fX3_numberPairs_B22 x0 x2) n x).1 h = some (z, hB) → Ext hB hE → Wd G ρ h0.length (sl h0) s.heap h H locs cells slots → lv_has ls 4 [(0, .ref (ρ x0)), (1, .int x.1), (2, .int x2), (3, .int x.2)] → (ke : ∀ (H : Heap) (locs : List Loc) (c1 s1 : Nat) (ls : Array Slot), Wd G ρ h0.length (sl h0) s.heap hB H locs c1 s1 → lv_has ls 4 [(0, .ref (ρ x0)), (1, .int z), (2, .int x2)] → W p l e (RM 2 49 h0 hE) s m args below meth c H locs c1 s1 Q (F0 m 79 ls [])) → W p l e (RM 2 49 h0 hE) s m args below meth c H locs cells slots Q (F0 m 22 ls []) := by
  induction n with
  | zero =>
    intro x h H locs cells slots ls hf
    rw [plo_0] at hf
    exact (pf_no hf).elim
  | succ n ih =>
    intro x h H locs cells slots ls hf hX hW hl ke
    rw [plo_s] at hf
    obtain ⟨r, h1, e1, hf⟩ := pb_some hf
    unfold fX3_numberPairs_B22 at e1
    rw [frI_eq, frI_eq] at e1
    refine wX3_numberPairs_B22 C e1 ((pext hf).tr hX) hW hl (fun y hr H locs c1 s1 ls hW hl => ?_) (fun y hr H locs c1 s1 ls hW hl => ?_)
    · subst hr
      exact ih y hf hX hW hl ke
    · subst hr
      obtain ⟨rfl, rfl⟩ := pp_some hf
      exact ke H locs c1 s1 ls hW hl
set_option maxHeartbeats 4000000 in
set_option maxRecDepth 100000 in
theorem wX3_numberPairs_B12 {p : Program} {l : Launch} {e : Env} {s : State} {m : MethodId} {args : Array Value} {below : List Frame} {meth : Method} {c : Code} {G : GG} {ρ : Nat → Nat} {h0 hE hB : PH} {Q : State → Prop} {x0 : Nat} (C : Cx G "PairSymbols$Level" cX3_numberPairs 4 (some .int) "numberPairs" p s m args meth c) {x1 : Int32} {x2 : Int32} {h : PH} {H : Heap} {locs : List Loc} {cells slots : Nat} {ls : Array Slot} {r : (Int32 × Int32) ⊕ (Int32)} (hf : (fX3_numberPairs_b12 x0 x1 x2).1 h = some (r, hB)) (hX : Ext hB hE) (hW : Wd G ρ h0.length (sl h0) s.heap h H locs cells slots) (hl : lv_has ls 4 [(0, .ref (ρ x0)), (1, .int x1), (2, .int x2)]) (kc : ∀ y : Int32 × Int32, r = .inl y → ∀ (H : Heap) (locs : List Loc) (c1 s1 : Nat) (ls : Array Slot), Wd G ρ h0.length (sl h0) s.heap hB H locs c1 s1 → lv_has ls 4 [(0, .ref (ρ x0)), (1, .int y.1), (2, .int y.2)] → W p l e (RM 2 49 h0 hE) s m args below meth c H locs c1 s1 Q (F0 m 12 ls [])) (ke : ∀ z : Int32, r = .inr z → ∀ (H : Heap) (locs : List Loc) (c1 s1 : Nat) (ls : Array Slot), Wd G ρ h0.length (sl h0) s.heap hB H locs c1 s1 → lv_has ls 4 [(1, .int z)] → W p l e (RM 2 49 h0 hE) s m args below meth c H locs c1 s1 Q (F0 m 85 ls [])) : W p l e (RM 2 49 h0 hE) s m args below meth c H locs cells slots Q (F0 m 12 ls []) := by
  have hx := C.1
  have hb := C.2.1
  unfold fX3_numberPairs_b12 at hf
  refine lv_iload_n hx hb dX3_numberPairs_12 rfl (lv_at hl 2 rfl) ?_
  refine lv_aload_n hx hb dX3_numberPairs_13 rfl (lv_at hl 0 rfl) ?_
  obtain ⟨v3, e3, hf⟩ := pb_rd (rd_gI _ _ _) hf
  refine r_gI C hW e3 flX3_9 rfl dX3_numberPairs_14 ?_
  refine lv_icmp_ge (tgt := 85) hx hb dX3_numberPairs_17 (by decide) (fun c4 => ?_) (fun c4 => ?_)
  · rw [if_pos c4] at hf
    obtain ⟨rfl, rfl⟩ := pp_some hf
    exact ke _ rfl _ _ _ _ _ hW (lv_sub hl [1] rfl)
  · rw [if_neg c4] at hf
    refine lv_iconst (v := 0) hx hb dX3_numberPairs_20 (by decide) ?_
    refine lv_istore_n (lv' := [(3, .int (0 : Int32)), (0, .ref (ρ x0)), (1, .int x1), (2, .int x2)]) hx hb dX3_numberPairs_21 rfl hl (by decide) rfl (fun ls hl => ?_)
    obtain ⟨z17, h17, e17, hf⟩ := pb_some hf
    refine wX3_numberPairs_L22 C fu _ e17 ((pext hf).tr hX) hW (lv_sub hl [1, 2, 3, 0] rfl) (fun H locs c1 s1 ls hW hl => ?_)
    refine lv_iinc (v := (x2 + 1)) (lv' := [(2, .int (x2 + 1)), (0, .ref (ρ x0)), (1, .int z17)]) hx hb dX3_numberPairs_79 hl (k := 2) rfl rfl (by decide) rfl (fun ls hl => ?_)
    refine lv_goto (tgt := 12) hx hb dX3_numberPairs_82 (by decide) ?_
    obtain ⟨rfl, rfl⟩ := pp_some hf
    exact kc _ rfl _ _ _ _ _ hW (lv_sub hl [1, 2, 0] rfl)
set_option maxHeartbeats 4000000 in
theorem wX3_numberPairs_L12 {p : Program} {l : Launch} {e : Env} {s : State} {m : MethodId} {args : Array Value} {below : List Frame} {meth : Method} {c : Code} {G : GG} {ρ : Nat → Nat} {h0 hE hB : PH} {Q : State → Prop} {x0 : Nat} (C : Cx G "PairSymbols$Level" cX3_numberPairs 4 (some .int) "numberPairs" p s m args meth c) {z : (Int32)} (n : Nat) : ∀ (x : Int32 × Int32) {h : PH} {H : Heap} {locs : List Loc} {cells slots : Nat} {ls : Array Slot}, (plo (fX3_numberPairs_B12 x0) n x).1 h = some (z, hB) → Ext hB hE → Wd G ρ h0.length (sl h0) s.heap h H locs cells slots → lv_has ls 4 [(0, .ref (ρ x0)), (1, .int x.1), (2, .int x.2)] → (ke : ∀ (H : Heap) (locs : List Loc) (c1 s1 : Nat) (ls : Array Slot), Wd G ρ h0.length (sl h0) s.heap hB H locs c1 s1 → lv_has ls 4 [(1, .int z)] → W p l e (RM 2 49 h0 hE) s m args below meth c H locs c1 s1 Q (F0 m 85 ls [])) → W p l e (RM 2 49 h0 hE) s m args below meth c H locs cells slots Q (F0 m 12 ls []) := by
  induction n with
  | zero =>
    intro x h H locs cells slots ls hf
    rw [plo_0] at hf
    exact (pf_no hf).elim
  | succ n ih =>
    intro x h H locs cells slots ls hf hX hW hl ke
    rw [plo_s] at hf
    obtain ⟨r, h1, e1, hf⟩ := pb_some hf
    unfold fX3_numberPairs_B12 at e1
    rw [frI_eq, frI_eq] at e1
    refine wX3_numberPairs_B12 C e1 ((pext hf).tr hX) hW hl (fun y hr H locs c1 s1 ls hW hl => ?_) (fun y hr H locs c1 s1 ls hW hl => ?_)
    · subst hr
      exact ih y hf hX hW hl ke
    · subst hr
      obtain ⟨rfl, rfl⟩ := pp_some hf
      exact ke H locs c1 s1 ls hW hl
set_option maxHeartbeats 4000000 in
set_option maxRecDepth 100000 in
theorem metX3_numberPairs (l : Launch) (G : GG) (ρ : Nat → Nat) {z : Nat} {x0 : Nat} {h hE : PH} {v : Int32} (hf : (fX3_numberPairs x0).1 h = some (v, hE)) : Met l yX3_numberPairs (wsY yX3_numberPairs cX3_numberPairs 4 (some .int)) (RM 2 49 h hE) (va_Pc [.ref (ρ x0)] (PcB G ρ h z)) (QI G ρ v hE h.length z) (DC h hE) (DS h hE) (Af ρ h.length z) := by
  refine met_start (by decide) (Nat.le_of_ble_eq_true rfl) ?_
  intro p e s m below meth c ls hz C hW hl
  subst hz
  have C : Cx G "PairSymbols$Level" cX3_numberPairs 4 (some .int) "numberPairs" p s m _ meth c := C
  have hx := C.1
  have hb := C.2.1
  have hX : Ext hE hE := Ext.rf hE
  have hl : lv_has ls 4 [(0, .ref (ρ x0))] := hl
  have hW : Wd G ρ h.length (sl h) s.heap h s.heap [] 0 0 := hW
  unfold fX3_numberPairs at hf
  obtain ⟨_, e0, hf⟩ := pb_rd (rd_chk _ _) hf
  refine lv_aload_n hx hb dX3_numberPairs_0 rfl (lv_at hl 0 rfl) ?_
  obtain ⟨v1, e1, hf⟩ := pb_rd (rd_gA _ _ _) hf
  refine r_gA C hW e1 flX3_15 rfl dX3_numberPairs_1 ?_
  refine lv_iconst (v := -1) hx hb dX3_numberPairs_4 (by decide) ?_
  obtain ⟨_, h2, e2, hf⟩ := pb_some hf
  refine r_callv hW (pext e2) (run_S (As := [.ref (ρ v1), .int (-1 : Int32)]) (rest := []) C hW (metJ7_fill_53178 l G ρ e2) ⟨rfl, rfl⟩ kcJ7_fill_53178 (tq q_33 rfl) kiJ7_fill_53178 knJ7_fill_53178 kdJ7_fill_53178 ⟨Nat.le_of_ble_eq_true rfl, Nat.le_of_ble_eq_true rfl⟩ hl.1 (Nat.le_of_ble_eq_true rfl) (room_of hW (pext e2) ((pext hf).tr hX)) dX3_numberPairs_5 rfl) (fun H locs c1 s1 hW => ?_)
  refine lv_iconst (v := 0) hx hb dX3_numberPairs_8 (by decide) ?_
  refine lv_istore_n (lv' := [(1, .int (0 : Int32)), (0, .ref (ρ x0))]) hx hb dX3_numberPairs_9 rfl hl (by decide) rfl (fun ls hl => ?_)
  refine lv_iconst (v := 0) hx hb dX3_numberPairs_10 (by decide) ?_
  refine lv_istore_n (lv' := [(2, .int (0 : Int32)), (1, .int (0 : Int32)), (0, .ref (ρ x0))]) hx hb dX3_numberPairs_11 rfl hl (by decide) rfl (fun ls hl => ?_)
  obtain ⟨z18, h18, e18, hf⟩ := pb_some hf
  refine wX3_numberPairs_L12 C fu _ e18 ((pext hf).tr hX) hW (lv_sub hl [2, 1, 0] rfl) (fun H locs c1 s1 ls hW hl => ?_)
  refine lv_iload_n hx hb dX3_numberPairs_85 rfl (lv_at hl 0 rfl) ?_
  obtain ⟨rfl, rfl⟩ := pp_some hf
  exact r_iret C hW dX3_numberPairs_86

theorem dX3_listPairs_0 : decode cX3_listPairs 0 = .ok (.iconst 0, 1) := by decide +kernel
theorem dX3_listPairs_1 : decode cX3_listPairs 1 = .ok (.istore_n 1, 1) := by decide +kernel
theorem dX3_listPairs_2 : decode cX3_listPairs 2 = .ok (.iconst 0, 1) := by decide +kernel
theorem dX3_listPairs_3 : decode cX3_listPairs 3 = .ok (.istore_n 2, 1) := by decide +kernel
theorem dX3_listPairs_4 : decode cX3_listPairs 4 = .ok (.iload_n 2, 1) := by decide +kernel
theorem dX3_listPairs_5 : decode cX3_listPairs 5 = .ok (.aload_n 0, 1) := by decide +kernel
theorem dX3_listPairs_6 : decode cX3_listPairs 6 = .ok (.getfield 9, 3) := by decide +kernel
theorem dX3_listPairs_9 : decode cX3_listPairs 9 = .ok (.if_icmp .ge 67, 3) := by decide +kernel
theorem dX3_listPairs_12 : decode cX3_listPairs 12 = .ok (.iconst 0, 1) := by decide +kernel
theorem dX3_listPairs_13 : decode cX3_listPairs 13 = .ok (.istore_n 3, 1) := by decide +kernel
theorem dX3_listPairs_14 : decode cX3_listPairs 14 = .ok (.iload_n 3, 1) := by decide +kernel
theorem dX3_listPairs_15 : decode cX3_listPairs 15 = .ok (.aload_n 0, 1) := by decide +kernel
theorem dX3_listPairs_16 : decode cX3_listPairs 16 = .ok (.getfield 9, 3) := by decide +kernel
theorem dX3_listPairs_19 : decode cX3_listPairs 19 = .ok (.if_icmp .ge 51, 3) := by decide +kernel
theorem dX3_listPairs_22 : decode cX3_listPairs 22 = .ok (.iload_n 1, 1) := by decide +kernel
theorem dX3_listPairs_23 : decode cX3_listPairs 23 = .ok (.aload_n 0, 1) := by decide +kernel
theorem dX3_listPairs_24 : decode cX3_listPairs 24 = .ok (.getfield 23, 3) := by decide +kernel
theorem dX3_listPairs_27 : decode cX3_listPairs 27 = .ok (.if_icmp .ge 43, 3) := by decide +kernel
theorem dX3_listPairs_30 : decode cX3_listPairs 30 = .ok (.aload_n 0, 1) := by decide +kernel
theorem dX3_listPairs_31 : decode cX3_listPairs 31 = .ok (.getfield 15, 3) := by decide +kernel
theorem dX3_listPairs_34 : decode cX3_listPairs 34 = .ok (.iload_n 2, 1) := by decide +kernel
theorem dX3_listPairs_35 : decode cX3_listPairs 35 = .ok (.aload_n 0, 1) := by decide +kernel
theorem dX3_listPairs_36 : decode cX3_listPairs 36 = .ok (.getfield 9, 3) := by decide +kernel
theorem dX3_listPairs_39 : decode cX3_listPairs 39 = .ok (.imul, 1) := by decide +kernel
theorem dX3_listPairs_40 : decode cX3_listPairs 40 = .ok (.iload_n 3, 1) := by decide +kernel
theorem dX3_listPairs_41 : decode cX3_listPairs 41 = .ok (.iadd, 1) := by decide +kernel
theorem dX3_listPairs_42 : decode cX3_listPairs 42 = .ok (.iaload, 1) := by decide +kernel
theorem dX3_listPairs_43 : decode cX3_listPairs 43 = .ok (.iload_n 1, 1) := by decide +kernel
theorem dX3_listPairs_44 : decode cX3_listPairs 44 = .ok (.if_icmp .ne 20, 3) := by decide +kernel
theorem dX3_listPairs_47 : decode cX3_listPairs 47 = .ok (.aload_n 0, 1) := by decide +kernel
theorem dX3_listPairs_48 : decode cX3_listPairs 48 = .ok (.getfield 26, 3) := by decide +kernel
theorem dX3_listPairs_51 : decode cX3_listPairs 51 = .ok (.iload_n 1, 1) := by decide +kernel
theorem dX3_listPairs_52 : decode cX3_listPairs 52 = .ok (.iload_n 2, 1) := by decide +kernel
theorem dX3_listPairs_53 : decode cX3_listPairs 53 = .ok (.iastore, 1) := by decide +kernel
theorem dX3_listPairs_54 : decode cX3_listPairs 54 = .ok (.aload_n 0, 1) := by decide +kernel
theorem dX3_listPairs_55 : decode cX3_listPairs 55 = .ok (.getfield 29, 3) := by decide +kernel
theorem dX3_listPairs_58 : decode cX3_listPairs 58 = .ok (.iload_n 1, 1) := by decide +kernel
theorem dX3_listPairs_59 : decode cX3_listPairs 59 = .ok (.iload_n 3, 1) := by decide +kernel
theorem dX3_listPairs_60 : decode cX3_listPairs 60 = .ok (.iastore, 1) := by decide +kernel
theorem dX3_listPairs_61 : decode cX3_listPairs 61 = .ok (.iinc 1 1, 3) := by decide +kernel
theorem dX3_listPairs_64 : decode cX3_listPairs 64 = .ok (.iinc 3 1, 3) := by decide +kernel
theorem dX3_listPairs_67 : decode cX3_listPairs 67 = .ok (.goto (-53), 3) := by decide +kernel
theorem dX3_listPairs_70 : decode cX3_listPairs 70 = .ok (.iinc 2 1, 3) := by decide +kernel
theorem dX3_listPairs_73 : decode cX3_listPairs 73 = .ok (.goto (-69), 3) := by decide +kernel
theorem dX3_listPairs_76 : decode cX3_listPairs 76 = .ok (.return_, 1) := by decide +kernel
theorem kcX3_listPairs : Cond.code yX3_listPairs cX3_listPairs 4 none ∈ tb := tq q_46 rfl
theorem knX3_listPairs : Cond.initialized yX3_listPairs.cls ∈ tb := (tq q_2 rfl)
theorem kdX3_listPairs : yX3_listPairs.cls ≠ "java/lang/invoke/MethodHandle" ∧ yX3_listPairs.cls ≠ "java/lang/invoke/VarHandle" ∧ (parseMethodDescriptor yX3_listPairs.desc).map (fun d => d.parameters.length) = some 0 := ⟨by decide +kernel, by decide +kernel, by decide +kernel⟩
theorem kiX3_listPairs : Cond.instanceMethod yX3_listPairs ∈ tb := (tq q_45 rfl)
theorem ksX3_listPairs : Cond.selects yX3_listPairs.cls yX3_listPairs yX3_listPairs ∈ tb := (tq z_2 rfl)
theorem tgX3_listPairs {x0 : Nat} {h : PH} {r : Unit × PH} (hf : (fX3_listPairs x0).1 h = some r) : ∃ n x, nth h x0 = some (3, n, x) := by
  obtain ⟨_, _, e, _⟩ := pb_some hf
  exact (chk_some e).2
set_option maxHeartbeats 4000000 in
set_option maxRecDepth 100000 in
theorem wX3_listPairs_B14 {p : Program} {l : Launch} {e : Env} {s : State} {m : MethodId} {args : Array Value} {below : List Frame} {meth : Method} {c : Code} {G : GG} {ρ : Nat → Nat} {h0 hE hB : PH} {Q : State → Prop} {x0 : Nat} {x2 : Int32} (C : Cx G "PairSymbols$Level" cX3_listPairs 4 none "listPairs" p s m args meth c) {x1 : Int32} {x3 : Int32} {h : PH} {H : Heap} {locs : List Loc} {cells slots : Nat} {ls : Array Slot} {r : (Int32 × Int32) ⊕ (Int32)} (hf : (fX3_listPairs_b14 x0 x2 x1 x3).1 h = some (r, hB)) (hX : Ext hB hE) (hW : Wd G ρ h0.length (sl h0) s.heap h H locs cells slots) (hl : lv_has ls 4 [(0, .ref (ρ x0)), (1, .int x1), (2, .int x2), (3, .int x3)]) (kc : ∀ y : Int32 × Int32, r = .inl y → ∀ (H : Heap) (locs : List Loc) (c1 s1 : Nat) (ls : Array Slot), Wd G ρ h0.length (sl h0) s.heap hB H locs c1 s1 → lv_has ls 4 [(0, .ref (ρ x0)), (1, .int y.1), (2, .int x2), (3, .int y.2)] → W p l e (RM 0 0 h0 hE) s m args below meth c H locs c1 s1 Q (F0 m 14 ls [])) (ke : ∀ z : Int32, r = .inr z → ∀ (H : Heap) (locs : List Loc) (c1 s1 : Nat) (ls : Array Slot), Wd G ρ h0.length (sl h0) s.heap hB H locs c1 s1 → lv_has ls 4 [(0, .ref (ρ x0)), (1, .int z), (2, .int x2)] → W p l e (RM 0 0 h0 hE) s m args below meth c H locs c1 s1 Q (F0 m 70 ls [])) : W p l e (RM 0 0 h0 hE) s m args below meth c H locs cells slots Q (F0 m 14 ls []) := by
  have hx := C.1
  have hb := C.2.1
  unfold fX3_listPairs_b14 at hf
  refine lv_iload_n hx hb dX3_listPairs_14 rfl (lv_at hl 3 rfl) ?_
  refine lv_aload_n hx hb dX3_listPairs_15 rfl (lv_at hl 0 rfl) ?_
  obtain ⟨v3, e3, hf⟩ := pb_rd (rd_gI _ _ _) hf
  refine r_gI C hW e3 flX3_9 rfl dX3_listPairs_16 ?_
  refine lv_icmp_ge (tgt := 70) hx hb dX3_listPairs_19 (by decide) (fun c4 => ?_) (fun c4 => ?_)
  · rw [if_pos c4] at hf
    obtain ⟨rfl, rfl⟩ := pp_some hf
    exact ke _ rfl _ _ _ _ _ hW (lv_sub hl [0, 1, 2] rfl)
  · rw [if_neg c4] at hf
    refine lv_iload_n hx hb dX3_listPairs_22 rfl (lv_at hl 1 rfl) ?_
    refine lv_aload_n hx hb dX3_listPairs_23 rfl (lv_at hl 0 rfl) ?_
    obtain ⟨v5, e5, hf⟩ := pb_rd (rd_gI _ _ _) hf
    refine r_gI C hW e5 flX3_23 rfl dX3_listPairs_24 ?_
    refine lv_icmp_ge (tgt := 70) hx hb dX3_listPairs_27 (by decide) (fun c6 => ?_) (fun c6 => ?_)
    · rw [if_pos c6] at hf
      obtain ⟨rfl, rfl⟩ := pp_some hf
      exact ke _ rfl _ _ _ _ _ hW (lv_sub hl [0, 1, 2] rfl)
    · rw [if_neg c6] at hf
      refine lv_aload_n hx hb dX3_listPairs_30 rfl (lv_at hl 0 rfl) ?_
      obtain ⟨v7, e7, hf⟩ := pb_rd (rd_gA _ _ _) hf
      refine r_gA C hW e7 flX3_15 rfl dX3_listPairs_31 ?_
      refine lv_iload_n hx hb dX3_listPairs_34 rfl (lv_at hl 2 rfl) ?_
      refine lv_aload_n hx hb dX3_listPairs_35 rfl (lv_at hl 0 rfl) ?_
      obtain ⟨v8, e8, hf⟩ := pb_rd (rd_gI _ _ _) hf
      refine r_gI C hW e8 flX3_9 rfl dX3_listPairs_36 ?_
      refine lv_imul hx hb dX3_listPairs_39 ?_
      refine lv_iload_n hx hb dX3_listPairs_40 rfl (lv_at hl 3 rfl) ?_
      refine lv_iadd hx hb dX3_listPairs_41 ?_
      obtain ⟨v9, e9, hf⟩ := pb_rd (rd_lI _ _ _) hf
      refine r_iald C hW e9 dX3_listPairs_42 ?_
      refine lv_iload_n hx hb dX3_listPairs_43 rfl (lv_at hl 1 rfl) ?_
      refine lv_icmp_ne (tgt := 64) hx hb dX3_listPairs_44 (by decide) (fun c10 => ?_) (fun c10 => ?_)
      · rw [if_neg c10] at hf
        refine lv_iinc (v := (x3 + 1)) (lv' := [(3, .int (x3 + 1)), (0, .ref (ρ x0)), (1, .int x1), (2, .int x2)]) hx hb dX3_listPairs_64 hl (k := 3) rfl rfl (by decide) rfl (fun ls hl => ?_)
        refine lv_goto (tgt := 14) hx hb dX3_listPairs_67 (by decide) ?_
        obtain ⟨rfl, rfl⟩ := pp_some hf
        exact kc _ rfl _ _ _ _ _ hW (lv_sub hl [1, 2, 3, 0] rfl)
      · rw [if_pos c10] at hf
        refine lv_aload_n hx hb dX3_listPairs_47 rfl (lv_at hl 0 rfl) ?_
        obtain ⟨v11, e11, hf⟩ := pb_rd (rd_gA _ _ _) hf
        refine r_gA C hW e11 flX3_26 rfl dX3_listPairs_48 ?_
        refine lv_iload_n hx hb dX3_listPairs_51 rfl (lv_at hl 1 rfl) ?_
        refine lv_iload_n hx hb dX3_listPairs_52 rfl (lv_at hl 2 rfl) ?_
        obtain ⟨_, h12, e12, hf⟩ := pb_some hf
        refine r_iast C hW e12 dX3_listPairs_53 (fun H locs hW => ?_)
        refine lv_aload_n hx hb dX3_listPairs_54 rfl (lv_at hl 0 rfl) ?_
        obtain ⟨v13, e13, hf⟩ := pb_rd (rd_gA _ _ _) hf
        refine r_gA C hW e13 flX3_29 rfl dX3_listPairs_55 ?_
        refine lv_iload_n hx hb dX3_listPairs_58 rfl (lv_at hl 1 rfl) ?_
        refine lv_iload_n hx hb dX3_listPairs_59 rfl (lv_at hl 3 rfl) ?_
        obtain ⟨_, h14, e14, hf⟩ := pb_some hf
        refine r_iast C hW e14 dX3_listPairs_60 (fun H locs hW => ?_)
        refine lv_iinc (v := (x1 + 1)) (lv' := [(1, .int (x1 + 1)), (0, .ref (ρ x0)), (2, .int x2), (3, .int x3)]) hx hb dX3_listPairs_61 hl (k := 1) rfl rfl (by decide) rfl (fun ls hl => ?_)
        refine lv_iinc (v := (x3 + 1)) (lv' := [(3, .int (x3 + 1)), (1, .int (x1 + 1)), (0, .ref (ρ x0)), (2, .int x2)]) hx hb dX3_listPairs_64 hl (k := 3) rfl rfl (by decide) rfl (fun ls hl => ?_)
        refine lv_goto (tgt := 14) hx hb dX3_listPairs_67 (by decide) ?_
        obtain ⟨rfl, rfl⟩ := pp_some hf
        exact kc _ rfl _ _ _ _ _ hW (lv_sub hl [2, 1, 3, 0] rfl)
set_option maxHeartbeats 4000000 in
theorem wX3_listPairs_L14 {p : Program} {l : Launch} {e : Env} {s : State} {m : MethodId} {args : Array Value} {below : List Frame} {meth : Method} {c : Code} {G : GG} {ρ : Nat → Nat} {h0 hE hB : PH} {Q : State → Prop} {x0 : Nat} {x2 : Int32} (C : Cx G "PairSymbols$Level" cX3_listPairs 4 none "listPairs" p s m args meth c) {z : (Int32)} (n : Nat) : ∀ (x : Int32 × Int32) {h : PH} {H : Heap} {locs : List Loc} {cells slots : Nat} {ls : Array Slot}, (plo (fX3_listPairs_B14 x0 x2) n x).1 h = some (z, hB) → Ext hB hE → Wd G ρ h0.length (sl h0) s.heap h H locs cells slots → lv_has ls 4 [(0, .ref (ρ x0)), (1, .int x.1), (2, .int x2), (3, .int x.2)] → (ke : ∀ (H : Heap) (locs : List Loc) (c1 s1 : Nat) (ls : Array Slot), Wd G ρ h0.length (sl h0) s.heap hB H locs c1 s1 → lv_has ls 4 [(0, .ref (ρ x0)), (1, .int z), (2, .int x2)] → W p l e (RM 0 0 h0 hE) s m args below meth c H locs c1 s1 Q (F0 m 70 ls [])) → W p l e (RM 0 0 h0 hE) s m args below meth c H locs cells slots Q (F0 m 14 ls []) := by
  induction n with
  | zero =>
    intro x h H locs cells slots ls hf
    rw [plo_0] at hf
    exact (pf_no hf).elim
  | succ n ih =>
    intro x h H locs cells slots ls hf hX hW hl ke
    rw [plo_s] at hf
    obtain ⟨r, h1, e1, hf⟩ := pb_some hf
    unfold fX3_listPairs_B14 at e1
    rw [frI_eq, frI_eq] at e1
    refine wX3_listPairs_B14 C e1 ((pext hf).tr hX) hW hl (fun y hr H locs c1 s1 ls hW hl => ?_) (fun y hr H locs c1 s1 ls hW hl => ?_)
    · subst hr
      exact ih y hf hX hW hl ke
    · subst hr
      obtain ⟨rfl, rfl⟩ := pp_some hf
      exact ke H locs c1 s1 ls hW hl
set_option maxHeartbeats 4000000 in
set_option maxRecDepth 100000 in
theorem wX3_listPairs_B4 {p : Program} {l : Launch} {e : Env} {s : State} {m : MethodId} {args : Array Value} {below : List Frame} {meth : Method} {c : Code} {G : GG} {ρ : Nat → Nat} {h0 hE hB : PH} {Q : State → Prop} {x0 : Nat} (C : Cx G "PairSymbols$Level" cX3_listPairs 4 none "listPairs" p s m args meth c) {x1 : Int32} {x2 : Int32} {h : PH} {H : Heap} {locs : List Loc} {cells slots : Nat} {ls : Array Slot} {r : (Int32 × Int32) ⊕ (Unit)} (hf : (fX3_listPairs_b4 x0 x1 x2).1 h = some (r, hB)) (hX : Ext hB hE) (hW : Wd G ρ h0.length (sl h0) s.heap h H locs cells slots) (hl : lv_has ls 4 [(0, .ref (ρ x0)), (1, .int x1), (2, .int x2)]) (kc : ∀ y : Int32 × Int32, r = .inl y → ∀ (H : Heap) (locs : List Loc) (c1 s1 : Nat) (ls : Array Slot), Wd G ρ h0.length (sl h0) s.heap hB H locs c1 s1 → lv_has ls 4 [(0, .ref (ρ x0)), (1, .int y.1), (2, .int y.2)] → W p l e (RM 0 0 h0 hE) s m args below meth c H locs c1 s1 Q (F0 m 4 ls [])) (ke : ∀ z : Unit, r = .inr z → ∀ (H : Heap) (locs : List Loc) (c1 s1 : Nat) (ls : Array Slot), Wd G ρ h0.length (sl h0) s.heap hB H locs c1 s1 → lv_has ls 4 [] → W p l e (RM 0 0 h0 hE) s m args below meth c H locs c1 s1 Q (F0 m 76 ls [])) : W p l e (RM 0 0 h0 hE) s m args below meth c H locs cells slots Q (F0 m 4 ls []) := by
  have hx := C.1
  have hb := C.2.1
  unfold fX3_listPairs_b4 at hf
  refine lv_iload_n hx hb dX3_listPairs_4 rfl (lv_at hl 2 rfl) ?_
  refine lv_aload_n hx hb dX3_listPairs_5 rfl (lv_at hl 0 rfl) ?_
  obtain ⟨v1, e1, hf⟩ := pb_rd (rd_gI _ _ _) hf
  refine r_gI C hW e1 flX3_9 rfl dX3_listPairs_6 ?_
  refine lv_icmp_ge (tgt := 76) hx hb dX3_listPairs_9 (by decide) (fun c2 => ?_) (fun c2 => ?_)
  · rw [if_pos c2] at hf
    obtain ⟨rfl, rfl⟩ := pp_some hf
    exact ke _ rfl _ _ _ _ _ hW (lv_sub hl [] rfl)
  · rw [if_neg c2] at hf
    refine lv_iconst (v := 0) hx hb dX3_listPairs_12 (by decide) ?_
    refine lv_istore_n (lv' := [(3, .int (0 : Int32)), (0, .ref (ρ x0)), (1, .int x1), (2, .int x2)]) hx hb dX3_listPairs_13 rfl hl (by decide) rfl (fun ls hl => ?_)
    obtain ⟨z15, h15, e15, hf⟩ := pb_some hf
    refine wX3_listPairs_L14 C fu _ e15 ((pext hf).tr hX) hW (lv_sub hl [1, 2, 3, 0] rfl) (fun H locs c1 s1 ls hW hl => ?_)
    refine lv_iinc (v := (x2 + 1)) (lv' := [(2, .int (x2 + 1)), (0, .ref (ρ x0)), (1, .int z15)]) hx hb dX3_listPairs_70 hl (k := 2) rfl rfl (by decide) rfl (fun ls hl => ?_)
    refine lv_goto (tgt := 4) hx hb dX3_listPairs_73 (by decide) ?_
    obtain ⟨rfl, rfl⟩ := pp_some hf
    exact kc _ rfl _ _ _ _ _ hW (lv_sub hl [1, 2, 0] rfl)
set_option maxHeartbeats 4000000 in
theorem wX3_listPairs_L4 {p : Program} {l : Launch} {e : Env} {s : State} {m : MethodId} {args : Array Value} {below : List Frame} {meth : Method} {c : Code} {G : GG} {ρ : Nat → Nat} {h0 hE hB : PH} {Q : State → Prop} {x0 : Nat} (C : Cx G "PairSymbols$Level" cX3_listPairs 4 none "listPairs" p s m args meth c) {z : (Unit)} (n : Nat) : ∀ (x : Int32 × Int32) {h : PH} {H : Heap} {locs : List Loc} {cells slots : Nat} {ls : Array Slot}, (plo (fX3_listPairs_B4 x0) n x).1 h = some (z, hB) → Ext hB hE → Wd G ρ h0.length (sl h0) s.heap h H locs cells slots → lv_has ls 4 [(0, .ref (ρ x0)), (1, .int x.1), (2, .int x.2)] → (ke : ∀ (H : Heap) (locs : List Loc) (c1 s1 : Nat) (ls : Array Slot), Wd G ρ h0.length (sl h0) s.heap hB H locs c1 s1 → lv_has ls 4 [] → W p l e (RM 0 0 h0 hE) s m args below meth c H locs c1 s1 Q (F0 m 76 ls [])) → W p l e (RM 0 0 h0 hE) s m args below meth c H locs cells slots Q (F0 m 4 ls []) := by
  induction n with
  | zero =>
    intro x h H locs cells slots ls hf
    rw [plo_0] at hf
    exact (pf_no hf).elim
  | succ n ih =>
    intro x h H locs cells slots ls hf hX hW hl ke
    rw [plo_s] at hf
    obtain ⟨r, h1, e1, hf⟩ := pb_some hf
    unfold fX3_listPairs_B4 at e1
    rw [frI_eq, frI_eq] at e1
    refine wX3_listPairs_B4 C e1 ((pext hf).tr hX) hW hl (fun y hr H locs c1 s1 ls hW hl => ?_) (fun y hr H locs c1 s1 ls hW hl => ?_)
    · subst hr
      exact ih y hf hX hW hl ke
    · subst hr
      obtain ⟨rfl, rfl⟩ := pp_some hf
      exact ke H locs c1 s1 ls hW hl
set_option maxHeartbeats 4000000 in
set_option maxRecDepth 100000 in
theorem metX3_listPairs (l : Launch) (G : GG) (ρ : Nat → Nat) {z : Nat} {x0 : Nat} {h hE : PH} {v : Unit} (hf : (fX3_listPairs x0).1 h = some (v, hE)) : Met l yX3_listPairs (wsY yX3_listPairs cX3_listPairs 4 none) (RM 0 0 h hE) (va_Pc [.ref (ρ x0)] (PcB G ρ h z)) (QV G ρ hE h.length z) (DC h hE) (DS h hE) (Af ρ h.length z) := by
  refine met_start (by decide) (Nat.le_of_ble_eq_true rfl) ?_
  intro p e s m below meth c ls hz C hW hl
  subst hz
  have C : Cx G "PairSymbols$Level" cX3_listPairs 4 none "listPairs" p s m _ meth c := C
  have hx := C.1
  have hb := C.2.1
  have hX : Ext hE hE := Ext.rf hE
  have hl : lv_has ls 4 [(0, .ref (ρ x0))] := hl
  have hW : Wd G ρ h.length (sl h) s.heap h s.heap [] 0 0 := hW
  unfold fX3_listPairs at hf
  obtain ⟨_, e0, hf⟩ := pb_rd (rd_chk _ _) hf
  refine lv_iconst (v := 0) hx hb dX3_listPairs_0 (by decide) ?_
  refine lv_istore_n (lv' := [(1, .int (0 : Int32)), (0, .ref (ρ x0))]) hx hb dX3_listPairs_1 rfl hl (by decide) rfl (fun ls hl => ?_)
  refine lv_iconst (v := 0) hx hb dX3_listPairs_2 (by decide) ?_
  refine lv_istore_n (lv' := [(2, .int (0 : Int32)), (1, .int (0 : Int32)), (0, .ref (ρ x0))]) hx hb dX3_listPairs_3 rfl hl (by decide) rfl (fun ls hl => ?_)
  obtain ⟨z16, h16, e16, hf⟩ := pb_some hf
  refine wX3_listPairs_L4 C fu _ e16 ((pext hf).tr hX) hW (lv_sub hl [2, 1, 0] rfl) (fun H locs c1 s1 ls hW hl => ?_)
  obtain ⟨rfl, rfl⟩ := pp_some hf
  exact r_vret C hW dX3_listPairs_76

theorem dX3_find_0 : decode cX3_find 0 = .ok (.iload_n 1, 1) := by decide +kernel
theorem dX3_find_1 : decode cX3_find 1 = .ok (.aload_n 0, 1) := by decide +kernel
theorem dX3_find_2 : decode cX3_find 2 = .ok (.getfield 9, 3) := by decide +kernel
theorem dX3_find_5 : decode cX3_find 5 = .ok (.irem, 1) := by decide +kernel
theorem dX3_find_6 : decode cX3_find 6 = .ok (.aload_n 0, 1) := by decide +kernel
theorem dX3_find_7 : decode cX3_find 7 = .ok (.getfield 9, 3) := by decide +kernel
theorem dX3_find_10 : decode cX3_find 10 = .ok (.iadd, 1) := by decide +kernel
theorem dX3_find_11 : decode cX3_find 11 = .ok (.aload_n 0, 1) := by decide +kernel
theorem dX3_find_12 : decode cX3_find 12 = .ok (.getfield 9, 3) := by decide +kernel
theorem dX3_find_15 : decode cX3_find 15 = .ok (.irem, 1) := by decide +kernel
theorem dX3_find_16 : decode cX3_find 16 = .ok (.istore_n 3, 1) := by decide +kernel
theorem dX3_find_17 : decode cX3_find 17 = .ok (.iload_n 2, 1) := by decide +kernel
theorem dX3_find_18 : decode cX3_find 18 = .ok (.aload_n 0, 1) := by decide +kernel
theorem dX3_find_19 : decode cX3_find 19 = .ok (.getfield 9, 3) := by decide +kernel
theorem dX3_find_22 : decode cX3_find 22 = .ok (.irem, 1) := by decide +kernel
theorem dX3_find_23 : decode cX3_find 23 = .ok (.aload_n 0, 1) := by decide +kernel
theorem dX3_find_24 : decode cX3_find 24 = .ok (.getfield 9, 3) := by decide +kernel
theorem dX3_find_27 : decode cX3_find 27 = .ok (.iadd, 1) := by decide +kernel
theorem dX3_find_28 : decode cX3_find 28 = .ok (.aload_n 0, 1) := by decide +kernel
theorem dX3_find_29 : decode cX3_find 29 = .ok (.getfield 9, 3) := by decide +kernel
theorem dX3_find_32 : decode cX3_find 32 = .ok (.irem, 1) := by decide +kernel
theorem dX3_find_33 : decode cX3_find 33 = .ok (.istore 4, 2) := by decide +kernel
theorem dX3_find_35 : decode cX3_find 35 = .ok (.aload_n 0, 1) := by decide +kernel
theorem dX3_find_36 : decode cX3_find 36 = .ok (.getfield 15, 3) := by decide +kernel
theorem dX3_find_39 : decode cX3_find 39 = .ok (.iload_n 3, 1) := by decide +kernel
theorem dX3_find_40 : decode cX3_find 40 = .ok (.aload_n 0, 1) := by decide +kernel
theorem dX3_find_41 : decode cX3_find 41 = .ok (.getfield 9, 3) := by decide +kernel
theorem dX3_find_44 : decode cX3_find 44 = .ok (.imul, 1) := by decide +kernel
theorem dX3_find_45 : decode cX3_find 45 = .ok (.iload 4, 2) := by decide +kernel
theorem dX3_find_47 : decode cX3_find 47 = .ok (.iadd, 1) := by decide +kernel
theorem dX3_find_48 : decode cX3_find 48 = .ok (.iaload, 1) := by decide +kernel
theorem dX3_find_49 : decode cX3_find 49 = .ok (.ireturn, 1) := by decide +kernel
theorem kcX3_find : Cond.code yX3_find cX3_find 5 (some .int) ∈ tb := tq q_54 rfl
theorem knX3_find : Cond.initialized yX3_find.cls ∈ tb := (tq q_2 rfl)
theorem kdX3_find : yX3_find.cls ≠ "java/lang/invoke/MethodHandle" ∧ yX3_find.cls ≠ "java/lang/invoke/VarHandle" ∧ (parseMethodDescriptor yX3_find.desc).map (fun d => d.parameters.length) = some 2 := ⟨by decide +kernel, by decide +kernel, by decide +kernel⟩
theorem kiX3_find : Cond.instanceMethod yX3_find ∈ tb := (tq q_52 rfl)
theorem ksX3_find : Cond.selects yX3_find.cls yX3_find yX3_find ∈ tb := (tq q_53 rfl)
theorem tgX3_find {x0 : Nat} {x1 : Int32} {x2 : Int32} {h : PH} {r : Int32 × PH} (hf : (fX3_find x0 x1 x2).1 h = some r) : ∃ n x, nth h x0 = some (3, n, x) := by
  obtain ⟨_, _, e, _⟩ := pb_some hf
  exact (chk_some e).2
set_option maxHeartbeats 4000000 in
set_option maxRecDepth 100000 in
theorem metX3_find (l : Launch) (G : GG) (ρ : Nat → Nat) {z : Nat} {x0 : Nat} {x1 : Int32} {x2 : Int32} {h hE : PH} {v : Int32} (hf : (fX3_find x0 x1 x2).1 h = some (v, hE)) : Met l yX3_find (wsY yX3_find cX3_find 5 (some .int)) (RM 0 0 h hE) (va_Pc [.ref (ρ x0), .int x1, .int x2] (PcB G ρ h z)) (QI G ρ v hE h.length z) (DC h hE) (DS h hE) (Af ρ h.length z) := by
  refine met_start (by decide) (Nat.le_of_ble_eq_true rfl) ?_
  intro p e s m below meth c ls hz C hW hl
  subst hz
  have C : Cx G "PairSymbols$Level" cX3_find 5 (some .int) "find" p s m _ meth c := C
  have hx := C.1
  have hb := C.2.1
  have hX : Ext hE hE := Ext.rf hE
  have hl : lv_has ls 5 [(0, .ref (ρ x0)), (1, .int x1), (2, .int x2)] := hl
  have hW : Wd G ρ h.length (sl h) s.heap h s.heap [] 0 0 := hW
  unfold fX3_find at hf
  obtain ⟨_, e0, hf⟩ := pb_rd (rd_chk _ _) hf
  refine lv_iload_n hx hb dX3_find_0 rfl (lv_at hl 1 rfl) ?_
  refine lv_aload_n hx hb dX3_find_1 rfl (lv_at hl 0 rfl) ?_
  obtain ⟨v1, e1, hf⟩ := pb_rd (rd_gI _ _ _) hf
  refine r_gI C hW e1 flX3_9 rfl dX3_find_2 ?_
  by_cases c2 : v1 = 0
  · rw [if_pos c2] at hf
    exact (pf_no hf).elim
  rw [if_neg c2] at hf
  refine lv_irem hx hb dX3_find_5 c2 ?_
  refine lv_aload_n hx hb dX3_find_6 rfl (lv_at hl 0 rfl) ?_
  obtain ⟨v3, e3, hf⟩ := pb_rd (rd_gI _ _ _) hf
  refine r_gI C hW e3 flX3_9 rfl dX3_find_7 ?_
  refine lv_iadd hx hb dX3_find_10 ?_
  refine lv_aload_n hx hb dX3_find_11 rfl (lv_at hl 0 rfl) ?_
  obtain ⟨v4, e4, hf⟩ := pb_rd (rd_gI _ _ _) hf
  refine r_gI C hW e4 flX3_9 rfl dX3_find_12 ?_
  by_cases c5 : v4 = 0
  · rw [if_pos c5] at hf
    exact (pf_no hf).elim
  rw [if_neg c5] at hf
  refine lv_irem hx hb dX3_find_15 c5 ?_
  refine lv_istore_n (lv' := [(3, .int (((x1 - x1 / v1 * v1) + v3) - ((x1 - x1 / v1 * v1) + v3) / v4 * v4)), (0, .ref (ρ x0)), (1, .int x1), (2, .int x2)]) hx hb dX3_find_16 rfl hl (by decide) rfl (fun ls hl => ?_)
  refine lv_iload_n hx hb dX3_find_17 rfl (lv_at hl 3 rfl) ?_
  refine lv_aload_n hx hb dX3_find_18 rfl (lv_at hl 1 rfl) ?_
  obtain ⟨v6, e6, hf⟩ := pb_rd (rd_gI _ _ _) hf
  refine r_gI C hW e6 flX3_9 rfl dX3_find_19 ?_
  by_cases c7 : v6 = 0
  · rw [if_pos c7] at hf
    exact (pf_no hf).elim
  rw [if_neg c7] at hf
  refine lv_irem hx hb dX3_find_22 c7 ?_
  refine lv_aload_n hx hb dX3_find_23 rfl (lv_at hl 1 rfl) ?_
  obtain ⟨v8, e8, hf⟩ := pb_rd (rd_gI _ _ _) hf
  refine r_gI C hW e8 flX3_9 rfl dX3_find_24 ?_
  refine lv_iadd hx hb dX3_find_27 ?_
  refine lv_aload_n hx hb dX3_find_28 rfl (lv_at hl 1 rfl) ?_
  obtain ⟨v9, e9, hf⟩ := pb_rd (rd_gI _ _ _) hf
  refine r_gI C hW e9 flX3_9 rfl dX3_find_29 ?_
  by_cases c10 : v9 = 0
  · rw [if_pos c10] at hf
    exact (pf_no hf).elim
  rw [if_neg c10] at hf
  refine lv_irem hx hb dX3_find_32 c10 ?_
  refine lv_istore (lv' := [(4, .int (((x2 - x2 / v6 * v6) + v8) - ((x2 - x2 / v6 * v6) + v8) / v9 * v9)), (3, .int (((x1 - x1 / v1 * v1) + v3) - ((x1 - x1 / v1 * v1) + v3) / v4 * v4)), (0, .ref (ρ x0)), (1, .int x1), (2, .int x2)]) hx hb dX3_find_33 hl (by decide) rfl (fun ls hl => ?_)
  refine lv_aload_n hx hb dX3_find_35 rfl (lv_at hl 2 rfl) ?_
  obtain ⟨v11, e11, hf⟩ := pb_rd (rd_gA _ _ _) hf
  refine r_gA C hW e11 flX3_15 rfl dX3_find_36 ?_
  refine lv_iload_n hx hb dX3_find_39 rfl (lv_at hl 1 rfl) ?_
  refine lv_aload_n hx hb dX3_find_40 rfl (lv_at hl 2 rfl) ?_
  obtain ⟨v12, e12, hf⟩ := pb_rd (rd_gI _ _ _) hf
  refine r_gI C hW e12 flX3_9 rfl dX3_find_41 ?_
  refine lv_imul hx hb dX3_find_44 ?_
  refine lv_iload hx hb dX3_find_45 (lv_at hl 0 rfl) ?_
  refine lv_iadd hx hb dX3_find_47 ?_
  obtain ⟨v13, e13, hf⟩ := pb_rd (rd_lI _ _ _) hf
  refine r_iald C hW e13 dX3_find_48 ?_
  obtain ⟨rfl, rfl⟩ := pp_some hf
  exact r_iret C hW dX3_find_49

theorem dX3_listMaps_0 : decode cX3_listMaps 0 = .ok (.iconst 0, 1) := by decide +kernel
theorem dX3_listMaps_1 : decode cX3_listMaps 1 = .ok (.istore_n 1, 1) := by decide +kernel
theorem dX3_listMaps_2 : decode cX3_listMaps 2 = .ok (.iload_n 1, 1) := by decide +kernel
theorem dX3_listMaps_3 : decode cX3_listMaps 3 = .ok (.aload_n 0, 1) := by decide +kernel
theorem dX3_listMaps_4 : decode cX3_listMaps 4 = .ok (.getfield 23, 3) := by decide +kernel
theorem dX3_listMaps_7 : decode cX3_listMaps 7 = .ok (.if_icmp .ge 65, 3) := by decide +kernel
theorem dX3_listMaps_10 : decode cX3_listMaps 10 = .ok (.aload_n 0, 1) := by decide +kernel
theorem dX3_listMaps_11 : decode cX3_listMaps 11 = .ok (.getfield 26, 3) := by decide +kernel
theorem dX3_listMaps_14 : decode cX3_listMaps 14 = .ok (.iload_n 1, 1) := by decide +kernel
theorem dX3_listMaps_15 : decode cX3_listMaps 15 = .ok (.iaload, 1) := by decide +kernel
theorem dX3_listMaps_16 : decode cX3_listMaps 16 = .ok (.istore_n 2, 1) := by decide +kernel
theorem dX3_listMaps_17 : decode cX3_listMaps 17 = .ok (.aload_n 0, 1) := by decide +kernel
theorem dX3_listMaps_18 : decode cX3_listMaps 18 = .ok (.getfield 29, 3) := by decide +kernel
theorem dX3_listMaps_21 : decode cX3_listMaps 21 = .ok (.iload_n 1, 1) := by decide +kernel
theorem dX3_listMaps_22 : decode cX3_listMaps 22 = .ok (.iaload, 1) := by decide +kernel
theorem dX3_listMaps_23 : decode cX3_listMaps 23 = .ok (.istore_n 3, 1) := by decide +kernel
theorem dX3_listMaps_24 : decode cX3_listMaps 24 = .ok (.aload_n 0, 1) := by decide +kernel
theorem dX3_listMaps_25 : decode cX3_listMaps 25 = .ok (.getfield 32, 3) := by decide +kernel
theorem dX3_listMaps_28 : decode cX3_listMaps 28 = .ok (.iload_n 1, 1) := by decide +kernel
theorem dX3_listMaps_29 : decode cX3_listMaps 29 = .ok (.aload_n 0, 1) := by decide +kernel
theorem dX3_listMaps_30 : decode cX3_listMaps 30 = .ok (.iload_n 3, 1) := by decide +kernel
theorem dX3_listMaps_31 : decode cX3_listMaps 31 = .ok (.ineg, 1) := by decide +kernel
theorem dX3_listMaps_32 : decode cX3_listMaps 32 = .ok (.iload_n 2, 1) := by decide +kernel
theorem dX3_listMaps_33 : decode cX3_listMaps 33 = .ok (.invokevirtual 117, 3) := by decide +kernel
theorem dX3_listMaps_36 : decode cX3_listMaps 36 = .ok (.iastore, 1) := by decide +kernel
theorem dX3_listMaps_37 : decode cX3_listMaps 37 = .ok (.aload_n 0, 1) := by decide +kernel
theorem dX3_listMaps_38 : decode cX3_listMaps 38 = .ok (.getfield 35, 3) := by decide +kernel
theorem dX3_listMaps_41 : decode cX3_listMaps 41 = .ok (.iload_n 1, 1) := by decide +kernel
theorem dX3_listMaps_42 : decode cX3_listMaps 42 = .ok (.aload_n 0, 1) := by decide +kernel
theorem dX3_listMaps_43 : decode cX3_listMaps 43 = .ok (.iload_n 2, 1) := by decide +kernel
theorem dX3_listMaps_44 : decode cX3_listMaps 44 = .ok (.iload_n 3, 1) := by decide +kernel
theorem dX3_listMaps_45 : decode cX3_listMaps 45 = .ok (.iadd, 1) := by decide +kernel
theorem dX3_listMaps_46 : decode cX3_listMaps 46 = .ok (.iload_n 2, 1) := by decide +kernel
theorem dX3_listMaps_47 : decode cX3_listMaps 47 = .ok (.ineg, 1) := by decide +kernel
theorem dX3_listMaps_48 : decode cX3_listMaps 48 = .ok (.invokevirtual 117, 3) := by decide +kernel
theorem dX3_listMaps_51 : decode cX3_listMaps 51 = .ok (.iastore, 1) := by decide +kernel
theorem dX3_listMaps_52 : decode cX3_listMaps 52 = .ok (.aload_n 0, 1) := by decide +kernel
theorem dX3_listMaps_53 : decode cX3_listMaps 53 = .ok (.getfield 38, 3) := by decide +kernel
theorem dX3_listMaps_56 : decode cX3_listMaps 56 = .ok (.iload_n 1, 1) := by decide +kernel
theorem dX3_listMaps_57 : decode cX3_listMaps 57 = .ok (.aload_n 0, 1) := by decide +kernel
theorem dX3_listMaps_58 : decode cX3_listMaps 58 = .ok (.iload_n 2, 1) := by decide +kernel
theorem dX3_listMaps_59 : decode cX3_listMaps 59 = .ok (.iload_n 2, 1) := by decide +kernel
theorem dX3_listMaps_60 : decode cX3_listMaps 60 = .ok (.iload_n 3, 1) := by decide +kernel
theorem dX3_listMaps_61 : decode cX3_listMaps 61 = .ok (.iadd, 1) := by decide +kernel
theorem dX3_listMaps_62 : decode cX3_listMaps 62 = .ok (.invokevirtual 117, 3) := by decide +kernel
theorem dX3_listMaps_65 : decode cX3_listMaps 65 = .ok (.iastore, 1) := by decide +kernel
theorem dX3_listMaps_66 : decode cX3_listMaps 66 = .ok (.iinc 1 1, 3) := by decide +kernel
theorem dX3_listMaps_69 : decode cX3_listMaps 69 = .ok (.goto (-67), 3) := by decide +kernel
theorem dX3_listMaps_72 : decode cX3_listMaps 72 = .ok (.return_, 1) := by decide +kernel
theorem kcX3_listMaps : Cond.code yX3_listMaps cX3_listMaps 4 none ∈ tb := tq q_50 rfl
theorem knX3_listMaps : Cond.initialized yX3_listMaps.cls ∈ tb := (tq q_2 rfl)
theorem kdX3_listMaps : yX3_listMaps.cls ≠ "java/lang/invoke/MethodHandle" ∧ yX3_listMaps.cls ≠ "java/lang/invoke/VarHandle" ∧ (parseMethodDescriptor yX3_listMaps.desc).map (fun d => d.parameters.length) = some 0 := ⟨by decide +kernel, by decide +kernel, by decide +kernel⟩
theorem kiX3_listMaps : Cond.instanceMethod yX3_listMaps ∈ tb := (tq q_49 rfl)
theorem ksX3_listMaps : Cond.selects yX3_listMaps.cls yX3_listMaps yX3_listMaps ∈ tb := (tq z_3 rfl)
theorem tgX3_listMaps {x0 : Nat} {h : PH} {r : Unit × PH} (hf : (fX3_listMaps x0).1 h = some r) : ∃ n x, nth h x0 = some (3, n, x) := by
  obtain ⟨_, _, e, _⟩ := pb_some hf
  exact (chk_some e).2
set_option maxHeartbeats 4000000 in
set_option maxRecDepth 100000 in
theorem wX3_listMaps_B2 {p : Program} {l : Launch} {e : Env} {s : State} {m : MethodId} {args : Array Value} {below : List Frame} {meth : Method} {c : Code} {G : GG} {ρ : Nat → Nat} {h0 hE hB : PH} {Q : State → Prop} {x0 : Nat} (C : Cx G "PairSymbols$Level" cX3_listMaps 4 none "listMaps" p s m args meth c) {x1 : Int32} {h : PH} {H : Heap} {locs : List Loc} {cells slots : Nat} {ls : Array Slot} {r : (Int32) ⊕ (Unit)} (hf : (fX3_listMaps_b2 x0 x1).1 h = some (r, hB)) (hX : Ext hB hE) (hW : Wd G ρ h0.length (sl h0) s.heap h H locs cells slots) (hl : lv_has ls 4 [(0, .ref (ρ x0)), (1, .int x1)]) (kc : ∀ y : Int32, r = .inl y → ∀ (H : Heap) (locs : List Loc) (c1 s1 : Nat) (ls : Array Slot), Wd G ρ h0.length (sl h0) s.heap hB H locs c1 s1 → lv_has ls 4 [(0, .ref (ρ x0)), (1, .int y)] → W p l e (RM 1 24 h0 hE) s m args below meth c H locs c1 s1 Q (F0 m 2 ls [])) (ke : ∀ z : Unit, r = .inr z → ∀ (H : Heap) (locs : List Loc) (c1 s1 : Nat) (ls : Array Slot), Wd G ρ h0.length (sl h0) s.heap hB H locs c1 s1 → lv_has ls 4 [] → W p l e (RM 1 24 h0 hE) s m args below meth c H locs c1 s1 Q (F0 m 72 ls [])) : W p l e (RM 1 24 h0 hE) s m args below meth c H locs cells slots Q (F0 m 2 ls []) := by
  have hx := C.1
  have hb := C.2.1
  unfold fX3_listMaps_b2 at hf
  refine lv_iload_n hx hb dX3_listMaps_2 rfl (lv_at hl 1 rfl) ?_
  refine lv_aload_n hx hb dX3_listMaps_3 rfl (lv_at hl 0 rfl) ?_
  obtain ⟨v1, e1, hf⟩ := pb_rd (rd_gI _ _ _) hf
  refine r_gI C hW e1 flX3_23 rfl dX3_listMaps_4 ?_
  refine lv_icmp_ge (tgt := 72) hx hb dX3_listMaps_7 (by decide) (fun c2 => ?_) (fun c2 => ?_)
  · rw [if_pos c2] at hf
    obtain ⟨rfl, rfl⟩ := pp_some hf
    exact ke _ rfl _ _ _ _ _ hW (lv_sub hl [] rfl)
  · rw [if_neg c2] at hf
    refine lv_aload_n hx hb dX3_listMaps_10 rfl (lv_at hl 0 rfl) ?_
    obtain ⟨v3, e3, hf⟩ := pb_rd (rd_gA _ _ _) hf
    refine r_gA C hW e3 flX3_26 rfl dX3_listMaps_11 ?_
    refine lv_iload_n hx hb dX3_listMaps_14 rfl (lv_at hl 1 rfl) ?_
    obtain ⟨v4, e4, hf⟩ := pb_rd (rd_lI _ _ _) hf
    refine r_iald C hW e4 dX3_listMaps_15 ?_
    refine lv_istore_n (lv' := [(2, .int v4), (0, .ref (ρ x0)), (1, .int x1)]) hx hb dX3_listMaps_16 rfl hl (by decide) rfl (fun ls hl => ?_)
    refine lv_aload_n hx hb dX3_listMaps_17 rfl (lv_at hl 1 rfl) ?_
    obtain ⟨v5, e5, hf⟩ := pb_rd (rd_gA _ _ _) hf
    refine r_gA C hW e5 flX3_29 rfl dX3_listMaps_18 ?_
    refine lv_iload_n hx hb dX3_listMaps_21 rfl (lv_at hl 2 rfl) ?_
    obtain ⟨v6, e6, hf⟩ := pb_rd (rd_lI _ _ _) hf
    refine r_iald C hW e6 dX3_listMaps_22 ?_
    refine lv_istore_n (lv' := [(3, .int v6), (2, .int v4), (0, .ref (ρ x0)), (1, .int x1)]) hx hb dX3_listMaps_23 rfl hl (by decide) rfl (fun ls hl => ?_)
    refine lv_aload_n hx hb dX3_listMaps_24 rfl (lv_at hl 2 rfl) ?_
    obtain ⟨v7, e7, hf⟩ := pb_rd (rd_gA _ _ _) hf
    refine r_gA C hW e7 flX3_32 rfl dX3_listMaps_25 ?_
    refine lv_iload_n hx hb dX3_listMaps_28 rfl (lv_at hl 3 rfl) ?_
    refine lv_aload_n hx hb dX3_listMaps_29 rfl (lv_at hl 2 rfl) ?_
    refine lv_iload_n hx hb dX3_listMaps_30 rfl (lv_at hl 0 rfl) ?_
    refine lv_ineg hx hb dX3_listMaps_31 ?_
    refine lv_iload_n hx hb dX3_listMaps_32 rfl (lv_at hl 1 rfl) ?_
    obtain ⟨v8, h8, e8, hf⟩ := pb_some hf
    obtain ⟨_, _, t9⟩ := tgX3_find e8
    refine r_calli hW (pext e8) (run_V (b := x0) (As := [.int (-v6), .int v4]) (rest := [.int x1, .ref (ρ v7)]) C hW (metX3_find l G ρ e8) ⟨rfl, rfl⟩ kcX3_find (tq q_51 rfl) kiX3_find ksX3_find knX3_find kdX3_find t9 rfl rfl ⟨Nat.le_of_ble_eq_true rfl, Nat.le_of_ble_eq_true rfl⟩ hl.1 (Nat.le_of_ble_eq_true rfl) (room_of hW (pext e8) ((pext hf).tr hX)) dX3_listMaps_33 rfl) (fun H locs c1 s1 hW => ?_)
    obtain ⟨_, h10, e10, hf⟩ := pb_some hf
    refine r_iast C hW e10 dX3_listMaps_36 (fun H locs hW => ?_)
    refine lv_aload_n hx hb dX3_listMaps_37 rfl (lv_at hl 2 rfl) ?_
    obtain ⟨v11, e11, hf⟩ := pb_rd (rd_gA _ _ _) hf
    refine r_gA C hW e11 flX3_35 rfl dX3_listMaps_38 ?_
    refine lv_iload_n hx hb dX3_listMaps_41 rfl (lv_at hl 3 rfl) ?_
    refine lv_aload_n hx hb dX3_listMaps_42 rfl (lv_at hl 2 rfl) ?_
    refine lv_iload_n hx hb dX3_listMaps_43 rfl (lv_at hl 1 rfl) ?_
    refine lv_iload_n hx hb dX3_listMaps_44 rfl (lv_at hl 0 rfl) ?_
    refine lv_iadd hx hb dX3_listMaps_45 ?_
    refine lv_iload_n hx hb dX3_listMaps_46 rfl (lv_at hl 1 rfl) ?_
    refine lv_ineg hx hb dX3_listMaps_47 ?_
    obtain ⟨v12, h12, e12, hf⟩ := pb_some hf
    obtain ⟨_, _, t13⟩ := tgX3_find e12
    refine r_calli hW (pext e12) (run_V (b := x0) (As := [.int (v4 + v6), .int (-v4)]) (rest := [.int x1, .ref (ρ v11)]) C hW (metX3_find l G ρ e12) ⟨rfl, rfl⟩ kcX3_find (tq q_51 rfl) kiX3_find ksX3_find knX3_find kdX3_find t13 rfl rfl ⟨Nat.le_of_ble_eq_true rfl, Nat.le_of_ble_eq_true rfl⟩ hl.1 (Nat.le_of_ble_eq_true rfl) (room_of hW (pext e12) ((pext hf).tr hX)) dX3_listMaps_48 rfl) (fun H locs c1 s1 hW => ?_)
    obtain ⟨_, h14, e14, hf⟩ := pb_some hf
    refine r_iast C hW e14 dX3_listMaps_51 (fun H locs hW => ?_)
    refine lv_aload_n hx hb dX3_listMaps_52 rfl (lv_at hl 2 rfl) ?_
    obtain ⟨v15, e15, hf⟩ := pb_rd (rd_gA _ _ _) hf
    refine r_gA C hW e15 flX3_38 rfl dX3_listMaps_53 ?_
    refine lv_iload_n hx hb dX3_listMaps_56 rfl (lv_at hl 3 rfl) ?_
    refine lv_aload_n hx hb dX3_listMaps_57 rfl (lv_at hl 2 rfl) ?_
    refine lv_iload_n hx hb dX3_listMaps_58 rfl (lv_at hl 1 rfl) ?_
    refine lv_iload_n hx hb dX3_listMaps_59 rfl (lv_at hl 1 rfl) ?_
    refine lv_iload_n hx hb dX3_listMaps_60 rfl (lv_at hl 0 rfl) ?_
    refine lv_iadd hx hb dX3_listMaps_61 ?_
    obtain ⟨v16, h16, e16, hf⟩ := pb_some hf
    obtain ⟨_, _, t17⟩ := tgX3_find e16
    refine r_calli hW (pext e16) (run_V (b := x0) (As := [.int v4, .int (v4 + v6)]) (rest := [.int x1, .ref (ρ v15)]) C hW (metX3_find l G ρ e16) ⟨rfl, rfl⟩ kcX3_find (tq q_51 rfl) kiX3_find ksX3_find knX3_find kdX3_find t17 rfl rfl ⟨Nat.le_of_ble_eq_true rfl, Nat.le_of_ble_eq_true rfl⟩ hl.1 (Nat.le_of_ble_eq_true rfl) (room_of hW (pext e16) ((pext hf).tr hX)) dX3_listMaps_62 rfl) (fun H locs c1 s1 hW => ?_)
    obtain ⟨_, h18, e18, hf⟩ := pb_some hf
    refine r_iast C hW e18 dX3_listMaps_65 (fun H locs hW => ?_)
    refine lv_iinc (v := (x1 + 1)) (lv' := [(1, .int (x1 + 1)), (3, .int v6), (2, .int v4), (0, .ref (ρ x0))]) hx hb dX3_listMaps_66 hl (k := 3) rfl rfl (by decide) rfl (fun ls hl => ?_)
    refine lv_goto (tgt := 2) hx hb dX3_listMaps_69 (by decide) ?_
    obtain ⟨rfl, rfl⟩ := pp_some hf
    exact kc _ rfl _ _ _ _ _ hW (lv_sub hl [3, 0] rfl)
set_option maxHeartbeats 4000000 in
theorem wX3_listMaps_L2 {p : Program} {l : Launch} {e : Env} {s : State} {m : MethodId} {args : Array Value} {below : List Frame} {meth : Method} {c : Code} {G : GG} {ρ : Nat → Nat} {h0 hE hB : PH} {Q : State → Prop} {x0 : Nat} (C : Cx G "PairSymbols$Level" cX3_listMaps 4 none "listMaps" p s m args meth c) {z : (Unit)} (n : Nat) : ∀ (x : Int32) {h : PH} {H : Heap} {locs : List Loc} {cells slots : Nat} {ls : Array Slot}, (plo (fX3_listMaps_B2 x0) n x).1 h = some (z, hB) → Ext hB hE → Wd G ρ h0.length (sl h0) s.heap h H locs cells slots → lv_has ls 4 [(0, .ref (ρ x0)), (1, .int x)] → (ke : ∀ (H : Heap) (locs : List Loc) (c1 s1 : Nat) (ls : Array Slot), Wd G ρ h0.length (sl h0) s.heap hB H locs c1 s1 → lv_has ls 4 [] → W p l e (RM 1 24 h0 hE) s m args below meth c H locs c1 s1 Q (F0 m 72 ls [])) → W p l e (RM 1 24 h0 hE) s m args below meth c H locs cells slots Q (F0 m 2 ls []) := by
  induction n with
  | zero =>
    intro x h H locs cells slots ls hf
    rw [plo_0] at hf
    exact (pf_no hf).elim
  | succ n ih =>
    intro x h H locs cells slots ls hf hX hW hl ke
    rw [plo_s] at hf
    obtain ⟨r, h1, e1, hf⟩ := pb_some hf
    unfold fX3_listMaps_B2 at e1
    rw [frI_eq] at e1
    refine wX3_listMaps_B2 C e1 ((pext hf).tr hX) hW hl (fun y hr H locs c1 s1 ls hW hl => ?_) (fun y hr H locs c1 s1 ls hW hl => ?_)
    · subst hr
      exact ih y hf hX hW hl ke
    · subst hr
      obtain ⟨rfl, rfl⟩ := pp_some hf
      exact ke H locs c1 s1 ls hW hl
set_option maxHeartbeats 4000000 in
set_option maxRecDepth 100000 in
theorem metX3_listMaps (l : Launch) (G : GG) (ρ : Nat → Nat) {z : Nat} {x0 : Nat} {h hE : PH} {v : Unit} (hf : (fX3_listMaps x0).1 h = some (v, hE)) : Met l yX3_listMaps (wsY yX3_listMaps cX3_listMaps 4 none) (RM 1 24 h hE) (va_Pc [.ref (ρ x0)] (PcB G ρ h z)) (QV G ρ hE h.length z) (DC h hE) (DS h hE) (Af ρ h.length z) := by
  refine met_start (by decide) (Nat.le_of_ble_eq_true rfl) ?_
  intro p e s m below meth c ls hz C hW hl
  subst hz
  have C : Cx G "PairSymbols$Level" cX3_listMaps 4 none "listMaps" p s m _ meth c := C
  have hx := C.1
  have hb := C.2.1
  have hX : Ext hE hE := Ext.rf hE
  have hl : lv_has ls 4 [(0, .ref (ρ x0))] := hl
  have hW : Wd G ρ h.length (sl h) s.heap h s.heap [] 0 0 := hW
  unfold fX3_listMaps at hf
  obtain ⟨_, e0, hf⟩ := pb_rd (rd_chk _ _) hf
  refine lv_iconst (v := 0) hx hb dX3_listMaps_0 (by decide) ?_
  refine lv_istore_n (lv' := [(1, .int (0 : Int32)), (0, .ref (ρ x0))]) hx hb dX3_listMaps_1 rfl hl (by decide) rfl (fun ls hl => ?_)
  obtain ⟨z19, h19, e19, hf⟩ := pb_some hf
  refine wX3_listMaps_L2 C fu _ e19 ((pext hf).tr hX) hW (lv_sub hl [1, 0] rfl) (fun H locs c1 s1 ls hW hl => ?_)
  obtain ⟨rfl, rfl⟩ := pp_some hf
  exact r_vret C hW dX3_listMaps_72

theorem dX3_numberCusps_0 : decode cX3_numberCusps 0 = .ok (.aload_n 0, 1) := by decide +kernel
theorem dX3_numberCusps_1 : decode cX3_numberCusps 1 = .ok (.getfield 47, 3) := by decide +kernel
theorem dX3_numberCusps_4 : decode cX3_numberCusps 4 = .ok (.iconst (-1), 1) := by decide +kernel
theorem dX3_numberCusps_5 : decode cX3_numberCusps 5 = .ok (.invokestatic 86, 3) := by decide +kernel
theorem dX3_numberCusps_8 : decode cX3_numberCusps 8 = .ok (.iconst 0, 1) := by decide +kernel
theorem dX3_numberCusps_9 : decode cX3_numberCusps 9 = .ok (.istore_n 1, 1) := by decide +kernel
theorem dX3_numberCusps_10 : decode cX3_numberCusps 10 = .ok (.iconst 0, 1) := by decide +kernel
theorem dX3_numberCusps_11 : decode cX3_numberCusps 11 = .ok (.istore_n 2, 1) := by decide +kernel
theorem dX3_numberCusps_12 : decode cX3_numberCusps 12 = .ok (.iload_n 2, 1) := by decide +kernel
theorem dX3_numberCusps_13 : decode cX3_numberCusps 13 = .ok (.aload_n 0, 1) := by decide +kernel
theorem dX3_numberCusps_14 : decode cX3_numberCusps 14 = .ok (.getfield 23, 3) := by decide +kernel
theorem dX3_numberCusps_17 : decode cX3_numberCusps 17 = .ok (.if_icmp .ge 66, 3) := by decide +kernel
theorem dX3_numberCusps_20 : decode cX3_numberCusps 20 = .ok (.aload_n 0, 1) := by decide +kernel
theorem dX3_numberCusps_21 : decode cX3_numberCusps 21 = .ok (.getfield 47, 3) := by decide +kernel
theorem dX3_numberCusps_24 : decode cX3_numberCusps 24 = .ok (.iload_n 2, 1) := by decide +kernel
theorem dX3_numberCusps_25 : decode cX3_numberCusps 25 = .ok (.iaload, 1) := by decide +kernel
theorem dX3_numberCusps_26 : decode cX3_numberCusps 26 = .ok (.iconst (-1), 1) := by decide +kernel
theorem dX3_numberCusps_27 : decode cX3_numberCusps 27 = .ok (.if_icmp .ne 50, 3) := by decide +kernel
theorem dX3_numberCusps_30 : decode cX3_numberCusps 30 = .ok (.iload_n 2, 1) := by decide +kernel
theorem dX3_numberCusps_31 : decode cX3_numberCusps 31 = .ok (.istore_n 3, 1) := by decide +kernel
theorem dX3_numberCusps_32 : decode cX3_numberCusps 32 = .ok (.iconst 0, 1) := by decide +kernel
theorem dX3_numberCusps_33 : decode cX3_numberCusps 33 = .ok (.istore 4, 2) := by decide +kernel
theorem dX3_numberCusps_35 : decode cX3_numberCusps 35 = .ok (.iload 4, 2) := by decide +kernel
theorem dX3_numberCusps_37 : decode cX3_numberCusps 37 = .ok (.aload_n 0, 1) := by decide +kernel
theorem dX3_numberCusps_38 : decode cX3_numberCusps 38 = .ok (.getfield 23, 3) := by decide +kernel
theorem dX3_numberCusps_41 : decode cX3_numberCusps 41 = .ok (.if_icmp .ge 33, 3) := by decide +kernel
theorem dX3_numberCusps_44 : decode cX3_numberCusps 44 = .ok (.aload_n 0, 1) := by decide +kernel
theorem dX3_numberCusps_45 : decode cX3_numberCusps 45 = .ok (.getfield 47, 3) := by decide +kernel
theorem dX3_numberCusps_48 : decode cX3_numberCusps 48 = .ok (.iload_n 3, 1) := by decide +kernel
theorem dX3_numberCusps_49 : decode cX3_numberCusps 49 = .ok (.iaload, 1) := by decide +kernel
theorem dX3_numberCusps_50 : decode cX3_numberCusps 50 = .ok (.iconst (-1), 1) := by decide +kernel
theorem dX3_numberCusps_51 : decode cX3_numberCusps 51 = .ok (.if_icmp .ne 23, 3) := by decide +kernel
theorem dX3_numberCusps_54 : decode cX3_numberCusps 54 = .ok (.aload_n 0, 1) := by decide +kernel
theorem dX3_numberCusps_55 : decode cX3_numberCusps 55 = .ok (.getfield 47, 3) := by decide +kernel
theorem dX3_numberCusps_58 : decode cX3_numberCusps 58 = .ok (.iload_n 3, 1) := by decide +kernel
theorem dX3_numberCusps_59 : decode cX3_numberCusps 59 = .ok (.iload_n 1, 1) := by decide +kernel
theorem dX3_numberCusps_60 : decode cX3_numberCusps 60 = .ok (.iastore, 1) := by decide +kernel
theorem dX3_numberCusps_61 : decode cX3_numberCusps 61 = .ok (.aload_n 0, 1) := by decide +kernel
theorem dX3_numberCusps_62 : decode cX3_numberCusps 62 = .ok (.getfield 38, 3) := by decide +kernel
theorem dX3_numberCusps_65 : decode cX3_numberCusps 65 = .ok (.iload_n 3, 1) := by decide +kernel
theorem dX3_numberCusps_66 : decode cX3_numberCusps 66 = .ok (.iaload, 1) := by decide +kernel
theorem dX3_numberCusps_67 : decode cX3_numberCusps 67 = .ok (.istore_n 3, 1) := by decide +kernel
theorem dX3_numberCusps_68 : decode cX3_numberCusps 68 = .ok (.iinc 4 1, 3) := by decide +kernel
theorem dX3_numberCusps_71 : decode cX3_numberCusps 71 = .ok (.goto (-36), 3) := by decide +kernel
theorem dX3_numberCusps_74 : decode cX3_numberCusps 74 = .ok (.iinc 1 1, 3) := by decide +kernel
theorem dX3_numberCusps_77 : decode cX3_numberCusps 77 = .ok (.iinc 2 1, 3) := by decide +kernel
theorem dX3_numberCusps_80 : decode cX3_numberCusps 80 = .ok (.goto (-68), 3) := by decide +kernel
theorem dX3_numberCusps_83 : decode cX3_numberCusps 83 = .ok (.iload_n 1, 1) := by decide +kernel
theorem dX3_numberCusps_84 : decode cX3_numberCusps 84 = .ok (.ireturn, 1) := by decide +kernel
theorem kcX3_numberCusps : Cond.code yX3_numberCusps cX3_numberCusps 5 (some .int) ∈ tb := tq q_58 rfl
theorem knX3_numberCusps : Cond.initialized yX3_numberCusps.cls ∈ tb := (tq q_2 rfl)
theorem kdX3_numberCusps : yX3_numberCusps.cls ≠ "java/lang/invoke/MethodHandle" ∧ yX3_numberCusps.cls ≠ "java/lang/invoke/VarHandle" ∧ (parseMethodDescriptor yX3_numberCusps.desc).map (fun d => d.parameters.length) = some 0 := ⟨by decide +kernel, by decide +kernel, by decide +kernel⟩
theorem kiX3_numberCusps : Cond.instanceMethod yX3_numberCusps ∈ tb := (tq q_57 rfl)
theorem ksX3_numberCusps : Cond.selects yX3_numberCusps.cls yX3_numberCusps yX3_numberCusps ∈ tb := (tq z_4 rfl)
theorem tgX3_numberCusps {x0 : Nat} {h : PH} {r : Int32 × PH} (hf : (fX3_numberCusps x0).1 h = some r) : ∃ n x, nth h x0 = some (3, n, x) := by
  obtain ⟨_, _, e, _⟩ := pb_some hf
  exact (chk_some e).2
set_option maxHeartbeats 4000000 in
set_option maxRecDepth 100000 in
theorem wX3_numberCusps_B35 {p : Program} {l : Launch} {e : Env} {s : State} {m : MethodId} {args : Array Value} {below : List Frame} {meth : Method} {c : Code} {G : GG} {ρ : Nat → Nat} {h0 hE hB : PH} {Q : State → Prop} {x0 : Nat} {x1 : Int32} {x2 : Int32} (C : Cx G "PairSymbols$Level" cX3_numberCusps 5 (some .int) "numberCusps" p s m args meth c) {x3 : Int32} {x4 : Int32} {h : PH} {H : Heap} {locs : List Loc} {cells slots : Nat} {ls : Array Slot} {r : (Int32 × Int32) ⊕ (Unit)} (hf : (fX3_numberCusps_b35 x0 x1 x2 x3 x4).1 h = some (r, hB)) (hX : Ext hB hE) (hW : Wd G ρ h0.length (sl h0) s.heap h H locs cells slots) (hl : lv_has ls 5 [(0, .ref (ρ x0)), (1, .int x1), (2, .int x2), (3, .int x3), (4, .int x4)]) (kc : ∀ y : Int32 × Int32, r = .inl y → ∀ (H : Heap) (locs : List Loc) (c1 s1 : Nat) (ls : Array Slot), Wd G ρ h0.length (sl h0) s.heap hB H locs c1 s1 → lv_has ls 5 [(0, .ref (ρ x0)), (1, .int x1), (2, .int x2), (3, .int y.1), (4, .int y.2)] → W p l e (RM 1 23 h0 hE) s m args below meth c H locs c1 s1 Q (F0 m 35 ls [])) (ke : ∀ z : Unit, r = .inr z → ∀ (H : Heap) (locs : List Loc) (c1 s1 : Nat) (ls : Array Slot), Wd G ρ h0.length (sl h0) s.heap hB H locs c1 s1 → lv_has ls 5 [(0, .ref (ρ x0)), (1, .int x1), (2, .int x2)] → W p l e (RM 1 23 h0 hE) s m args below meth c H locs c1 s1 Q (F0 m 74 ls [])) : W p l e (RM 1 23 h0 hE) s m args below meth c H locs cells slots Q (F0 m 35 ls []) := by
  have hx := C.1
  have hb := C.2.1
  unfold fX3_numberCusps_b35 at hf
  refine lv_iload hx hb dX3_numberCusps_35 (lv_at hl 4 rfl) ?_
  refine lv_aload_n hx hb dX3_numberCusps_37 rfl (lv_at hl 0 rfl) ?_
  obtain ⟨v8, e8, hf⟩ := pb_rd (rd_gI _ _ _) hf
  refine r_gI C hW e8 flX3_23 rfl dX3_numberCusps_38 ?_
  refine lv_icmp_ge (tgt := 74) hx hb dX3_numberCusps_41 (by decide) (fun c9 => ?_) (fun c9 => ?_)
  · rw [if_pos c9] at hf
    obtain ⟨rfl, rfl⟩ := pp_some hf
    exact ke _ rfl _ _ _ _ _ hW (lv_sub hl [0, 1, 2] rfl)
  · rw [if_neg c9] at hf
    refine lv_aload_n hx hb dX3_numberCusps_44 rfl (lv_at hl 0 rfl) ?_
    obtain ⟨v10, e10, hf⟩ := pb_rd (rd_gA _ _ _) hf
    refine r_gA C hW e10 flX3_47 rfl dX3_numberCusps_45 ?_
    refine lv_iload_n hx hb dX3_numberCusps_48 rfl (lv_at hl 3 rfl) ?_
    obtain ⟨v11, e11, hf⟩ := pb_rd (rd_lI _ _ _) hf
    refine r_iald C hW e11 dX3_numberCusps_49 ?_
    refine lv_iconst (v := -1) hx hb dX3_numberCusps_50 (by decide) ?_
    refine lv_icmp_ne (tgt := 74) hx hb dX3_numberCusps_51 (by decide) (fun c12 => ?_) (fun c12 => ?_)
    · rw [if_neg c12] at hf
      obtain ⟨rfl, rfl⟩ := pp_some hf
      exact ke _ rfl _ _ _ _ _ hW (lv_sub hl [0, 1, 2] rfl)
    · rw [if_pos c12] at hf
      refine lv_aload_n hx hb dX3_numberCusps_54 rfl (lv_at hl 0 rfl) ?_
      obtain ⟨v13, e13, hf⟩ := pb_rd (rd_gA _ _ _) hf
      refine r_gA C hW e13 flX3_47 rfl dX3_numberCusps_55 ?_
      refine lv_iload_n hx hb dX3_numberCusps_58 rfl (lv_at hl 3 rfl) ?_
      refine lv_iload_n hx hb dX3_numberCusps_59 rfl (lv_at hl 1 rfl) ?_
      obtain ⟨_, h14, e14, hf⟩ := pb_some hf
      refine r_iast C hW e14 dX3_numberCusps_60 (fun H locs hW => ?_)
      refine lv_aload_n hx hb dX3_numberCusps_61 rfl (lv_at hl 0 rfl) ?_
      obtain ⟨v15, e15, hf⟩ := pb_rd (rd_gA _ _ _) hf
      refine r_gA C hW e15 flX3_38 rfl dX3_numberCusps_62 ?_
      refine lv_iload_n hx hb dX3_numberCusps_65 rfl (lv_at hl 3 rfl) ?_
      obtain ⟨v16, e16, hf⟩ := pb_rd (rd_lI _ _ _) hf
      refine r_iald C hW e16 dX3_numberCusps_66 ?_
      refine lv_istore_n (lv' := [(3, .int v16), (0, .ref (ρ x0)), (1, .int x1), (2, .int x2), (4, .int x4)]) hx hb dX3_numberCusps_67 rfl hl (by decide) rfl (fun ls hl => ?_)
      refine lv_iinc (v := (x4 + 1)) (lv' := [(4, .int (x4 + 1)), (3, .int v16), (0, .ref (ρ x0)), (1, .int x1), (2, .int x2)]) hx hb dX3_numberCusps_68 hl (k := 4) rfl rfl (by decide) rfl (fun ls hl => ?_)
      refine lv_goto (tgt := 35) hx hb dX3_numberCusps_71 (by decide) ?_
      obtain ⟨rfl, rfl⟩ := pp_some hf
      exact kc _ rfl _ _ _ _ _ hW (lv_sub hl [2, 3, 4, 1, 0] rfl)
set_option maxHeartbeats 4000000 in
theorem wX3_numberCusps_L35 {p : Program} {l : Launch} {e : Env} {s : State} {m : MethodId} {args : Array Value} {below : List Frame} {meth : Method} {c : Code} {G : GG} {ρ : Nat → Nat} {h0 hE hB : PH} {Q : State → Prop} {x0 : Nat} {x1 : Int32} {x2 : Int32} (C : Cx G "PairSymbols$Level" cX3_numberCusps 5 (some .int) "numberCusps" p s m args meth c) {z : (Unit)} (n : Nat) : ∀ (x : Int32 × Int32) {h : PH} {H : Heap} {locs : List Loc} {cells slots : Nat} {ls : Array Slot}, (plo (fX3_numberCusps_B35 x0 x1 x2) n x).1 h = some (z, hB) → Ext hB hE → Wd G ρ h0.length (sl h0) s.heap h H locs cells slots → lv_has ls 5 [(0, .ref (ρ x0)), (1, .int x1), (2, .int x2), (3, .int x.1), (4, .int x.2)] → (ke : ∀ (H : Heap) (locs : List Loc) (c1 s1 : Nat) (ls : Array Slot), Wd G ρ h0.length (sl h0) s.heap hB H locs c1 s1 → lv_has ls 5 [(0, .ref (ρ x0)), (1, .int x1), (2, .int x2)] → W p l e (RM 1 23 h0 hE) s m args below meth c H locs c1 s1 Q (F0 m 74 ls [])) → W p l e (RM 1 23 h0 hE) s m args below meth c H locs cells slots Q (F0 m 35 ls []) := by
  induction n with
  | zero =>
    intro x h H locs cells slots ls hf
    rw [plo_0] at hf
    exact (pf_no hf).elim
  | succ n ih =>
    intro x h H locs cells slots ls hf hX hW hl ke
    rw [plo_s] at hf
    obtain ⟨r, h1, e1, hf⟩ := pb_some hf
    unfold fX3_numberCusps_B35 at e1
    rw [frI_eq, frI_eq] at e1
    refine wX3_numberCusps_B35 C e1 ((pext hf).tr hX) hW hl (fun y hr H locs c1 s1 ls hW hl => ?_) (fun y hr H locs c1 s1 ls hW hl => ?_)
    · subst hr
      exact ih y hf hX hW hl ke
    · subst hr
      obtain ⟨rfl, rfl⟩ := pp_some hf
      exact ke H locs c1 s1 ls hW hl
set_option maxHeartbeats 4000000 in
set_option maxRecDepth 100000 in
theorem wX3_numberCusps_B12 {p : Program} {l : Launch} {e : Env} {s : State} {m : MethodId} {args : Array Value} {below : List Frame} {meth : Method} {c : Code} {G : GG} {ρ : Nat → Nat} {h0 hE hB : PH} {Q : State → Prop} {x0 : Nat} (C : Cx G "PairSymbols$Level" cX3_numberCusps 5 (some .int) "numberCusps" p s m args meth c) {x1 : Int32} {x2 : Int32} {h : PH} {H : Heap} {locs : List Loc} {cells slots : Nat} {ls : Array Slot} {r : (Int32 × Int32) ⊕ (Int32)} (hf : (fX3_numberCusps_b12 x0 x1 x2).1 h = some (r, hB)) (hX : Ext hB hE) (hW : Wd G ρ h0.length (sl h0) s.heap h H locs cells slots) (hl : lv_has ls 5 [(0, .ref (ρ x0)), (1, .int x1), (2, .int x2)]) (kc : ∀ y : Int32 × Int32, r = .inl y → ∀ (H : Heap) (locs : List Loc) (c1 s1 : Nat) (ls : Array Slot), Wd G ρ h0.length (sl h0) s.heap hB H locs c1 s1 → lv_has ls 5 [(0, .ref (ρ x0)), (1, .int y.1), (2, .int y.2)] → W p l e (RM 1 23 h0 hE) s m args below meth c H locs c1 s1 Q (F0 m 12 ls [])) (ke : ∀ z : Int32, r = .inr z → ∀ (H : Heap) (locs : List Loc) (c1 s1 : Nat) (ls : Array Slot), Wd G ρ h0.length (sl h0) s.heap hB H locs c1 s1 → lv_has ls 5 [(1, .int z)] → W p l e (RM 1 23 h0 hE) s m args below meth c H locs c1 s1 Q (F0 m 83 ls [])) : W p l e (RM 1 23 h0 hE) s m args below meth c H locs cells slots Q (F0 m 12 ls []) := by
  have hx := C.1
  have hb := C.2.1
  unfold fX3_numberCusps_b12 at hf
  refine lv_iload_n hx hb dX3_numberCusps_12 rfl (lv_at hl 2 rfl) ?_
  refine lv_aload_n hx hb dX3_numberCusps_13 rfl (lv_at hl 0 rfl) ?_
  obtain ⟨v3, e3, hf⟩ := pb_rd (rd_gI _ _ _) hf
  refine r_gI C hW e3 flX3_23 rfl dX3_numberCusps_14 ?_
  refine lv_icmp_ge (tgt := 83) hx hb dX3_numberCusps_17 (by decide) (fun c4 => ?_) (fun c4 => ?_)
  · rw [if_pos c4] at hf
    obtain ⟨rfl, rfl⟩ := pp_some hf
    exact ke _ rfl _ _ _ _ _ hW (lv_sub hl [1] rfl)
  · rw [if_neg c4] at hf
    refine lv_aload_n hx hb dX3_numberCusps_20 rfl (lv_at hl 0 rfl) ?_
    obtain ⟨v5, e5, hf⟩ := pb_rd (rd_gA _ _ _) hf
    refine r_gA C hW e5 flX3_47 rfl dX3_numberCusps_21 ?_
    refine lv_iload_n hx hb dX3_numberCusps_24 rfl (lv_at hl 2 rfl) ?_
    obtain ⟨v6, e6, hf⟩ := pb_rd (rd_lI _ _ _) hf
    refine r_iald C hW e6 dX3_numberCusps_25 ?_
    refine lv_iconst (v := -1) hx hb dX3_numberCusps_26 (by decide) ?_
    refine lv_icmp_ne (tgt := 77) hx hb dX3_numberCusps_27 (by decide) (fun c7 => ?_) (fun c7 => ?_)
    · rw [if_neg c7] at hf
      refine lv_iinc (v := (x2 + 1)) (lv' := [(2, .int (x2 + 1)), (0, .ref (ρ x0)), (1, .int x1)]) hx hb dX3_numberCusps_77 hl (k := 2) rfl rfl (by decide) rfl (fun ls hl => ?_)
      refine lv_goto (tgt := 12) hx hb dX3_numberCusps_80 (by decide) ?_
      obtain ⟨rfl, rfl⟩ := pp_some hf
      exact kc _ rfl _ _ _ _ _ hW (lv_sub hl [1, 2, 0] rfl)
    · rw [if_pos c7] at hf
      refine lv_iload_n hx hb dX3_numberCusps_30 rfl (lv_at hl 2 rfl) ?_
      refine lv_istore_n (lv' := [(3, .int x2), (0, .ref (ρ x0)), (1, .int x1), (2, .int x2)]) hx hb dX3_numberCusps_31 rfl hl (by decide) rfl (fun ls hl => ?_)
      refine lv_iconst (v := 0) hx hb dX3_numberCusps_32 (by decide) ?_
      refine lv_istore (lv' := [(4, .int (0 : Int32)), (3, .int x2), (0, .ref (ρ x0)), (1, .int x1), (2, .int x2)]) hx hb dX3_numberCusps_33 hl (by decide) rfl (fun ls hl => ?_)
      obtain ⟨z17, h17, e17, hf⟩ := pb_some hf
      refine wX3_numberCusps_L35 C fu _ e17 ((pext hf).tr hX) hW (lv_sub hl [2, 3, 4, 1, 0] rfl) (fun H locs c1 s1 ls hW hl => ?_)
      refine lv_iinc (v := (x1 + 1)) (lv' := [(1, .int (x1 + 1)), (0, .ref (ρ x0)), (2, .int x2)]) hx hb dX3_numberCusps_74 hl (k := 1) rfl rfl (by decide) rfl (fun ls hl => ?_)
      refine lv_iinc (v := (x2 + 1)) (lv' := [(2, .int (x2 + 1)), (1, .int (x1 + 1)), (0, .ref (ρ x0))]) hx hb dX3_numberCusps_77 hl (k := 2) rfl rfl (by decide) rfl (fun ls hl => ?_)
      refine lv_goto (tgt := 12) hx hb dX3_numberCusps_80 (by decide) ?_
      obtain ⟨rfl, rfl⟩ := pp_some hf
      exact kc _ rfl _ _ _ _ _ hW (lv_sub hl [2, 1, 0] rfl)
set_option maxHeartbeats 4000000 in
theorem wX3_numberCusps_L12 {p : Program} {l : Launch} {e : Env} {s : State} {m : MethodId} {args : Array Value} {below : List Frame} {meth : Method} {c : Code} {G : GG} {ρ : Nat → Nat} {h0 hE hB : PH} {Q : State → Prop} {x0 : Nat} (C : Cx G "PairSymbols$Level" cX3_numberCusps 5 (some .int) "numberCusps" p s m args meth c) {z : (Int32)} (n : Nat) : ∀ (x : Int32 × Int32) {h : PH} {H : Heap} {locs : List Loc} {cells slots : Nat} {ls : Array Slot}, (plo (fX3_numberCusps_B12 x0) n x).1 h = some (z, hB) → Ext hB hE → Wd G ρ h0.length (sl h0) s.heap h H locs cells slots → lv_has ls 5 [(0, .ref (ρ x0)), (1, .int x.1), (2, .int x.2)] → (ke : ∀ (H : Heap) (locs : List Loc) (c1 s1 : Nat) (ls : Array Slot), Wd G ρ h0.length (sl h0) s.heap hB H locs c1 s1 → lv_has ls 5 [(1, .int z)] → W p l e (RM 1 23 h0 hE) s m args below meth c H locs c1 s1 Q (F0 m 83 ls [])) → W p l e (RM 1 23 h0 hE) s m args below meth c H locs cells slots Q (F0 m 12 ls []) := by
  induction n with
  | zero =>
    intro x h H locs cells slots ls hf
    rw [plo_0] at hf
    exact (pf_no hf).elim
  | succ n ih =>
    intro x h H locs cells slots ls hf hX hW hl ke
    rw [plo_s] at hf
    obtain ⟨r, h1, e1, hf⟩ := pb_some hf
    unfold fX3_numberCusps_B12 at e1
    rw [frI_eq, frI_eq] at e1
    refine wX3_numberCusps_B12 C e1 ((pext hf).tr hX) hW hl (fun y hr H locs c1 s1 ls hW hl => ?_) (fun y hr H locs c1 s1 ls hW hl => ?_)
    · subst hr
      exact ih y hf hX hW hl ke
    · subst hr
      obtain ⟨rfl, rfl⟩ := pp_some hf
      exact ke H locs c1 s1 ls hW hl
set_option maxHeartbeats 4000000 in
set_option maxRecDepth 100000 in
theorem metX3_numberCusps (l : Launch) (G : GG) (ρ : Nat → Nat) {z : Nat} {x0 : Nat} {h hE : PH} {v : Int32} (hf : (fX3_numberCusps x0).1 h = some (v, hE)) : Met l yX3_numberCusps (wsY yX3_numberCusps cX3_numberCusps 5 (some .int)) (RM 1 23 h hE) (va_Pc [.ref (ρ x0)] (PcB G ρ h z)) (QI G ρ v hE h.length z) (DC h hE) (DS h hE) (Af ρ h.length z) := by
  refine met_start (by decide) (Nat.le_of_ble_eq_true rfl) ?_
  intro p e s m below meth c ls hz C hW hl
  subst hz
  have C : Cx G "PairSymbols$Level" cX3_numberCusps 5 (some .int) "numberCusps" p s m _ meth c := C
  have hx := C.1
  have hb := C.2.1
  have hX : Ext hE hE := Ext.rf hE
  have hl : lv_has ls 5 [(0, .ref (ρ x0))] := hl
  have hW : Wd G ρ h.length (sl h) s.heap h s.heap [] 0 0 := hW
  unfold fX3_numberCusps at hf
  obtain ⟨_, e0, hf⟩ := pb_rd (rd_chk _ _) hf
  refine lv_aload_n hx hb dX3_numberCusps_0 rfl (lv_at hl 0 rfl) ?_
  obtain ⟨v1, e1, hf⟩ := pb_rd (rd_gA _ _ _) hf
  refine r_gA C hW e1 flX3_47 rfl dX3_numberCusps_1 ?_
  refine lv_iconst (v := -1) hx hb dX3_numberCusps_4 (by decide) ?_
  obtain ⟨_, h2, e2, hf⟩ := pb_some hf
  refine r_callv hW (pext e2) (run_S (As := [.ref (ρ v1), .int (-1 : Int32)]) (rest := []) C hW (metJ7_fill_53178 l G ρ e2) ⟨rfl, rfl⟩ kcJ7_fill_53178 (tq q_33 rfl) kiJ7_fill_53178 knJ7_fill_53178 kdJ7_fill_53178 ⟨Nat.le_of_ble_eq_true rfl, Nat.le_of_ble_eq_true rfl⟩ hl.1 (Nat.le_of_ble_eq_true rfl) (room_of hW (pext e2) ((pext hf).tr hX)) dX3_numberCusps_5 rfl) (fun H locs c1 s1 hW => ?_)
  refine lv_iconst (v := 0) hx hb dX3_numberCusps_8 (by decide) ?_
  refine lv_istore_n (lv' := [(1, .int (0 : Int32)), (0, .ref (ρ x0))]) hx hb dX3_numberCusps_9 rfl hl (by decide) rfl (fun ls hl => ?_)
  refine lv_iconst (v := 0) hx hb dX3_numberCusps_10 (by decide) ?_
  refine lv_istore_n (lv' := [(2, .int (0 : Int32)), (1, .int (0 : Int32)), (0, .ref (ρ x0))]) hx hb dX3_numberCusps_11 rfl hl (by decide) rfl (fun ls hl => ?_)
  obtain ⟨z18, h18, e18, hf⟩ := pb_some hf
  refine wX3_numberCusps_L12 C fu _ e18 ((pext hf).tr hX) hW (lv_sub hl [2, 1, 0] rfl) (fun H locs c1 s1 ls hW hl => ?_)
  refine lv_iload_n hx hb dX3_numberCusps_83 rfl (lv_at hl 0 rfl) ?_
  obtain ⟨rfl, rfl⟩ := pp_some hf
  exact r_iret C hW dX3_numberCusps_84

theorem dX6_init_0 : decode cX6_init 0 = .ok (.aload_n 0, 1) := by decide +kernel
theorem dX6_init_1 : decode cX6_init 1 = .ok (.invokespecial 1, 3) := by decide +kernel
theorem dX6_init_4 : decode cX6_init 4 = .ok (.aload_n 0, 1) := by decide +kernel
theorem dX6_init_5 : decode cX6_init 5 = .ok (.iload_n 1, 1) := by decide +kernel
theorem dX6_init_6 : decode cX6_init 6 = .ok (.putfield 7, 3) := by decide +kernel
theorem dX6_init_9 : decode cX6_init 9 = .ok (.aload_n 0, 1) := by decide +kernel
theorem dX6_init_10 : decode cX6_init 10 = .ok (.iload_n 1, 1) := by decide +kernel
theorem dX6_init_11 : decode cX6_init 11 = .ok (.newarray .boolean, 2) := by decide +kernel
theorem dX6_init_13 : decode cX6_init 13 = .ok (.putfield 13, 3) := by decide +kernel
theorem dX6_init_16 : decode cX6_init 16 = .ok (.aload_n 0, 1) := by decide +kernel
theorem dX6_init_17 : decode cX6_init 17 = .ok (.iload_n 1, 1) := by decide +kernel
theorem dX6_init_18 : decode cX6_init 18 = .ok (.iload_n 1, 1) := by decide +kernel
theorem dX6_init_19 : decode cX6_init 19 = .ok (.multianewarray 17 2, 4) := by decide +kernel
theorem dX6_init_23 : decode cX6_init 23 = .ok (.putfield 19, 3) := by decide +kernel
theorem dX6_init_26 : decode cX6_init 26 = .ok (.return_, 1) := by decide +kernel
theorem kcX6_init : Cond.code yX6_init cX6_init 2 none ∈ tb := tq q_63 rfl
theorem knX6_init : Cond.initialized yX6_init.cls ∈ tb := (tq q_4 rfl)
theorem kdX6_init : yX6_init.cls ≠ "java/lang/invoke/MethodHandle" ∧ yX6_init.cls ≠ "java/lang/invoke/VarHandle" ∧ (parseMethodDescriptor yX6_init.desc).map (fun d => d.parameters.length) = some 1 := ⟨by decide +kernel, by decide +kernel, by decide +kernel⟩
theorem kiX6_init : Cond.instanceMethod yX6_init ∈ tb := (tq q_62 rfl)
theorem tgX6_init {x0 : Nat} {x1 : Int32} {h : PH} {r : Unit × PH} (hf : (fX6_init x0 x1).1 h = some r) : ∃ n x, nth h x0 = some (5, n, x) := by
  obtain ⟨_, _, e, _⟩ := pb_some hf
  exact (chk_some e).2
set_option maxHeartbeats 4000000 in
set_option maxRecDepth 100000 in
theorem metX6_init (l : Launch) (G : GG) (ρ : Nat → Nat) {z : Nat} {x0 : Nat} {x1 : Int32} {h hE : PH} {v : Unit} (hf : (fX6_init x0 x1).1 h = some (v, hE)) : Met l yX6_init (wsY yX6_init cX6_init 2 none) (RM 1 20 h hE) (va_Pc [.ref (ρ x0), .int x1] (PcB G ρ h z)) (QV G ρ hE h.length z) (DC h hE) (DS h hE) (Af ρ h.length z) := by
  refine met_start (by decide) (Nat.le_of_ble_eq_true rfl) ?_
  intro p e s m below meth c ls hz C hW hl
  subst hz
  have C : Cx G "PairSymbols$Relations" cX6_init 2 none "<init>" p s m _ meth c := C
  have hx := C.1
  have hb := C.2.1
  have hX : Ext hE hE := Ext.rf hE
  have hl : lv_has ls 2 [(0, .ref (ρ x0)), (1, .int x1)] := hl
  have hW : Wd G ρ h.length (sl h) s.heap h s.heap [] 0 0 := hW
  unfold fX6_init at hf
  obtain ⟨_, e0, hf⟩ := pb_rd (rd_chk _ _) hf
  refine lv_aload_n hx hb dX6_init_0 rfl (lv_at hl 0 rfl) ?_
  refine r_obj C (tq q_64 rfl) hl.1 (Nat.le_of_ble_eq_true rfl) (Nat.le_of_ble_eq_true rfl) (Nat.le_of_ble_eq_true rfl) (tq q_21 rfl) (tq q_22 rfl) dX6_init_1 ?_
  refine lv_aload_n hx hb dX6_init_4 rfl (lv_at hl 0 rfl) ?_
  refine lv_iload_n hx hb dX6_init_5 rfl (lv_at hl 1 rfl) ?_
  obtain ⟨_, h1, e1, hf⟩ := pb_some hf
  refine r_sI C hW e1 flX6_7 (Or.inr ⟨rfl, _, rfl, rfl⟩) rfl dX6_init_6 (fun H locs hW => ?_)
  refine lv_aload_n hx hb dX6_init_9 rfl (lv_at hl 0 rfl) ?_
  refine lv_iload_n hx hb dX6_init_10 rfl (lv_at hl 1 rfl) ?_
  obtain ⟨v2, h2, e2, hf⟩ := pb_some hf
  refine r_newa (t0 := 3) C hW .boolean e2 (by decide) rfl rfl (fun _ => rfl) (by decide) (fun q => q) (tq q_81 rfl) (room_of hW (pext e2) ((pext hf).tr hX)) dX6_init_11 (fun H c1 s1 hW => ?_)
  obtain ⟨_, h3, e3, hf⟩ := pb_some hf
  refine r_sA C hW e3 flX6_13 (Or.inr ⟨rfl, _, rfl, rfl⟩) rfl dX6_init_13 (fun H locs hW => ?_)
  refine lv_aload_n hx hb dX6_init_16 rfl (lv_at hl 0 rfl) ?_
  refine lv_iload_n hx hb dX6_init_17 rfl (lv_at hl 1 rfl) ?_
  refine lv_iload_n hx hb dX6_init_18 rfl (lv_at hl 1 rfl) ?_
  obtain ⟨v4, h4, e4, hf⟩ := pb_some hf
  refine r_mnaI C hW e4 (tq q_65 rfl) (tq q_66 rfl) (tq q_80 rfl) (room_of hW (pext e4) ((pext hf).tr hX)) dX6_init_19 (fun H locs c1 s1 hW => ?_)
  obtain ⟨_, h5, e5, hf⟩ := pb_some hf
  refine r_sA C hW e5 flX6_19 (Or.inr ⟨rfl, _, rfl, rfl⟩) rfl dX6_init_23 (fun H locs hW => ?_)
  obtain ⟨rfl, rfl⟩ := pp_some hf
  exact r_vret C hW dX6_init_26

theorem dX6_bind_0 : decode cX6_bind 0 = .ok (.aload_n 2, 1) := by decide +kernel
theorem dX6_bind_1 : decode cX6_bind 1 = .ok (.iload_n 1, 1) := by decide +kernel
theorem dX6_bind_2 : decode cX6_bind 2 = .ok (.iaload, 1) := by decide +kernel
theorem dX6_bind_3 : decode cX6_bind 3 = .ok (.istore_n 3, 1) := by decide +kernel
theorem dX6_bind_4 : decode cX6_bind 4 = .ok (.iconst 0, 1) := by decide +kernel
theorem dX6_bind_5 : decode cX6_bind 5 = .ok (.istore 4, 2) := by decide +kernel
theorem dX6_bind_7 : decode cX6_bind 7 = .ok (.iload 4, 2) := by decide +kernel
theorem dX6_bind_9 : decode cX6_bind 9 = .ok (.iload_n 1, 1) := by decide +kernel
theorem dX6_bind_10 : decode cX6_bind 10 = .ok (.if_icmp .gt 24, 3) := by decide +kernel
theorem dX6_bind_13 : decode cX6_bind 13 = .ok (.aload_n 0, 1) := by decide +kernel
theorem dX6_bind_14 : decode cX6_bind 14 = .ok (.getfield 19, 3) := by decide +kernel
theorem dX6_bind_17 : decode cX6_bind 17 = .ok (.iload_n 1, 1) := by decide +kernel
theorem dX6_bind_18 : decode cX6_bind 18 = .ok (.aaload, 1) := by decide +kernel
theorem dX6_bind_19 : decode cX6_bind 19 = .ok (.iload 4, 2) := by decide +kernel
theorem dX6_bind_21 : decode cX6_bind 21 = .ok (.iload_n 3, 1) := by decide +kernel
theorem dX6_bind_22 : decode cX6_bind 22 = .ok (.aload_n 2, 1) := by decide +kernel
theorem dX6_bind_23 : decode cX6_bind 23 = .ok (.iload 4, 2) := by decide +kernel
theorem dX6_bind_25 : decode cX6_bind 25 = .ok (.iaload, 1) := by decide +kernel
theorem dX6_bind_26 : decode cX6_bind 26 = .ok (.imul, 1) := by decide +kernel
theorem dX6_bind_27 : decode cX6_bind 27 = .ok (.iastore, 1) := by decide +kernel
theorem dX6_bind_28 : decode cX6_bind 28 = .ok (.iinc 4 1, 3) := by decide +kernel
theorem dX6_bind_31 : decode cX6_bind 31 = .ok (.goto (-24), 3) := by decide +kernel
theorem dX6_bind_34 : decode cX6_bind 34 = .ok (.aload_n 0, 1) := by decide +kernel
theorem dX6_bind_35 : decode cX6_bind 35 = .ok (.getfield 13, 3) := by decide +kernel
theorem dX6_bind_38 : decode cX6_bind 38 = .ok (.iload_n 1, 1) := by decide +kernel
theorem dX6_bind_39 : decode cX6_bind 39 = .ok (.iconst 1, 1) := by decide +kernel
theorem dX6_bind_40 : decode cX6_bind 40 = .ok (.bastore, 1) := by decide +kernel
theorem dX6_bind_41 : decode cX6_bind 41 = .ok (.aload_n 0, 1) := by decide +kernel
theorem dX6_bind_42 : decode cX6_bind 42 = .ok (.dup, 1) := by decide +kernel
theorem dX6_bind_43 : decode cX6_bind 43 = .ok (.getfield 36, 3) := by decide +kernel
theorem dX6_bind_46 : decode cX6_bind 46 = .ok (.iconst 1, 1) := by decide +kernel
theorem dX6_bind_47 : decode cX6_bind 47 = .ok (.iadd, 1) := by decide +kernel
theorem dX6_bind_48 : decode cX6_bind 48 = .ok (.putfield 36, 3) := by decide +kernel
theorem dX6_bind_51 : decode cX6_bind 51 = .ok (.return_, 1) := by decide +kernel
theorem kcX6_bind : Cond.code yX6_bind cX6_bind 5 none ∈ tb := tq q_93 rfl
theorem knX6_bind : Cond.initialized yX6_bind.cls ∈ tb := (tq q_4 rfl)
theorem kdX6_bind : yX6_bind.cls ≠ "java/lang/invoke/MethodHandle" ∧ yX6_bind.cls ≠ "java/lang/invoke/VarHandle" ∧ (parseMethodDescriptor yX6_bind.desc).map (fun d => d.parameters.length) = some 2 := ⟨by decide +kernel, by decide +kernel, by decide +kernel⟩
theorem kiX6_bind : Cond.instanceMethod yX6_bind ∈ tb := (tq q_92 rfl)
theorem ksX6_bind : Cond.selects yX6_bind.cls yX6_bind yX6_bind ∈ tb := (tq z_6 rfl)
theorem tgX6_bind {x0 : Nat} {x1 : Int32} {x2 : Nat} {h : PH} {r : Unit × PH} (hf : (fX6_bind x0 x1 x2).1 h = some r) : ∃ n x, nth h x0 = some (5, n, x) := by
  obtain ⟨_, _, e, _⟩ := pb_some hf
  exact (chk_some e).2
set_option maxHeartbeats 4000000 in
set_option maxRecDepth 100000 in
theorem wX6_bind_B7 {p : Program} {l : Launch} {e : Env} {s : State} {m : MethodId} {args : Array Value} {below : List Frame} {meth : Method} {c : Code} {G : GG} {ρ : Nat → Nat} {h0 hE hB : PH} {Q : State → Prop} {x0 : Nat} {x1 : Int32} {x2 : Nat} {x3 : Int32} (C : Cx G "PairSymbols$Relations" cX6_bind 5 none "bind" p s m args meth c) {x4 : Int32} {h : PH} {H : Heap} {locs : List Loc} {cells slots : Nat} {ls : Array Slot} {r : (Int32) ⊕ (Unit)} (hf : (fX6_bind_b7 x0 x1 x2 x3 x4).1 h = some (r, hB)) (hX : Ext hB hE) (hW : Wd G ρ h0.length (sl h0) s.heap h H locs cells slots) (hl : lv_has ls 5 [(0, .ref (ρ x0)), (1, .int x1), (2, .ref (ρ x2)), (3, .int x3), (4, .int x4)]) (kc : ∀ y : Int32, r = .inl y → ∀ (H : Heap) (locs : List Loc) (c1 s1 : Nat) (ls : Array Slot), Wd G ρ h0.length (sl h0) s.heap hB H locs c1 s1 → lv_has ls 5 [(0, .ref (ρ x0)), (1, .int x1), (2, .ref (ρ x2)), (3, .int x3), (4, .int y)] → W p l e (RM 0 0 h0 hE) s m args below meth c H locs c1 s1 Q (F0 m 7 ls [])) (ke : ∀ z : Unit, r = .inr z → ∀ (H : Heap) (locs : List Loc) (c1 s1 : Nat) (ls : Array Slot), Wd G ρ h0.length (sl h0) s.heap hB H locs c1 s1 → lv_has ls 5 [(0, .ref (ρ x0)), (1, .int x1)] → W p l e (RM 0 0 h0 hE) s m args below meth c H locs c1 s1 Q (F0 m 34 ls [])) : W p l e (RM 0 0 h0 hE) s m args below meth c H locs cells slots Q (F0 m 7 ls []) := by
  have hx := C.1
  have hb := C.2.1
  unfold fX6_bind_b7 at hf
  refine lv_iload hx hb dX6_bind_7 (lv_at hl 4 rfl) ?_
  refine lv_iload_n hx hb dX6_bind_9 rfl (lv_at hl 1 rfl) ?_
  refine lv_icmp_gt (tgt := 34) hx hb dX6_bind_10 (by decide) (fun c2 => ?_) (fun c2 => ?_)
  · rw [if_pos c2] at hf
    obtain ⟨rfl, rfl⟩ := pp_some hf
    exact ke _ rfl _ _ _ _ _ hW (lv_sub hl [0, 1] rfl)
  · rw [if_neg c2] at hf
    refine lv_aload_n hx hb dX6_bind_13 rfl (lv_at hl 0 rfl) ?_
    obtain ⟨v3, e3, hf⟩ := pb_rd (rd_gA _ _ _) hf
    refine r_gA C hW e3 flX6_19 rfl dX6_bind_14 ?_
    refine lv_iload_n hx hb dX6_bind_17 rfl (lv_at hl 1 rfl) ?_
    obtain ⟨v4, e4, hf⟩ := pb_rd (rd_lA _ _ _) hf
    refine r_aald C hW e4 (by decide) (by decide) dX6_bind_18 ?_
    refine lv_iload hx hb dX6_bind_19 (lv_at hl 4 rfl) ?_
    refine lv_iload_n hx hb dX6_bind_21 rfl (lv_at hl 3 rfl) ?_
    refine lv_aload_n hx hb dX6_bind_22 rfl (lv_at hl 2 rfl) ?_
    refine lv_iload hx hb dX6_bind_23 (lv_at hl 4 rfl) ?_
    obtain ⟨v5, e5, hf⟩ := pb_rd (rd_lI _ _ _) hf
    refine r_iald C hW e5 dX6_bind_25 ?_
    refine lv_imul hx hb dX6_bind_26 ?_
    obtain ⟨_, h6, e6, hf⟩ := pb_some hf
    refine r_iast C hW e6 dX6_bind_27 (fun H locs hW => ?_)
    refine lv_iinc (v := (x4 + 1)) (lv' := [(4, .int (x4 + 1)), (0, .ref (ρ x0)), (1, .int x1), (2, .ref (ρ x2)), (3, .int x3)]) hx hb dX6_bind_28 hl (k := 4) rfl rfl (by decide) rfl (fun ls hl => ?_)
    refine lv_goto (tgt := 7) hx hb dX6_bind_31 (by decide) ?_
    obtain ⟨rfl, rfl⟩ := pp_some hf
    exact kc _ rfl _ _ _ _ _ hW (lv_sub hl [1, 2, 3, 4, 0] rfl)
set_option maxHeartbeats 4000000 in
theorem wX6_bind_L7 {p : Program} {l : Launch} {e : Env} {s : State} {m : MethodId} {args : Array Value} {below : List Frame} {meth : Method} {c : Code} {G : GG} {ρ : Nat → Nat} {h0 hE hB : PH} {Q : State → Prop} {x0 : Nat} {x1 : Int32} {x2 : Nat} {x3 : Int32} (C : Cx G "PairSymbols$Relations" cX6_bind 5 none "bind" p s m args meth c) {z : (Unit)} (n : Nat) : ∀ (x : Int32) {h : PH} {H : Heap} {locs : List Loc} {cells slots : Nat} {ls : Array Slot}, (plo (fX6_bind_B7 x0 x1 x2 x3) n x).1 h = some (z, hB) → Ext hB hE → Wd G ρ h0.length (sl h0) s.heap h H locs cells slots → lv_has ls 5 [(0, .ref (ρ x0)), (1, .int x1), (2, .ref (ρ x2)), (3, .int x3), (4, .int x)] → (ke : ∀ (H : Heap) (locs : List Loc) (c1 s1 : Nat) (ls : Array Slot), Wd G ρ h0.length (sl h0) s.heap hB H locs c1 s1 → lv_has ls 5 [(0, .ref (ρ x0)), (1, .int x1)] → W p l e (RM 0 0 h0 hE) s m args below meth c H locs c1 s1 Q (F0 m 34 ls [])) → W p l e (RM 0 0 h0 hE) s m args below meth c H locs cells slots Q (F0 m 7 ls []) := by
  induction n with
  | zero =>
    intro x h H locs cells slots ls hf
    rw [plo_0] at hf
    exact (pf_no hf).elim
  | succ n ih =>
    intro x h H locs cells slots ls hf hX hW hl ke
    rw [plo_s] at hf
    obtain ⟨r, h1, e1, hf⟩ := pb_some hf
    unfold fX6_bind_B7 at e1
    rw [frI_eq] at e1
    refine wX6_bind_B7 C e1 ((pext hf).tr hX) hW hl (fun y hr H locs c1 s1 ls hW hl => ?_) (fun y hr H locs c1 s1 ls hW hl => ?_)
    · subst hr
      exact ih y hf hX hW hl ke
    · subst hr
      obtain ⟨rfl, rfl⟩ := pp_some hf
      exact ke H locs c1 s1 ls hW hl
set_option maxHeartbeats 4000000 in
set_option maxRecDepth 100000 in
theorem metX6_bind (l : Launch) (G : GG) (ρ : Nat → Nat) {z : Nat} {x0 : Nat} {x1 : Int32} {x2 : Nat} {h hE : PH} {v : Unit} (hf : (fX6_bind x0 x1 x2).1 h = some (v, hE)) : Met l yX6_bind (wsY yX6_bind cX6_bind 5 none) (RM 0 0 h hE) (va_Pc [.ref (ρ x0), .int x1, .ref (ρ x2)] (PcB G ρ h z)) (QV G ρ hE h.length z) (DC h hE) (DS h hE) (Af ρ h.length z) := by
  refine met_start (by decide) (Nat.le_of_ble_eq_true rfl) ?_
  intro p e s m below meth c ls hz C hW hl
  subst hz
  have C : Cx G "PairSymbols$Relations" cX6_bind 5 none "bind" p s m _ meth c := C
  have hx := C.1
  have hb := C.2.1
  have hX : Ext hE hE := Ext.rf hE
  have hl : lv_has ls 5 [(0, .ref (ρ x0)), (1, .int x1), (2, .ref (ρ x2))] := hl
  have hW : Wd G ρ h.length (sl h) s.heap h s.heap [] 0 0 := hW
  unfold fX6_bind at hf
  obtain ⟨_, e0, hf⟩ := pb_rd (rd_chk _ _) hf
  refine lv_aload_n hx hb dX6_bind_0 rfl (lv_at hl 2 rfl) ?_
  refine lv_iload_n hx hb dX6_bind_1 rfl (lv_at hl 1 rfl) ?_
  obtain ⟨v1, e1, hf⟩ := pb_rd (rd_lI _ _ _) hf
  refine r_iald C hW e1 dX6_bind_2 ?_
  refine lv_istore_n (lv' := [(3, .int v1), (0, .ref (ρ x0)), (1, .int x1), (2, .ref (ρ x2))]) hx hb dX6_bind_3 rfl hl (by decide) rfl (fun ls hl => ?_)
  refine lv_iconst (v := 0) hx hb dX6_bind_4 (by decide) ?_
  refine lv_istore (lv' := [(4, .int (0 : Int32)), (3, .int v1), (0, .ref (ρ x0)), (1, .int x1), (2, .ref (ρ x2))]) hx hb dX6_bind_5 hl (by decide) rfl (fun ls hl => ?_)
  obtain ⟨z7, h7, e7, hf⟩ := pb_some hf
  refine wX6_bind_L7 C fu _ e7 ((pext hf).tr hX) hW (lv_sub hl [2, 3, 4, 1, 0] rfl) (fun H locs c1 s1 ls hW hl => ?_)
  refine lv_aload_n hx hb dX6_bind_34 rfl (lv_at hl 0 rfl) ?_
  obtain ⟨v8, e8, hf⟩ := pb_rd (rd_gA _ _ _) hf
  refine r_gA C hW e8 flX6_13 rfl dX6_bind_35 ?_
  refine lv_iload_n hx hb dX6_bind_38 rfl (lv_at hl 1 rfl) ?_
  refine lv_iconst (v := 1) hx hb dX6_bind_39 (by decide) ?_
  obtain ⟨_, h9, e9, hf⟩ := pb_some hf
  refine r_zast C hW e9 rfl dX6_bind_40 (fun H locs hW => ?_)
  refine lv_aload_n hx hb dX6_bind_41 rfl (lv_at hl 0 rfl) ?_
  refine lv_dup hx hb dX6_bind_42 rfl ?_
  obtain ⟨v10, e10, hf⟩ := pb_rd (rd_gI _ _ _) hf
  refine r_gI C hW e10 flX6_36 rfl dX6_bind_43 ?_
  refine lv_iconst (v := 1) hx hb dX6_bind_46 (by decide) ?_
  refine lv_iadd hx hb dX6_bind_47 ?_
  obtain ⟨_, h11, e11, hf⟩ := pb_some hf
  refine r_sI C hW e11 flX6_36 (Or.inl rfl) rfl dX6_bind_48 (fun H locs hW => ?_)
  obtain ⟨rfl, rfl⟩ := pp_some hf
  exact r_vret C hW dX6_bind_51

theorem dX6_subtract_0 : decode cX6_subtract 0 = .ok (.iconst 0, 1) := by decide +kernel
theorem dX6_subtract_1 : decode cX6_subtract 1 = .ok (.istore_n 3, 1) := by decide +kernel
theorem dX6_subtract_2 : decode cX6_subtract 2 = .ok (.iload_n 3, 1) := by decide +kernel
theorem dX6_subtract_3 : decode cX6_subtract 3 = .ok (.aload_n 2, 1) := by decide +kernel
theorem dX6_subtract_4 : decode cX6_subtract 4 = .ok (.arraylength, 1) := by decide +kernel
theorem dX6_subtract_5 : decode cX6_subtract 5 = .ok (.if_icmp .ge 20, 3) := by decide +kernel
theorem dX6_subtract_8 : decode cX6_subtract 8 = .ok (.aload_n 2, 1) := by decide +kernel
theorem dX6_subtract_9 : decode cX6_subtract 9 = .ok (.iload_n 3, 1) := by decide +kernel
theorem dX6_subtract_10 : decode cX6_subtract 10 = .ok (.dup2, 1) := by decide +kernel
theorem dX6_subtract_11 : decode cX6_subtract 11 = .ok (.iaload, 1) := by decide +kernel
theorem dX6_subtract_12 : decode cX6_subtract 12 = .ok (.iload_n 0, 1) := by decide +kernel
theorem dX6_subtract_13 : decode cX6_subtract 13 = .ok (.aload_n 1, 1) := by decide +kernel
theorem dX6_subtract_14 : decode cX6_subtract 14 = .ok (.iload_n 3, 1) := by decide +kernel
theorem dX6_subtract_15 : decode cX6_subtract 15 = .ok (.iaload, 1) := by decide +kernel
theorem dX6_subtract_16 : decode cX6_subtract 16 = .ok (.imul, 1) := by decide +kernel
theorem dX6_subtract_17 : decode cX6_subtract 17 = .ok (.isub, 1) := by decide +kernel
theorem dX6_subtract_18 : decode cX6_subtract 18 = .ok (.iastore, 1) := by decide +kernel
theorem dX6_subtract_19 : decode cX6_subtract 19 = .ok (.iinc 3 1, 3) := by decide +kernel
theorem dX6_subtract_22 : decode cX6_subtract 22 = .ok (.goto (-20), 3) := by decide +kernel
theorem dX6_subtract_25 : decode cX6_subtract 25 = .ok (.return_, 1) := by decide +kernel
theorem kcX6_subtract : Cond.code yX6_subtract cX6_subtract 4 none ∈ tb := tq q_96 rfl
theorem knX6_subtract : Cond.initialized yX6_subtract.cls ∈ tb := (tq q_4 rfl)
theorem kdX6_subtract : yX6_subtract.cls ≠ "java/lang/invoke/MethodHandle" ∧ yX6_subtract.cls ≠ "java/lang/invoke/VarHandle" ∧ (parseMethodDescriptor yX6_subtract.desc).map (fun d => d.parameters.length) = some 3 := ⟨by decide +kernel, by decide +kernel, by decide +kernel⟩
theorem kiX6_subtract : Cond.static yX6_subtract ∈ tb := (tq q_95 rfl)
set_option maxHeartbeats 4000000 in
set_option maxRecDepth 100000 in
theorem wX6_subtract_B2 {p : Program} {l : Launch} {e : Env} {s : State} {m : MethodId} {args : Array Value} {below : List Frame} {meth : Method} {c : Code} {G : GG} {ρ : Nat → Nat} {h0 hE hB : PH} {Q : State → Prop} {x0 : Int32} {x1 : Nat} {x2 : Nat} (C : Cx G "PairSymbols$Relations" cX6_subtract 4 none "subtract" p s m args meth c) {x3 : Int32} {h : PH} {H : Heap} {locs : List Loc} {cells slots : Nat} {ls : Array Slot} {r : (Int32) ⊕ (Unit)} (hf : (fX6_subtract_b2 x0 x1 x2 x3).1 h = some (r, hB)) (hX : Ext hB hE) (hW : Wd G ρ h0.length (sl h0) s.heap h H locs cells slots) (hl : lv_has ls 4 [(0, .int x0), (1, .ref (ρ x1)), (2, .ref (ρ x2)), (3, .int x3)]) (kc : ∀ y : Int32, r = .inl y → ∀ (H : Heap) (locs : List Loc) (c1 s1 : Nat) (ls : Array Slot), Wd G ρ h0.length (sl h0) s.heap hB H locs c1 s1 → lv_has ls 4 [(0, .int x0), (1, .ref (ρ x1)), (2, .ref (ρ x2)), (3, .int y)] → W p l e (RM 0 0 h0 hE) s m args below meth c H locs c1 s1 Q (F0 m 2 ls [])) (ke : ∀ z : Unit, r = .inr z → ∀ (H : Heap) (locs : List Loc) (c1 s1 : Nat) (ls : Array Slot), Wd G ρ h0.length (sl h0) s.heap hB H locs c1 s1 → lv_has ls 4 [] → W p l e (RM 0 0 h0 hE) s m args below meth c H locs c1 s1 Q (F0 m 25 ls [])) : W p l e (RM 0 0 h0 hE) s m args below meth c H locs cells slots Q (F0 m 2 ls []) := by
  have hx := C.1
  have hb := C.2.1
  unfold fX6_subtract_b2 at hf
  refine lv_iload_n hx hb dX6_subtract_2 rfl (lv_at hl 3 rfl) ?_
  refine lv_aload_n hx hb dX6_subtract_3 rfl (lv_at hl 2 rfl) ?_
  obtain ⟨v1, e1, hf⟩ := pb_rd (rd_aln _) hf
  refine r_alen C hW e1 dX6_subtract_4 ?_
  refine lv_icmp_ge (tgt := 25) hx hb dX6_subtract_5 (by decide) (fun c2 => ?_) (fun c2 => ?_)
  · rw [if_pos c2] at hf
    obtain ⟨rfl, rfl⟩ := pp_some hf
    exact ke _ rfl _ _ _ _ _ hW (lv_sub hl [] rfl)
  · rw [if_neg c2] at hf
    refine lv_aload_n hx hb dX6_subtract_8 rfl (lv_at hl 2 rfl) ?_
    refine lv_iload_n hx hb dX6_subtract_9 rfl (lv_at hl 3 rfl) ?_
    refine lv_dup2_11 hx hb dX6_subtract_10 rfl rfl ?_
    obtain ⟨v3, e3, hf⟩ := pb_rd (rd_lI _ _ _) hf
    refine r_iald C hW e3 dX6_subtract_11 ?_
    refine lv_iload_n hx hb dX6_subtract_12 rfl (lv_at hl 0 rfl) ?_
    refine lv_aload_n hx hb dX6_subtract_13 rfl (lv_at hl 1 rfl) ?_
    refine lv_iload_n hx hb dX6_subtract_14 rfl (lv_at hl 3 rfl) ?_
    obtain ⟨v4, e4, hf⟩ := pb_rd (rd_lI _ _ _) hf
    refine r_iald C hW e4 dX6_subtract_15 ?_
    refine lv_imul hx hb dX6_subtract_16 ?_
    refine lv_isub hx hb dX6_subtract_17 ?_
    obtain ⟨_, h5, e5, hf⟩ := pb_some hf
    refine r_iast C hW e5 dX6_subtract_18 (fun H locs hW => ?_)
    refine lv_iinc (v := (x3 + 1)) (lv' := [(3, .int (x3 + 1)), (0, .int x0), (1, .ref (ρ x1)), (2, .ref (ρ x2))]) hx hb dX6_subtract_19 hl (k := 3) rfl rfl (by decide) rfl (fun ls hl => ?_)
    refine lv_goto (tgt := 2) hx hb dX6_subtract_22 (by decide) ?_
    obtain ⟨rfl, rfl⟩ := pp_some hf
    exact kc _ rfl _ _ _ _ _ hW (lv_sub hl [1, 2, 3, 0] rfl)
set_option maxHeartbeats 4000000 in
theorem wX6_subtract_L2 {p : Program} {l : Launch} {e : Env} {s : State} {m : MethodId} {args : Array Value} {below : List Frame} {meth : Method} {c : Code} {G : GG} {ρ : Nat → Nat} {h0 hE hB : PH} {Q : State → Prop} {x0 : Int32} {x1 : Nat} {x2 : Nat} (C : Cx G "PairSymbols$Relations" cX6_subtract 4 none "subtract" p s m args meth c) {z : (Unit)} (n : Nat) : ∀ (x : Int32) {h : PH} {H : Heap} {locs : List Loc} {cells slots : Nat} {ls : Array Slot}, (plo (fX6_subtract_B2 x0 x1 x2) n x).1 h = some (z, hB) → Ext hB hE → Wd G ρ h0.length (sl h0) s.heap h H locs cells slots → lv_has ls 4 [(0, .int x0), (1, .ref (ρ x1)), (2, .ref (ρ x2)), (3, .int x)] → (ke : ∀ (H : Heap) (locs : List Loc) (c1 s1 : Nat) (ls : Array Slot), Wd G ρ h0.length (sl h0) s.heap hB H locs c1 s1 → lv_has ls 4 [] → W p l e (RM 0 0 h0 hE) s m args below meth c H locs c1 s1 Q (F0 m 25 ls [])) → W p l e (RM 0 0 h0 hE) s m args below meth c H locs cells slots Q (F0 m 2 ls []) := by
  induction n with
  | zero =>
    intro x h H locs cells slots ls hf
    rw [plo_0] at hf
    exact (pf_no hf).elim
  | succ n ih =>
    intro x h H locs cells slots ls hf hX hW hl ke
    rw [plo_s] at hf
    obtain ⟨r, h1, e1, hf⟩ := pb_some hf
    unfold fX6_subtract_B2 at e1
    rw [frI_eq] at e1
    refine wX6_subtract_B2 C e1 ((pext hf).tr hX) hW hl (fun y hr H locs c1 s1 ls hW hl => ?_) (fun y hr H locs c1 s1 ls hW hl => ?_)
    · subst hr
      exact ih y hf hX hW hl ke
    · subst hr
      obtain ⟨rfl, rfl⟩ := pp_some hf
      exact ke H locs c1 s1 ls hW hl
set_option maxHeartbeats 4000000 in
set_option maxRecDepth 100000 in
theorem metX6_subtract (l : Launch) (G : GG) (ρ : Nat → Nat) {z : Nat} {x0 : Int32} {x1 : Nat} {x2 : Nat} {h hE : PH} {v : Unit} (hf : (fX6_subtract x0 x1 x2).1 h = some (v, hE)) : Met l yX6_subtract (wsY yX6_subtract cX6_subtract 4 none) (RM 0 0 h hE) (va_Pc [.int x0, .ref (ρ x1), .ref (ρ x2)] (PcB G ρ h z)) (QV G ρ hE h.length z) (DC h hE) (DS h hE) (Af ρ h.length z) := by
  refine met_start (by decide) (Nat.le_of_ble_eq_true rfl) ?_
  intro p e s m below meth c ls hz C hW hl
  subst hz
  have C : Cx G "PairSymbols$Relations" cX6_subtract 4 none "subtract" p s m _ meth c := C
  have hx := C.1
  have hb := C.2.1
  have hX : Ext hE hE := Ext.rf hE
  have hl : lv_has ls 4 [(0, .int x0), (1, .ref (ρ x1)), (2, .ref (ρ x2))] := hl
  have hW : Wd G ρ h.length (sl h) s.heap h s.heap [] 0 0 := hW
  unfold fX6_subtract at hf
  refine lv_iconst (v := 0) hx hb dX6_subtract_0 (by decide) ?_
  refine lv_istore_n (lv' := [(3, .int (0 : Int32)), (0, .int x0), (1, .ref (ρ x1)), (2, .ref (ρ x2))]) hx hb dX6_subtract_1 rfl hl (by decide) rfl (fun ls hl => ?_)
  obtain ⟨z6, h6, e6, hf⟩ := pb_some hf
  refine wX6_subtract_L2 C fu _ e6 ((pext hf).tr hX) hW (lv_sub hl [1, 2, 3, 0] rfl) (fun H locs c1 s1 ls hW hl => ?_)
  obtain ⟨rfl, rfl⟩ := pp_some hf
  exact r_vret C hW dX6_subtract_25

theorem dX6_impose_0 : decode cX6_impose 0 = .ok (.aload_n 0, 1) := by decide +kernel
theorem dX6_impose_1 : decode cX6_impose 1 = .ok (.getfield 7, 3) := by decide +kernel
theorem dX6_impose_4 : decode cX6_impose 4 = .ok (.iconst 1, 1) := by decide +kernel
theorem dX6_impose_5 : decode cX6_impose 5 = .ok (.isub, 1) := by decide +kernel
theorem dX6_impose_6 : decode cX6_impose 6 = .ok (.istore_n 2, 1) := by decide +kernel
theorem dX6_impose_7 : decode cX6_impose 7 = .ok (.iload_n 2, 1) := by decide +kernel
theorem dX6_impose_8 : decode cX6_impose 8 = .ok (.ifCond .lt 52, 3) := by decide +kernel
theorem dX6_impose_11 : decode cX6_impose 11 = .ok (.aload_n 1, 1) := by decide +kernel
theorem dX6_impose_12 : decode cX6_impose 12 = .ok (.iload_n 2, 1) := by decide +kernel
theorem dX6_impose_13 : decode cX6_impose 13 = .ok (.iaload, 1) := by decide +kernel
theorem dX6_impose_14 : decode cX6_impose 14 = .ok (.ifCond .eq 21, 3) := by decide +kernel
theorem dX6_impose_17 : decode cX6_impose 17 = .ok (.aload_n 0, 1) := by decide +kernel
theorem dX6_impose_18 : decode cX6_impose 18 = .ok (.getfield 13, 3) := by decide +kernel
theorem dX6_impose_21 : decode cX6_impose 21 = .ok (.iload_n 2, 1) := by decide +kernel
theorem dX6_impose_22 : decode cX6_impose 22 = .ok (.baload, 1) := by decide +kernel
theorem dX6_impose_23 : decode cX6_impose 23 = .ok (.ifCond .ne 12, 3) := by decide +kernel
theorem dX6_impose_26 : decode cX6_impose 26 = .ok (.aload_n 0, 1) := by decide +kernel
theorem dX6_impose_27 : decode cX6_impose 27 = .ok (.iload_n 2, 1) := by decide +kernel
theorem dX6_impose_28 : decode cX6_impose 28 = .ok (.aload_n 1, 1) := by decide +kernel
theorem dX6_impose_29 : decode cX6_impose 29 = .ok (.invokevirtual 22, 3) := by decide +kernel
theorem dX6_impose_32 : decode cX6_impose 32 = .ok (.goto 28, 3) := by decide +kernel
theorem dX6_impose_35 : decode cX6_impose 35 = .ok (.aload_n 1, 1) := by decide +kernel
theorem dX6_impose_36 : decode cX6_impose 36 = .ok (.iload_n 2, 1) := by decide +kernel
theorem dX6_impose_37 : decode cX6_impose 37 = .ok (.iaload, 1) := by decide +kernel
theorem dX6_impose_38 : decode cX6_impose 38 = .ok (.ifCond .eq 16, 3) := by decide +kernel
theorem dX6_impose_41 : decode cX6_impose 41 = .ok (.aload_n 1, 1) := by decide +kernel
theorem dX6_impose_42 : decode cX6_impose 42 = .ok (.iload_n 2, 1) := by decide +kernel
theorem dX6_impose_43 : decode cX6_impose 43 = .ok (.iaload, 1) := by decide +kernel
theorem dX6_impose_44 : decode cX6_impose 44 = .ok (.aload_n 0, 1) := by decide +kernel
theorem dX6_impose_45 : decode cX6_impose 45 = .ok (.getfield 19, 3) := by decide +kernel
theorem dX6_impose_48 : decode cX6_impose 48 = .ok (.iload_n 2, 1) := by decide +kernel
theorem dX6_impose_49 : decode cX6_impose 49 = .ok (.aaload, 1) := by decide +kernel
theorem dX6_impose_50 : decode cX6_impose 50 = .ok (.aload_n 1, 1) := by decide +kernel
theorem dX6_impose_51 : decode cX6_impose 51 = .ok (.invokestatic 26, 3) := by decide +kernel
theorem dX6_impose_54 : decode cX6_impose 54 = .ok (.iinc 2 (-1), 3) := by decide +kernel
theorem dX6_impose_57 : decode cX6_impose 57 = .ok (.goto (-50), 3) := by decide +kernel
theorem dX6_impose_60 : decode cX6_impose 60 = .ok (.aload_n 1, 1) := by decide +kernel
theorem dX6_impose_61 : decode cX6_impose 61 = .ok (.iconst 0, 1) := by decide +kernel
theorem dX6_impose_62 : decode cX6_impose 62 = .ok (.invokestatic 30, 3) := by decide +kernel
theorem dX6_impose_65 : decode cX6_impose 65 = .ok (.return_, 1) := by decide +kernel
theorem kcX6_impose : Cond.code yX6_impose cX6_impose 3 none ∈ tb := tq q_89 rfl
theorem knX6_impose : Cond.initialized yX6_impose.cls ∈ tb := (tq q_4 rfl)
theorem kdX6_impose : yX6_impose.cls ≠ "java/lang/invoke/MethodHandle" ∧ yX6_impose.cls ≠ "java/lang/invoke/VarHandle" ∧ (parseMethodDescriptor yX6_impose.desc).map (fun d => d.parameters.length) = some 1 := ⟨by decide +kernel, by decide +kernel, by decide +kernel⟩
theorem kiX6_impose : Cond.instanceMethod yX6_impose ∈ tb := (tq q_87 rfl)
theorem ksX6_impose : Cond.selects yX6_impose.cls yX6_impose yX6_impose ∈ tb := (tq q_88 rfl)
theorem tgX6_impose {x0 : Nat} {x1 : Nat} {h : PH} {r : Unit × PH} (hf : (fX6_impose x0 x1).1 h = some r) : ∃ n x, nth h x0 = some (5, n, x) := by
  obtain ⟨_, _, e, _⟩ := pb_some hf
  exact (chk_some e).2
set_option maxHeartbeats 4000000 in
set_option maxRecDepth 100000 in
theorem wX6_impose_B7 {p : Program} {l : Launch} {e : Env} {s : State} {m : MethodId} {args : Array Value} {below : List Frame} {meth : Method} {c : Code} {G : GG} {ρ : Nat → Nat} {h0 hE hB : PH} {Q : State → Prop} {x0 : Nat} {x1 : Nat} (C : Cx G "PairSymbols$Relations" cX6_impose 3 none "impose" p s m args meth c) {x2 : Int32} {h : PH} {H : Heap} {locs : List Loc} {cells slots : Nat} {ls : Array Slot} {r : (Int32) ⊕ (Unit)} (hf : (fX6_impose_b7 x0 x1 x2).1 h = some (r, hB)) (hX : Ext hB hE) (hW : Wd G ρ h0.length (sl h0) s.heap h H locs cells slots) (hl : lv_has ls 3 [(0, .ref (ρ x0)), (1, .ref (ρ x1)), (2, .int x2)]) (kc : ∀ y : Int32, r = .inl y → ∀ (H : Heap) (locs : List Loc) (c1 s1 : Nat) (ls : Array Slot), Wd G ρ h0.length (sl h0) s.heap hB H locs c1 s1 → lv_has ls 3 [(0, .ref (ρ x0)), (1, .ref (ρ x1)), (2, .int y)] → W p l e (RM 1 24 h0 hE) s m args below meth c H locs c1 s1 Q (F0 m 7 ls [])) (ke : ∀ z : Unit, r = .inr z → ∀ (H : Heap) (locs : List Loc) (c1 s1 : Nat) (ls : Array Slot), Wd G ρ h0.length (sl h0) s.heap hB H locs c1 s1 → lv_has ls 3 [(1, .ref (ρ x1))] → W p l e (RM 1 24 h0 hE) s m args below meth c H locs c1 s1 Q (F0 m 60 ls [])) : W p l e (RM 1 24 h0 hE) s m args below meth c H locs cells slots Q (F0 m 7 ls []) := by
  have hx := C.1
  have hb := C.2.1
  unfold fX6_impose_b7 at hf
  refine lv_iload_n hx hb dX6_impose_7 rfl (lv_at hl 2 rfl) ?_
  refine lv_if_lt (tgt := 60) hx hb dX6_impose_8 (by decide) (fun c2 => ?_) (fun c2 => ?_)
  · rw [if_pos c2] at hf
    obtain ⟨rfl, rfl⟩ := pp_some hf
    exact ke _ rfl _ _ _ _ _ hW (lv_sub hl [1] rfl)
  · rw [if_neg c2] at hf
    refine lv_aload_n hx hb dX6_impose_11 rfl (lv_at hl 1 rfl) ?_
    refine lv_iload_n hx hb dX6_impose_12 rfl (lv_at hl 2 rfl) ?_
    obtain ⟨v3, e3, hf⟩ := pb_rd (rd_lI _ _ _) hf
    refine r_iald C hW e3 dX6_impose_13 ?_
    refine lv_if_eq (tgt := 35) hx hb dX6_impose_14 (by decide) (fun c4 => ?_) (fun c4 => ?_)
    · rw [if_pos c4] at hf
      refine lv_aload_n hx hb dX6_impose_35 rfl (lv_at hl 1 rfl) ?_
      refine lv_iload_n hx hb dX6_impose_36 rfl (lv_at hl 2 rfl) ?_
      obtain ⟨v5, e5, hf⟩ := pb_rd (rd_lI _ _ _) hf
      refine r_iald C hW e5 dX6_impose_37 ?_
      refine lv_if_eq (tgt := 54) hx hb dX6_impose_38 (by decide) (fun c6 => ?_) (fun c6 => ?_)
      · rw [if_pos c6] at hf
        refine lv_iinc (v := (x2 + (-1))) (lv' := [(2, .int (x2 + (-1))), (0, .ref (ρ x0)), (1, .ref (ρ x1))]) hx hb dX6_impose_54 hl (k := 2) rfl rfl (by decide) rfl (fun ls hl => ?_)
        refine lv_goto (tgt := 7) hx hb dX6_impose_57 (by decide) ?_
        obtain ⟨rfl, rfl⟩ := pp_some hf
        exact kc _ rfl _ _ _ _ _ hW (lv_sub hl [1, 2, 0] rfl)
      · rw [if_neg c6] at hf
        refine lv_aload_n hx hb dX6_impose_41 rfl (lv_at hl 1 rfl) ?_
        refine lv_iload_n hx hb dX6_impose_42 rfl (lv_at hl 2 rfl) ?_
        obtain ⟨v7, e7, hf⟩ := pb_rd (rd_lI _ _ _) hf
        refine r_iald C hW e7 dX6_impose_43 ?_
        refine lv_aload_n hx hb dX6_impose_44 rfl (lv_at hl 0 rfl) ?_
        obtain ⟨v8, e8, hf⟩ := pb_rd (rd_gA _ _ _) hf
        refine r_gA C hW e8 flX6_19 rfl dX6_impose_45 ?_
        refine lv_iload_n hx hb dX6_impose_48 rfl (lv_at hl 2 rfl) ?_
        obtain ⟨v9, e9, hf⟩ := pb_rd (rd_lA _ _ _) hf
        refine r_aald C hW e9 (by decide) (by decide) dX6_impose_49 ?_
        refine lv_aload_n hx hb dX6_impose_50 rfl (lv_at hl 1 rfl) ?_
        obtain ⟨_, h10, e10, hf⟩ := pb_some hf
        refine r_callv hW (pext e10) (run_S (As := [.int v7, .ref (ρ v9), .ref (ρ x1)]) (rest := []) C hW (metX6_subtract l G ρ e10) ⟨rfl, rfl⟩ kcX6_subtract (tq q_94 rfl) kiX6_subtract knX6_subtract kdX6_subtract ⟨Nat.le_of_ble_eq_true rfl, Nat.le_of_ble_eq_true rfl⟩ hl.1 (Nat.le_of_ble_eq_true rfl) (room_of hW (pext e10) ((pext hf).tr hX)) dX6_impose_51 rfl) (fun H locs c1 s1 hW => ?_)
        refine lv_iinc (v := (x2 + (-1))) (lv' := [(2, .int (x2 + (-1))), (0, .ref (ρ x0)), (1, .ref (ρ x1))]) hx hb dX6_impose_54 hl (k := 2) rfl rfl (by decide) rfl (fun ls hl => ?_)
        refine lv_goto (tgt := 7) hx hb dX6_impose_57 (by decide) ?_
        obtain ⟨rfl, rfl⟩ := pp_some hf
        exact kc _ rfl _ _ _ _ _ hW (lv_sub hl [1, 2, 0] rfl)
    · rw [if_neg c4] at hf
      refine lv_aload_n hx hb dX6_impose_17 rfl (lv_at hl 0 rfl) ?_
      obtain ⟨v11, e11, hf⟩ := pb_rd (rd_gA _ _ _) hf
      refine r_gA C hW e11 flX6_13 rfl dX6_impose_18 ?_
      refine lv_iload_n hx hb dX6_impose_21 rfl (lv_at hl 2 rfl) ?_
      obtain ⟨v12, e12, hf⟩ := pb_rd (rd_lI _ _ _) hf
      refine r_zald C hW e12 dX6_impose_22 ?_
      refine lv_if_ne (tgt := 35) hx hb dX6_impose_23 (by decide) (fun c13 => ?_) (fun c13 => ?_)
      · rw [if_neg c13] at hf
        refine lv_aload_n hx hb dX6_impose_35 rfl (lv_at hl 1 rfl) ?_
        refine lv_iload_n hx hb dX6_impose_36 rfl (lv_at hl 2 rfl) ?_
        obtain ⟨v14, e14, hf⟩ := pb_rd (rd_lI _ _ _) hf
        refine r_iald C hW e14 dX6_impose_37 ?_
        refine lv_if_eq (tgt := 54) hx hb dX6_impose_38 (by decide) (fun c15 => ?_) (fun c15 => ?_)
        · rw [if_pos c15] at hf
          refine lv_iinc (v := (x2 + (-1))) (lv' := [(2, .int (x2 + (-1))), (0, .ref (ρ x0)), (1, .ref (ρ x1))]) hx hb dX6_impose_54 hl (k := 2) rfl rfl (by decide) rfl (fun ls hl => ?_)
          refine lv_goto (tgt := 7) hx hb dX6_impose_57 (by decide) ?_
          obtain ⟨rfl, rfl⟩ := pp_some hf
          exact kc _ rfl _ _ _ _ _ hW (lv_sub hl [1, 2, 0] rfl)
        · rw [if_neg c15] at hf
          refine lv_aload_n hx hb dX6_impose_41 rfl (lv_at hl 1 rfl) ?_
          refine lv_iload_n hx hb dX6_impose_42 rfl (lv_at hl 2 rfl) ?_
          obtain ⟨v16, e16, hf⟩ := pb_rd (rd_lI _ _ _) hf
          refine r_iald C hW e16 dX6_impose_43 ?_
          refine lv_aload_n hx hb dX6_impose_44 rfl (lv_at hl 0 rfl) ?_
          obtain ⟨v17, e17, hf⟩ := pb_rd (rd_gA _ _ _) hf
          refine r_gA C hW e17 flX6_19 rfl dX6_impose_45 ?_
          refine lv_iload_n hx hb dX6_impose_48 rfl (lv_at hl 2 rfl) ?_
          obtain ⟨v18, e18, hf⟩ := pb_rd (rd_lA _ _ _) hf
          refine r_aald C hW e18 (by decide) (by decide) dX6_impose_49 ?_
          refine lv_aload_n hx hb dX6_impose_50 rfl (lv_at hl 1 rfl) ?_
          obtain ⟨_, h19, e19, hf⟩ := pb_some hf
          refine r_callv hW (pext e19) (run_S (As := [.int v16, .ref (ρ v18), .ref (ρ x1)]) (rest := []) C hW (metX6_subtract l G ρ e19) ⟨rfl, rfl⟩ kcX6_subtract (tq q_94 rfl) kiX6_subtract knX6_subtract kdX6_subtract ⟨Nat.le_of_ble_eq_true rfl, Nat.le_of_ble_eq_true rfl⟩ hl.1 (Nat.le_of_ble_eq_true rfl) (room_of hW (pext e19) ((pext hf).tr hX)) dX6_impose_51 rfl) (fun H locs c1 s1 hW => ?_)
          refine lv_iinc (v := (x2 + (-1))) (lv' := [(2, .int (x2 + (-1))), (0, .ref (ρ x0)), (1, .ref (ρ x1))]) hx hb dX6_impose_54 hl (k := 2) rfl rfl (by decide) rfl (fun ls hl => ?_)
          refine lv_goto (tgt := 7) hx hb dX6_impose_57 (by decide) ?_
          obtain ⟨rfl, rfl⟩ := pp_some hf
          exact kc _ rfl _ _ _ _ _ hW (lv_sub hl [1, 2, 0] rfl)
      · rw [if_pos c13] at hf
        refine lv_aload_n hx hb dX6_impose_26 rfl (lv_at hl 0 rfl) ?_
        refine lv_iload_n hx hb dX6_impose_27 rfl (lv_at hl 2 rfl) ?_
        refine lv_aload_n hx hb dX6_impose_28 rfl (lv_at hl 1 rfl) ?_
        obtain ⟨_, h20, e20, hf⟩ := pb_some hf
        obtain ⟨_, _, t21⟩ := tgX6_bind e20
        refine r_callv hW (pext e20) (run_V (b := x0) (As := [.int x2, .ref (ρ x1)]) (rest := []) C hW (metX6_bind l G ρ e20) ⟨rfl, rfl⟩ kcX6_bind (tq q_90 rfl) kiX6_bind ksX6_bind knX6_bind kdX6_bind t21 rfl rfl ⟨Nat.le_of_ble_eq_true rfl, Nat.le_of_ble_eq_true rfl⟩ hl.1 (Nat.le_of_ble_eq_true rfl) (room_of hW (pext e20) ((pext hf).tr hX)) dX6_impose_29 rfl) (fun H locs c1 s1 hW => ?_)
        refine lv_goto (tgt := 60) hx hb dX6_impose_32 (by decide) ?_
        obtain ⟨rfl, rfl⟩ := pp_some hf
        exact ke _ rfl _ _ _ _ _ hW (lv_sub hl [1] rfl)
set_option maxHeartbeats 4000000 in
theorem wX6_impose_L7 {p : Program} {l : Launch} {e : Env} {s : State} {m : MethodId} {args : Array Value} {below : List Frame} {meth : Method} {c : Code} {G : GG} {ρ : Nat → Nat} {h0 hE hB : PH} {Q : State → Prop} {x0 : Nat} {x1 : Nat} (C : Cx G "PairSymbols$Relations" cX6_impose 3 none "impose" p s m args meth c) {z : (Unit)} (n : Nat) : ∀ (x : Int32) {h : PH} {H : Heap} {locs : List Loc} {cells slots : Nat} {ls : Array Slot}, (plo (fX6_impose_B7 x0 x1) n x).1 h = some (z, hB) → Ext hB hE → Wd G ρ h0.length (sl h0) s.heap h H locs cells slots → lv_has ls 3 [(0, .ref (ρ x0)), (1, .ref (ρ x1)), (2, .int x)] → (ke : ∀ (H : Heap) (locs : List Loc) (c1 s1 : Nat) (ls : Array Slot), Wd G ρ h0.length (sl h0) s.heap hB H locs c1 s1 → lv_has ls 3 [(1, .ref (ρ x1))] → W p l e (RM 1 24 h0 hE) s m args below meth c H locs c1 s1 Q (F0 m 60 ls [])) → W p l e (RM 1 24 h0 hE) s m args below meth c H locs cells slots Q (F0 m 7 ls []) := by
  induction n with
  | zero =>
    intro x h H locs cells slots ls hf
    rw [plo_0] at hf
    exact (pf_no hf).elim
  | succ n ih =>
    intro x h H locs cells slots ls hf hX hW hl ke
    rw [plo_s] at hf
    obtain ⟨r, h1, e1, hf⟩ := pb_some hf
    unfold fX6_impose_B7 at e1
    rw [frI_eq] at e1
    refine wX6_impose_B7 C e1 ((pext hf).tr hX) hW hl (fun y hr H locs c1 s1 ls hW hl => ?_) (fun y hr H locs c1 s1 ls hW hl => ?_)
    · subst hr
      exact ih y hf hX hW hl ke
    · subst hr
      obtain ⟨rfl, rfl⟩ := pp_some hf
      exact ke H locs c1 s1 ls hW hl
set_option maxHeartbeats 4000000 in
set_option maxRecDepth 100000 in
theorem metX6_impose (l : Launch) (G : GG) (ρ : Nat → Nat) {z : Nat} {x0 : Nat} {x1 : Nat} {h hE : PH} {v : Unit} (hf : (fX6_impose x0 x1).1 h = some (v, hE)) : Met l yX6_impose (wsY yX6_impose cX6_impose 3 none) (RM 1 24 h hE) (va_Pc [.ref (ρ x0), .ref (ρ x1)] (PcB G ρ h z)) (QV G ρ hE h.length z) (DC h hE) (DS h hE) (Af ρ h.length z) := by
  refine met_start (by decide) (Nat.le_of_ble_eq_true rfl) ?_
  intro p e s m below meth c ls hz C hW hl
  subst hz
  have C : Cx G "PairSymbols$Relations" cX6_impose 3 none "impose" p s m _ meth c := C
  have hx := C.1
  have hb := C.2.1
  have hX : Ext hE hE := Ext.rf hE
  have hl : lv_has ls 3 [(0, .ref (ρ x0)), (1, .ref (ρ x1))] := hl
  have hW : Wd G ρ h.length (sl h) s.heap h s.heap [] 0 0 := hW
  unfold fX6_impose at hf
  obtain ⟨_, e0, hf⟩ := pb_rd (rd_chk _ _) hf
  refine lv_aload_n hx hb dX6_impose_0 rfl (lv_at hl 0 rfl) ?_
  obtain ⟨v1, e1, hf⟩ := pb_rd (rd_gI _ _ _) hf
  refine r_gI C hW e1 flX6_7 rfl dX6_impose_1 ?_
  refine lv_iconst (v := 1) hx hb dX6_impose_4 (by decide) ?_
  refine lv_isub hx hb dX6_impose_5 ?_
  refine lv_istore_n (lv' := [(2, .int (v1 - (1 : Int32))), (0, .ref (ρ x0)), (1, .ref (ρ x1))]) hx hb dX6_impose_6 rfl hl (by decide) rfl (fun ls hl => ?_)
  obtain ⟨z22, h22, e22, hf⟩ := pb_some hf
  refine wX6_impose_L7 C fu _ e22 ((pext hf).tr hX) hW (lv_sub hl [1, 2, 0] rfl) (fun H locs c1 s1 ls hW hl => ?_)
  refine lv_aload_n hx hb dX6_impose_60 rfl (lv_at hl 0 rfl) ?_
  refine lv_iconst (v := 0) hx hb dX6_impose_61 (by decide) ?_
  obtain ⟨_, h23, e23, hf⟩ := pb_some hf
  refine r_callv hW (pext e23) (run_S (As := [.ref (ρ x1), .int (0 : Int32)]) (rest := []) C hW (metJ7_fill_53178 l G ρ e23) ⟨rfl, rfl⟩ kcJ7_fill_53178 (tq q_97 rfl) kiJ7_fill_53178 knJ7_fill_53178 kdJ7_fill_53178 ⟨Nat.le_of_ble_eq_true rfl, Nat.le_of_ble_eq_true rfl⟩ hl.1 (Nat.le_of_ble_eq_true rfl) (room_of hW (pext e23) ((pext hf).tr hX)) dX6_impose_62 rfl) (fun H locs c1 s1 hW => ?_)
  obtain ⟨rfl, rfl⟩ := pp_some hf
  exact r_vret C hW dX6_impose_65

theorem dX3_relateSymbols_0 : decode cX3_relateSymbols 0 = .ok (.aload_n 0, 1) := by decide +kernel
theorem dX3_relateSymbols_1 : decode cX3_relateSymbols 1 = .ok (.getfield 23, 3) := by decide +kernel
theorem dX3_relateSymbols_4 : decode cX3_relateSymbols 4 = .ok (.newarray .int, 2) := by decide +kernel
theorem dX3_relateSymbols_6 : decode cX3_relateSymbols 6 = .ok (.astore_n 2, 1) := by decide +kernel
theorem dX3_relateSymbols_7 : decode cX3_relateSymbols 7 = .ok (.iconst 0, 1) := by decide +kernel
theorem dX3_relateSymbols_8 : decode cX3_relateSymbols 8 = .ok (.istore_n 3, 1) := by decide +kernel
theorem dX3_relateSymbols_9 : decode cX3_relateSymbols 9 = .ok (.iload_n 3, 1) := by decide +kernel
theorem dX3_relateSymbols_10 : decode cX3_relateSymbols 10 = .ok (.aload_n 0, 1) := by decide +kernel
theorem dX3_relateSymbols_11 : decode cX3_relateSymbols 11 = .ok (.getfield 23, 3) := by decide +kernel
theorem dX3_relateSymbols_14 : decode cX3_relateSymbols 14 = .ok (.if_icmp .ge 37, 3) := by decide +kernel
theorem dX3_relateSymbols_17 : decode cX3_relateSymbols 17 = .ok (.iload_n 3, 1) := by decide +kernel
theorem dX3_relateSymbols_18 : decode cX3_relateSymbols 18 = .ok (.aload_n 0, 1) := by decide +kernel
theorem dX3_relateSymbols_19 : decode cX3_relateSymbols 19 = .ok (.getfield 32, 3) := by decide +kernel
theorem dX3_relateSymbols_22 : decode cX3_relateSymbols 22 = .ok (.iload_n 3, 1) := by decide +kernel
theorem dX3_relateSymbols_23 : decode cX3_relateSymbols 23 = .ok (.iaload, 1) := by decide +kernel
theorem dX3_relateSymbols_24 : decode cX3_relateSymbols 24 = .ok (.if_icmp .gt 21, 3) := by decide +kernel
theorem dX3_relateSymbols_27 : decode cX3_relateSymbols 27 = .ok (.aload_n 2, 1) := by decide +kernel
theorem dX3_relateSymbols_28 : decode cX3_relateSymbols 28 = .ok (.iload_n 3, 1) := by decide +kernel
theorem dX3_relateSymbols_29 : decode cX3_relateSymbols 29 = .ok (.iconst 1, 1) := by decide +kernel
theorem dX3_relateSymbols_30 : decode cX3_relateSymbols 30 = .ok (.iastore, 1) := by decide +kernel
theorem dX3_relateSymbols_31 : decode cX3_relateSymbols 31 = .ok (.aload_n 2, 1) := by decide +kernel
theorem dX3_relateSymbols_32 : decode cX3_relateSymbols 32 = .ok (.aload_n 0, 1) := by decide +kernel
theorem dX3_relateSymbols_33 : decode cX3_relateSymbols 33 = .ok (.getfield 32, 3) := by decide +kernel
theorem dX3_relateSymbols_36 : decode cX3_relateSymbols 36 = .ok (.iload_n 3, 1) := by decide +kernel
theorem dX3_relateSymbols_37 : decode cX3_relateSymbols 37 = .ok (.iaload, 1) := by decide +kernel
theorem dX3_relateSymbols_38 : decode cX3_relateSymbols 38 = .ok (.iconst 1, 1) := by decide +kernel
theorem dX3_relateSymbols_39 : decode cX3_relateSymbols 39 = .ok (.iastore, 1) := by decide +kernel
theorem dX3_relateSymbols_40 : decode cX3_relateSymbols 40 = .ok (.aload_n 1, 1) := by decide +kernel
theorem dX3_relateSymbols_41 : decode cX3_relateSymbols 41 = .ok (.aload_n 2, 1) := by decide +kernel
theorem dX3_relateSymbols_42 : decode cX3_relateSymbols 42 = .ok (.invokevirtual 120, 3) := by decide +kernel
theorem dX3_relateSymbols_45 : decode cX3_relateSymbols 45 = .ok (.iinc 3 1, 3) := by decide +kernel
theorem dX3_relateSymbols_48 : decode cX3_relateSymbols 48 = .ok (.goto (-39), 3) := by decide +kernel
theorem dX3_relateSymbols_51 : decode cX3_relateSymbols 51 = .ok (.iconst 0, 1) := by decide +kernel
theorem dX3_relateSymbols_52 : decode cX3_relateSymbols 52 = .ok (.istore_n 3, 1) := by decide +kernel
theorem dX3_relateSymbols_53 : decode cX3_relateSymbols 53 = .ok (.iload_n 3, 1) := by decide +kernel
theorem dX3_relateSymbols_54 : decode cX3_relateSymbols 54 = .ok (.aload_n 0, 1) := by decide +kernel
theorem dX3_relateSymbols_55 : decode cX3_relateSymbols 55 = .ok (.getfield 23, 3) := by decide +kernel
theorem dX3_relateSymbols_58 : decode cX3_relateSymbols 58 = .ok (.if_icmp .ge 57, 3) := by decide +kernel
theorem dX3_relateSymbols_61 : decode cX3_relateSymbols 61 = .ok (.aload_n 0, 1) := by decide +kernel
theorem dX3_relateSymbols_62 : decode cX3_relateSymbols 62 = .ok (.getfield 35, 3) := by decide +kernel
theorem dX3_relateSymbols_65 : decode cX3_relateSymbols 65 = .ok (.iload_n 3, 1) := by decide +kernel
theorem dX3_relateSymbols_66 : decode cX3_relateSymbols 66 = .ok (.iaload, 1) := by decide +kernel
theorem dX3_relateSymbols_67 : decode cX3_relateSymbols 67 = .ok (.istore 4, 2) := by decide +kernel
theorem dX3_relateSymbols_69 : decode cX3_relateSymbols 69 = .ok (.aload_n 0, 1) := by decide +kernel
theorem dX3_relateSymbols_70 : decode cX3_relateSymbols 70 = .ok (.getfield 35, 3) := by decide +kernel
theorem dX3_relateSymbols_73 : decode cX3_relateSymbols 73 = .ok (.iload 4, 2) := by decide +kernel
theorem dX3_relateSymbols_75 : decode cX3_relateSymbols 75 = .ok (.iaload, 1) := by decide +kernel
theorem dX3_relateSymbols_76 : decode cX3_relateSymbols 76 = .ok (.istore 5, 2) := by decide +kernel
theorem dX3_relateSymbols_78 : decode cX3_relateSymbols 78 = .ok (.iload_n 3, 1) := by decide +kernel
theorem dX3_relateSymbols_79 : decode cX3_relateSymbols 79 = .ok (.iload 4, 2) := by decide +kernel
theorem dX3_relateSymbols_81 : decode cX3_relateSymbols 81 = .ok (.if_icmp .gt 28, 3) := by decide +kernel
theorem dX3_relateSymbols_84 : decode cX3_relateSymbols 84 = .ok (.iload_n 3, 1) := by decide +kernel
theorem dX3_relateSymbols_85 : decode cX3_relateSymbols 85 = .ok (.iload 5, 2) := by decide +kernel
theorem dX3_relateSymbols_87 : decode cX3_relateSymbols 87 = .ok (.if_icmp .gt 22, 3) := by decide +kernel
theorem dX3_relateSymbols_90 : decode cX3_relateSymbols 90 = .ok (.aload_n 2, 1) := by decide +kernel
theorem dX3_relateSymbols_91 : decode cX3_relateSymbols 91 = .ok (.iload_n 3, 1) := by decide +kernel
theorem dX3_relateSymbols_92 : decode cX3_relateSymbols 92 = .ok (.iconst 1, 1) := by decide +kernel
theorem dX3_relateSymbols_93 : decode cX3_relateSymbols 93 = .ok (.iastore, 1) := by decide +kernel
theorem dX3_relateSymbols_94 : decode cX3_relateSymbols 94 = .ok (.aload_n 2, 1) := by decide +kernel
theorem dX3_relateSymbols_95 : decode cX3_relateSymbols 95 = .ok (.iload 4, 2) := by decide +kernel
theorem dX3_relateSymbols_97 : decode cX3_relateSymbols 97 = .ok (.iconst 1, 1) := by decide +kernel
theorem dX3_relateSymbols_98 : decode cX3_relateSymbols 98 = .ok (.iastore, 1) := by decide +kernel
theorem dX3_relateSymbols_99 : decode cX3_relateSymbols 99 = .ok (.aload_n 2, 1) := by decide +kernel
theorem dX3_relateSymbols_100 : decode cX3_relateSymbols 100 = .ok (.iload 5, 2) := by decide +kernel
theorem dX3_relateSymbols_102 : decode cX3_relateSymbols 102 = .ok (.iconst 1, 1) := by decide +kernel
theorem dX3_relateSymbols_103 : decode cX3_relateSymbols 103 = .ok (.iastore, 1) := by decide +kernel
theorem dX3_relateSymbols_104 : decode cX3_relateSymbols 104 = .ok (.aload_n 1, 1) := by decide +kernel
theorem dX3_relateSymbols_105 : decode cX3_relateSymbols 105 = .ok (.aload_n 2, 1) := by decide +kernel
theorem dX3_relateSymbols_106 : decode cX3_relateSymbols 106 = .ok (.invokevirtual 120, 3) := by decide +kernel
theorem dX3_relateSymbols_109 : decode cX3_relateSymbols 109 = .ok (.iinc 3 1, 3) := by decide +kernel
theorem dX3_relateSymbols_112 : decode cX3_relateSymbols 112 = .ok (.goto (-59), 3) := by decide +kernel
theorem dX3_relateSymbols_115 : decode cX3_relateSymbols 115 = .ok (.return_, 1) := by decide +kernel
theorem kcX3_relateSymbols : Cond.code yX3_relateSymbols cX3_relateSymbols 6 none ∈ tb := tq q_85 rfl
theorem knX3_relateSymbols : Cond.initialized yX3_relateSymbols.cls ∈ tb := (tq q_2 rfl)
theorem kdX3_relateSymbols : yX3_relateSymbols.cls ≠ "java/lang/invoke/MethodHandle" ∧ yX3_relateSymbols.cls ≠ "java/lang/invoke/VarHandle" ∧ (parseMethodDescriptor yX3_relateSymbols.desc).map (fun d => d.parameters.length) = some 1 := ⟨by decide +kernel, by decide +kernel, by decide +kernel⟩
theorem kiX3_relateSymbols : Cond.instanceMethod yX3_relateSymbols ∈ tb := (tq q_84 rfl)
theorem ksX3_relateSymbols : Cond.selects yX3_relateSymbols.cls yX3_relateSymbols yX3_relateSymbols ∈ tb := (tq z_5 rfl)
theorem tgX3_relateSymbols {x0 : Nat} {x1 : Nat} {h : PH} {r : Unit × PH} (hf : (fX3_relateSymbols x0 x1).1 h = some r) : ∃ n x, nth h x0 = some (3, n, x) := by
  obtain ⟨_, _, e, _⟩ := pb_some hf
  exact (chk_some e).2
set_option maxHeartbeats 4000000 in
set_option maxRecDepth 100000 in
theorem wX3_relateSymbols_B9 {p : Program} {l : Launch} {e : Env} {s : State} {m : MethodId} {args : Array Value} {below : List Frame} {meth : Method} {c : Code} {G : GG} {ρ : Nat → Nat} {h0 hE hB : PH} {Q : State → Prop} {x0 : Nat} {x1 : Nat} {x2 : Nat} (C : Cx G "PairSymbols$Level" cX3_relateSymbols 6 none "relateSymbols" p s m args meth c) {x3 : Int32} {h : PH} {H : Heap} {locs : List Loc} {cells slots : Nat} {ls : Array Slot} {r : (Int32) ⊕ (Unit)} (hf : (fX3_relateSymbols_b9 x0 x1 x2 x3).1 h = some (r, hB)) (hX : Ext hB hE) (hW : Wd G ρ h0.length (sl h0) s.heap h H locs cells slots) (hl : lv_has ls 6 [(0, .ref (ρ x0)), (1, .ref (ρ x1)), (2, .ref (ρ x2)), (3, .int x3)]) (kc : ∀ y : Int32, r = .inl y → ∀ (H : Heap) (locs : List Loc) (c1 s1 : Nat) (ls : Array Slot), Wd G ρ h0.length (sl h0) s.heap hB H locs c1 s1 → lv_has ls 6 [(0, .ref (ρ x0)), (1, .ref (ρ x1)), (2, .ref (ρ x2)), (3, .int y)] → W p l e (RM 2 46 h0 hE) s m args below meth c H locs c1 s1 Q (F0 m 9 ls [])) (ke : ∀ z : Unit, r = .inr z → ∀ (H : Heap) (locs : List Loc) (c1 s1 : Nat) (ls : Array Slot), Wd G ρ h0.length (sl h0) s.heap hB H locs c1 s1 → lv_has ls 6 [(0, .ref (ρ x0)), (1, .ref (ρ x1)), (2, .ref (ρ x2))] → W p l e (RM 2 46 h0 hE) s m args below meth c H locs c1 s1 Q (F0 m 51 ls [])) : W p l e (RM 2 46 h0 hE) s m args below meth c H locs cells slots Q (F0 m 9 ls []) := by
  have hx := C.1
  have hb := C.2.1
  unfold fX3_relateSymbols_b9 at hf
  refine lv_iload_n hx hb dX3_relateSymbols_9 rfl (lv_at hl 3 rfl) ?_
  refine lv_aload_n hx hb dX3_relateSymbols_10 rfl (lv_at hl 0 rfl) ?_
  obtain ⟨v3, e3, hf⟩ := pb_rd (rd_gI _ _ _) hf
  refine r_gI C hW e3 flX3_23 rfl dX3_relateSymbols_11 ?_
  refine lv_icmp_ge (tgt := 51) hx hb dX3_relateSymbols_14 (by decide) (fun c4 => ?_) (fun c4 => ?_)
  · rw [if_pos c4] at hf
    obtain ⟨rfl, rfl⟩ := pp_some hf
    exact ke _ rfl _ _ _ _ _ hW (lv_sub hl [0, 1, 2] rfl)
  · rw [if_neg c4] at hf
    refine lv_iload_n hx hb dX3_relateSymbols_17 rfl (lv_at hl 3 rfl) ?_
    refine lv_aload_n hx hb dX3_relateSymbols_18 rfl (lv_at hl 0 rfl) ?_
    obtain ⟨v5, e5, hf⟩ := pb_rd (rd_gA _ _ _) hf
    refine r_gA C hW e5 flX3_32 rfl dX3_relateSymbols_19 ?_
    refine lv_iload_n hx hb dX3_relateSymbols_22 rfl (lv_at hl 3 rfl) ?_
    obtain ⟨v6, e6, hf⟩ := pb_rd (rd_lI _ _ _) hf
    refine r_iald C hW e6 dX3_relateSymbols_23 ?_
    refine lv_icmp_gt (tgt := 45) hx hb dX3_relateSymbols_24 (by decide) (fun c7 => ?_) (fun c7 => ?_)
    · rw [if_pos c7] at hf
      refine lv_iinc (v := (x3 + 1)) (lv' := [(3, .int (x3 + 1)), (0, .ref (ρ x0)), (1, .ref (ρ x1)), (2, .ref (ρ x2))]) hx hb dX3_relateSymbols_45 hl (k := 3) rfl rfl (by decide) rfl (fun ls hl => ?_)
      refine lv_goto (tgt := 9) hx hb dX3_relateSymbols_48 (by decide) ?_
      obtain ⟨rfl, rfl⟩ := pp_some hf
      exact kc _ rfl _ _ _ _ _ hW (lv_sub hl [1, 2, 3, 0] rfl)
    · rw [if_neg c7] at hf
      refine lv_aload_n hx hb dX3_relateSymbols_27 rfl (lv_at hl 2 rfl) ?_
      refine lv_iload_n hx hb dX3_relateSymbols_28 rfl (lv_at hl 3 rfl) ?_
      refine lv_iconst (v := 1) hx hb dX3_relateSymbols_29 (by decide) ?_
      obtain ⟨_, h8, e8, hf⟩ := pb_some hf
      refine r_iast C hW e8 dX3_relateSymbols_30 (fun H locs hW => ?_)
      refine lv_aload_n hx hb dX3_relateSymbols_31 rfl (lv_at hl 2 rfl) ?_
      refine lv_aload_n hx hb dX3_relateSymbols_32 rfl (lv_at hl 0 rfl) ?_
      obtain ⟨v9, e9, hf⟩ := pb_rd (rd_gA _ _ _) hf
      refine r_gA C hW e9 flX3_32 rfl dX3_relateSymbols_33 ?_
      refine lv_iload_n hx hb dX3_relateSymbols_36 rfl (lv_at hl 3 rfl) ?_
      obtain ⟨v10, e10, hf⟩ := pb_rd (rd_lI _ _ _) hf
      refine r_iald C hW e10 dX3_relateSymbols_37 ?_
      refine lv_iconst (v := 1) hx hb dX3_relateSymbols_38 (by decide) ?_
      obtain ⟨_, h11, e11, hf⟩ := pb_some hf
      refine r_iast C hW e11 dX3_relateSymbols_39 (fun H locs hW => ?_)
      refine lv_aload_n hx hb dX3_relateSymbols_40 rfl (lv_at hl 1 rfl) ?_
      refine lv_aload_n hx hb dX3_relateSymbols_41 rfl (lv_at hl 2 rfl) ?_
      obtain ⟨_, h12, e12, hf⟩ := pb_some hf
      obtain ⟨_, _, t13⟩ := tgX6_impose e12
      refine r_callv hW (pext e12) (run_V (b := x1) (As := [.ref (ρ x2)]) (rest := []) C hW (metX6_impose l G ρ e12) ⟨rfl, rfl⟩ kcX6_impose (tq q_86 rfl) kiX6_impose ksX6_impose knX6_impose kdX6_impose t13 rfl rfl ⟨Nat.le_of_ble_eq_true rfl, Nat.le_of_ble_eq_true rfl⟩ hl.1 (Nat.le_of_ble_eq_true rfl) (room_of hW (pext e12) ((pext hf).tr hX)) dX3_relateSymbols_42 rfl) (fun H locs c1 s1 hW => ?_)
      refine lv_iinc (v := (x3 + 1)) (lv' := [(3, .int (x3 + 1)), (0, .ref (ρ x0)), (1, .ref (ρ x1)), (2, .ref (ρ x2))]) hx hb dX3_relateSymbols_45 hl (k := 3) rfl rfl (by decide) rfl (fun ls hl => ?_)
      refine lv_goto (tgt := 9) hx hb dX3_relateSymbols_48 (by decide) ?_
      obtain ⟨rfl, rfl⟩ := pp_some hf
      exact kc _ rfl _ _ _ _ _ hW (lv_sub hl [1, 2, 3, 0] rfl)
set_option maxHeartbeats 4000000 in
theorem wX3_relateSymbols_L9 {p : Program} {l : Launch} {e : Env} {s : State} {m : MethodId} {args : Array Value} {below : List Frame} {meth : Method} {c : Code} {G : GG} {ρ : Nat → Nat} {h0 hE hB : PH} {Q : State → Prop} {x0 : Nat} {x1 : Nat} {x2 : Nat} (C : Cx G "PairSymbols$Level" cX3_relateSymbols 6 none "relateSymbols" p s m args meth c) {z : (Unit)} (n : Nat) : ∀ (x : Int32) {h : PH} {H : Heap} {locs : List Loc} {cells slots : Nat} {ls : Array Slot}, (plo (fX3_relateSymbols_B9 x0 x1 x2) n x).1 h = some (z, hB) → Ext hB hE → Wd G ρ h0.length (sl h0) s.heap h H locs cells slots → lv_has ls 6 [(0, .ref (ρ x0)), (1, .ref (ρ x1)), (2, .ref (ρ x2)), (3, .int x)] → (ke : ∀ (H : Heap) (locs : List Loc) (c1 s1 : Nat) (ls : Array Slot), Wd G ρ h0.length (sl h0) s.heap hB H locs c1 s1 → lv_has ls 6 [(0, .ref (ρ x0)), (1, .ref (ρ x1)), (2, .ref (ρ x2))] → W p l e (RM 2 46 h0 hE) s m args below meth c H locs c1 s1 Q (F0 m 51 ls [])) → W p l e (RM 2 46 h0 hE) s m args below meth c H locs cells slots Q (F0 m 9 ls []) := by
  induction n with
  | zero =>
    intro x h H locs cells slots ls hf
    rw [plo_0] at hf
    exact (pf_no hf).elim
  | succ n ih =>
    intro x h H locs cells slots ls hf hX hW hl ke
    rw [plo_s] at hf
    obtain ⟨r, h1, e1, hf⟩ := pb_some hf
    unfold fX3_relateSymbols_B9 at e1
    rw [frI_eq] at e1
    refine wX3_relateSymbols_B9 C e1 ((pext hf).tr hX) hW hl (fun y hr H locs c1 s1 ls hW hl => ?_) (fun y hr H locs c1 s1 ls hW hl => ?_)
    · subst hr
      exact ih y hf hX hW hl ke
    · subst hr
      obtain ⟨rfl, rfl⟩ := pp_some hf
      exact ke H locs c1 s1 ls hW hl
set_option maxHeartbeats 4000000 in
set_option maxRecDepth 100000 in
theorem wX3_relateSymbols_B53 {p : Program} {l : Launch} {e : Env} {s : State} {m : MethodId} {args : Array Value} {below : List Frame} {meth : Method} {c : Code} {G : GG} {ρ : Nat → Nat} {h0 hE hB : PH} {Q : State → Prop} {x0 : Nat} {x1 : Nat} {x2 : Nat} (C : Cx G "PairSymbols$Level" cX3_relateSymbols 6 none "relateSymbols" p s m args meth c) {x3 : Int32} {h : PH} {H : Heap} {locs : List Loc} {cells slots : Nat} {ls : Array Slot} {r : (Int32) ⊕ (Unit)} (hf : (fX3_relateSymbols_b53 x0 x1 x2 x3).1 h = some (r, hB)) (hX : Ext hB hE) (hW : Wd G ρ h0.length (sl h0) s.heap h H locs cells slots) (hl : lv_has ls 6 [(0, .ref (ρ x0)), (1, .ref (ρ x1)), (2, .ref (ρ x2)), (3, .int x3)]) (kc : ∀ y : Int32, r = .inl y → ∀ (H : Heap) (locs : List Loc) (c1 s1 : Nat) (ls : Array Slot), Wd G ρ h0.length (sl h0) s.heap hB H locs c1 s1 → lv_has ls 6 [(0, .ref (ρ x0)), (1, .ref (ρ x1)), (2, .ref (ρ x2)), (3, .int y)] → W p l e (RM 2 46 h0 hE) s m args below meth c H locs c1 s1 Q (F0 m 53 ls [])) (ke : ∀ z : Unit, r = .inr z → ∀ (H : Heap) (locs : List Loc) (c1 s1 : Nat) (ls : Array Slot), Wd G ρ h0.length (sl h0) s.heap hB H locs c1 s1 → lv_has ls 6 [] → W p l e (RM 2 46 h0 hE) s m args below meth c H locs c1 s1 Q (F0 m 115 ls [])) : W p l e (RM 2 46 h0 hE) s m args below meth c H locs cells slots Q (F0 m 53 ls []) := by
  have hx := C.1
  have hb := C.2.1
  unfold fX3_relateSymbols_b53 at hf
  refine lv_iload_n hx hb dX3_relateSymbols_53 rfl (lv_at hl 3 rfl) ?_
  refine lv_aload_n hx hb dX3_relateSymbols_54 rfl (lv_at hl 0 rfl) ?_
  obtain ⟨v15, e15, hf⟩ := pb_rd (rd_gI _ _ _) hf
  refine r_gI C hW e15 flX3_23 rfl dX3_relateSymbols_55 ?_
  refine lv_icmp_ge (tgt := 115) hx hb dX3_relateSymbols_58 (by decide) (fun c16 => ?_) (fun c16 => ?_)
  · rw [if_pos c16] at hf
    obtain ⟨rfl, rfl⟩ := pp_some hf
    exact ke _ rfl _ _ _ _ _ hW (lv_sub hl [] rfl)
  · rw [if_neg c16] at hf
    refine lv_aload_n hx hb dX3_relateSymbols_61 rfl (lv_at hl 0 rfl) ?_
    obtain ⟨v17, e17, hf⟩ := pb_rd (rd_gA _ _ _) hf
    refine r_gA C hW e17 flX3_35 rfl dX3_relateSymbols_62 ?_
    refine lv_iload_n hx hb dX3_relateSymbols_65 rfl (lv_at hl 3 rfl) ?_
    obtain ⟨v18, e18, hf⟩ := pb_rd (rd_lI _ _ _) hf
    refine r_iald C hW e18 dX3_relateSymbols_66 ?_
    refine lv_istore (lv' := [(4, .int v18), (0, .ref (ρ x0)), (1, .ref (ρ x1)), (2, .ref (ρ x2)), (3, .int x3)]) hx hb dX3_relateSymbols_67 hl (by decide) rfl (fun ls hl => ?_)
    refine lv_aload_n hx hb dX3_relateSymbols_69 rfl (lv_at hl 1 rfl) ?_
    obtain ⟨v19, e19, hf⟩ := pb_rd (rd_gA _ _ _) hf
    refine r_gA C hW e19 flX3_35 rfl dX3_relateSymbols_70 ?_
    refine lv_iload hx hb dX3_relateSymbols_73 (lv_at hl 0 rfl) ?_
    obtain ⟨v20, e20, hf⟩ := pb_rd (rd_lI _ _ _) hf
    refine r_iald C hW e20 dX3_relateSymbols_75 ?_
    refine lv_istore (lv' := [(5, .int v20), (4, .int v18), (0, .ref (ρ x0)), (1, .ref (ρ x1)), (2, .ref (ρ x2)), (3, .int x3)]) hx hb dX3_relateSymbols_76 hl (by decide) rfl (fun ls hl => ?_)
    refine lv_iload_n hx hb dX3_relateSymbols_78 rfl (lv_at hl 5 rfl) ?_
    refine lv_iload hx hb dX3_relateSymbols_79 (lv_at hl 1 rfl) ?_
    refine lv_icmp_gt (tgt := 109) hx hb dX3_relateSymbols_81 (by decide) (fun c21 => ?_) (fun c21 => ?_)
    · rw [if_pos c21] at hf
      refine lv_iinc (v := (x3 + 1)) (lv' := [(3, .int (x3 + 1)), (5, .int v20), (4, .int v18), (0, .ref (ρ x0)), (1, .ref (ρ x1)), (2, .ref (ρ x2))]) hx hb dX3_relateSymbols_109 hl (k := 5) rfl rfl (by decide) rfl (fun ls hl => ?_)
      refine lv_goto (tgt := 53) hx hb dX3_relateSymbols_112 (by decide) ?_
      obtain ⟨rfl, rfl⟩ := pp_some hf
      exact kc _ rfl _ _ _ _ _ hW (lv_sub hl [3, 4, 5, 0] rfl)
    · rw [if_neg c21] at hf
      refine lv_iload_n hx hb dX3_relateSymbols_84 rfl (lv_at hl 5 rfl) ?_
      refine lv_iload hx hb dX3_relateSymbols_85 (lv_at hl 0 rfl) ?_
      refine lv_icmp_gt (tgt := 109) hx hb dX3_relateSymbols_87 (by decide) (fun c22 => ?_) (fun c22 => ?_)
      · rw [if_pos c22] at hf
        refine lv_iinc (v := (x3 + 1)) (lv' := [(3, .int (x3 + 1)), (5, .int v20), (4, .int v18), (0, .ref (ρ x0)), (1, .ref (ρ x1)), (2, .ref (ρ x2))]) hx hb dX3_relateSymbols_109 hl (k := 5) rfl rfl (by decide) rfl (fun ls hl => ?_)
        refine lv_goto (tgt := 53) hx hb dX3_relateSymbols_112 (by decide) ?_
        obtain ⟨rfl, rfl⟩ := pp_some hf
        exact kc _ rfl _ _ _ _ _ hW (lv_sub hl [3, 4, 5, 0] rfl)
      · rw [if_neg c22] at hf
        refine lv_aload_n hx hb dX3_relateSymbols_90 rfl (lv_at hl 4 rfl) ?_
        refine lv_iload_n hx hb dX3_relateSymbols_91 rfl (lv_at hl 5 rfl) ?_
        refine lv_iconst (v := 1) hx hb dX3_relateSymbols_92 (by decide) ?_
        obtain ⟨_, h23, e23, hf⟩ := pb_some hf
        refine r_iast C hW e23 dX3_relateSymbols_93 (fun H locs hW => ?_)
        refine lv_aload_n hx hb dX3_relateSymbols_94 rfl (lv_at hl 4 rfl) ?_
        refine lv_iload hx hb dX3_relateSymbols_95 (lv_at hl 1 rfl) ?_
        refine lv_iconst (v := 1) hx hb dX3_relateSymbols_97 (by decide) ?_
        obtain ⟨_, h24, e24, hf⟩ := pb_some hf
        refine r_iast C hW e24 dX3_relateSymbols_98 (fun H locs hW => ?_)
        refine lv_aload_n hx hb dX3_relateSymbols_99 rfl (lv_at hl 4 rfl) ?_
        refine lv_iload hx hb dX3_relateSymbols_100 (lv_at hl 0 rfl) ?_
        refine lv_iconst (v := 1) hx hb dX3_relateSymbols_102 (by decide) ?_
        obtain ⟨_, h25, e25, hf⟩ := pb_some hf
        refine r_iast C hW e25 dX3_relateSymbols_103 (fun H locs hW => ?_)
        refine lv_aload_n hx hb dX3_relateSymbols_104 rfl (lv_at hl 3 rfl) ?_
        refine lv_aload_n hx hb dX3_relateSymbols_105 rfl (lv_at hl 4 rfl) ?_
        obtain ⟨_, h26, e26, hf⟩ := pb_some hf
        obtain ⟨_, _, t27⟩ := tgX6_impose e26
        refine r_callv hW (pext e26) (run_V (b := x1) (As := [.ref (ρ x2)]) (rest := []) C hW (metX6_impose l G ρ e26) ⟨rfl, rfl⟩ kcX6_impose (tq q_86 rfl) kiX6_impose ksX6_impose knX6_impose kdX6_impose t27 rfl rfl ⟨Nat.le_of_ble_eq_true rfl, Nat.le_of_ble_eq_true rfl⟩ hl.1 (Nat.le_of_ble_eq_true rfl) (room_of hW (pext e26) ((pext hf).tr hX)) dX3_relateSymbols_106 rfl) (fun H locs c1 s1 hW => ?_)
        refine lv_iinc (v := (x3 + 1)) (lv' := [(3, .int (x3 + 1)), (5, .int v20), (4, .int v18), (0, .ref (ρ x0)), (1, .ref (ρ x1)), (2, .ref (ρ x2))]) hx hb dX3_relateSymbols_109 hl (k := 5) rfl rfl (by decide) rfl (fun ls hl => ?_)
        refine lv_goto (tgt := 53) hx hb dX3_relateSymbols_112 (by decide) ?_
        obtain ⟨rfl, rfl⟩ := pp_some hf
        exact kc _ rfl _ _ _ _ _ hW (lv_sub hl [3, 4, 5, 0] rfl)
set_option maxHeartbeats 4000000 in
theorem wX3_relateSymbols_L53 {p : Program} {l : Launch} {e : Env} {s : State} {m : MethodId} {args : Array Value} {below : List Frame} {meth : Method} {c : Code} {G : GG} {ρ : Nat → Nat} {h0 hE hB : PH} {Q : State → Prop} {x0 : Nat} {x1 : Nat} {x2 : Nat} (C : Cx G "PairSymbols$Level" cX3_relateSymbols 6 none "relateSymbols" p s m args meth c) {z : (Unit)} (n : Nat) : ∀ (x : Int32) {h : PH} {H : Heap} {locs : List Loc} {cells slots : Nat} {ls : Array Slot}, (plo (fX3_relateSymbols_B53 x0 x1 x2) n x).1 h = some (z, hB) → Ext hB hE → Wd G ρ h0.length (sl h0) s.heap h H locs cells slots → lv_has ls 6 [(0, .ref (ρ x0)), (1, .ref (ρ x1)), (2, .ref (ρ x2)), (3, .int x)] → (ke : ∀ (H : Heap) (locs : List Loc) (c1 s1 : Nat) (ls : Array Slot), Wd G ρ h0.length (sl h0) s.heap hB H locs c1 s1 → lv_has ls 6 [] → W p l e (RM 2 46 h0 hE) s m args below meth c H locs c1 s1 Q (F0 m 115 ls [])) → W p l e (RM 2 46 h0 hE) s m args below meth c H locs cells slots Q (F0 m 53 ls []) := by
  induction n with
  | zero =>
    intro x h H locs cells slots ls hf
    rw [plo_0] at hf
    exact (pf_no hf).elim
  | succ n ih =>
    intro x h H locs cells slots ls hf hX hW hl ke
    rw [plo_s] at hf
    obtain ⟨r, h1, e1, hf⟩ := pb_some hf
    unfold fX3_relateSymbols_B53 at e1
    rw [frI_eq] at e1
    refine wX3_relateSymbols_B53 C e1 ((pext hf).tr hX) hW hl (fun y hr H locs c1 s1 ls hW hl => ?_) (fun y hr H locs c1 s1 ls hW hl => ?_)
    · subst hr
      exact ih y hf hX hW hl ke
    · subst hr
      obtain ⟨rfl, rfl⟩ := pp_some hf
      exact ke H locs c1 s1 ls hW hl
set_option maxHeartbeats 4000000 in
set_option maxRecDepth 100000 in
theorem metX3_relateSymbols (l : Launch) (G : GG) (ρ : Nat → Nat) {z : Nat} {x0 : Nat} {x1 : Nat} {h hE : PH} {v : Unit} (hf : (fX3_relateSymbols x0 x1).1 h = some (v, hE)) : Met l yX3_relateSymbols (wsY yX3_relateSymbols cX3_relateSymbols 6 none) (RM 2 46 h hE) (va_Pc [.ref (ρ x0), .ref (ρ x1)] (PcB G ρ h z)) (QV G ρ hE h.length z) (DC h hE) (DS h hE) (Af ρ h.length z) := by
  refine met_start (by decide) (Nat.le_of_ble_eq_true rfl) ?_
  intro p e s m below meth c ls hz C hW hl
  subst hz
  have C : Cx G "PairSymbols$Level" cX3_relateSymbols 6 none "relateSymbols" p s m _ meth c := C
  have hx := C.1
  have hb := C.2.1
  have hX : Ext hE hE := Ext.rf hE
  have hl : lv_has ls 6 [(0, .ref (ρ x0)), (1, .ref (ρ x1))] := hl
  have hW : Wd G ρ h.length (sl h) s.heap h s.heap [] 0 0 := hW
  unfold fX3_relateSymbols at hf
  obtain ⟨_, e0, hf⟩ := pb_rd (rd_chk _ _) hf
  refine lv_aload_n hx hb dX3_relateSymbols_0 rfl (lv_at hl 0 rfl) ?_
  obtain ⟨v1, e1, hf⟩ := pb_rd (rd_gI _ _ _) hf
  refine r_gI C hW e1 flX3_23 rfl dX3_relateSymbols_1 ?_
  obtain ⟨v2, h2, e2, hf⟩ := pb_some hf
  refine r_newa (t0 := 1) C hW .int e2 (by decide) rfl rfl (fun _ => rfl) (by decide) (fun q => q) (tq q_80 rfl) (room_of hW (pext e2) ((pext hf).tr hX)) dX3_relateSymbols_4 (fun H c1 s1 hW => ?_)
  refine lv_astore_n (lv' := [(2, .ref (ρ v2)), (0, .ref (ρ x0)), (1, .ref (ρ x1))]) hx hb dX3_relateSymbols_6 rfl hl (by decide) rfl (fun ls hl => ?_)
  refine lv_iconst (v := 0) hx hb dX3_relateSymbols_7 (by decide) ?_
  refine lv_istore_n (lv' := [(3, .int (0 : Int32)), (2, .ref (ρ v2)), (0, .ref (ρ x0)), (1, .ref (ρ x1))]) hx hb dX3_relateSymbols_8 rfl hl (by decide) rfl (fun ls hl => ?_)
  obtain ⟨z14, h14, e14, hf⟩ := pb_some hf
  refine wX3_relateSymbols_L9 C fu _ e14 ((pext hf).tr hX) hW (lv_sub hl [2, 3, 1, 0] rfl) (fun H locs c1 s1 ls hW hl => ?_)
  refine lv_iconst (v := 0) hx hb dX3_relateSymbols_51 (by decide) ?_
  refine lv_istore_n (lv' := [(3, .int (0 : Int32)), (0, .ref (ρ x0)), (1, .ref (ρ x1)), (2, .ref (ρ v2))]) hx hb dX3_relateSymbols_52 rfl hl (by decide) rfl (fun ls hl => ?_)
  obtain ⟨z28, h28, e28, hf⟩ := pb_some hf
  refine wX3_relateSymbols_L53 C fu _ e28 ((pext hf).tr hX) hW (lv_sub hl [1, 2, 3, 0] rfl) (fun H locs c1 s1 ls hW hl => ?_)
  obtain ⟨rfl, rfl⟩ := pp_some hf
  exact r_vret C hW dX3_relateSymbols_115

theorem dX6_freeColumns_0 : decode cX6_freeColumns 0 = .ok (.aload_n 0, 1) := by decide +kernel
theorem dX6_freeColumns_1 : decode cX6_freeColumns 1 = .ok (.getfield 7, 3) := by decide +kernel
theorem dX6_freeColumns_4 : decode cX6_freeColumns 4 = .ok (.aload_n 0, 1) := by decide +kernel
theorem dX6_freeColumns_5 : decode cX6_freeColumns 5 = .ok (.getfield 36, 3) := by decide +kernel
theorem dX6_freeColumns_8 : decode cX6_freeColumns 8 = .ok (.isub, 1) := by decide +kernel
theorem dX6_freeColumns_9 : decode cX6_freeColumns 9 = .ok (.newarray .int, 2) := by decide +kernel
theorem dX6_freeColumns_11 : decode cX6_freeColumns 11 = .ok (.astore_n 1, 1) := by decide +kernel
theorem dX6_freeColumns_12 : decode cX6_freeColumns 12 = .ok (.iconst 0, 1) := by decide +kernel
theorem dX6_freeColumns_13 : decode cX6_freeColumns 13 = .ok (.istore_n 2, 1) := by decide +kernel
theorem dX6_freeColumns_14 : decode cX6_freeColumns 14 = .ok (.iconst 0, 1) := by decide +kernel
theorem dX6_freeColumns_15 : decode cX6_freeColumns 15 = .ok (.istore_n 3, 1) := by decide +kernel
theorem dX6_freeColumns_16 : decode cX6_freeColumns 16 = .ok (.iload_n 3, 1) := by decide +kernel
theorem dX6_freeColumns_17 : decode cX6_freeColumns 17 = .ok (.aload_n 0, 1) := by decide +kernel
theorem dX6_freeColumns_18 : decode cX6_freeColumns 18 = .ok (.getfield 7, 3) := by decide +kernel
theorem dX6_freeColumns_21 : decode cX6_freeColumns 21 = .ok (.if_icmp .ge 31, 3) := by decide +kernel
theorem dX6_freeColumns_24 : decode cX6_freeColumns 24 = .ok (.iload_n 2, 1) := by decide +kernel
theorem dX6_freeColumns_25 : decode cX6_freeColumns 25 = .ok (.aload_n 1, 1) := by decide +kernel
theorem dX6_freeColumns_26 : decode cX6_freeColumns 26 = .ok (.arraylength, 1) := by decide +kernel
theorem dX6_freeColumns_27 : decode cX6_freeColumns 27 = .ok (.if_icmp .ge 25, 3) := by decide +kernel
theorem dX6_freeColumns_30 : decode cX6_freeColumns 30 = .ok (.aload_n 0, 1) := by decide +kernel
theorem dX6_freeColumns_31 : decode cX6_freeColumns 31 = .ok (.getfield 13, 3) := by decide +kernel
theorem dX6_freeColumns_34 : decode cX6_freeColumns 34 = .ok (.iload_n 3, 1) := by decide +kernel
theorem dX6_freeColumns_35 : decode cX6_freeColumns 35 = .ok (.baload, 1) := by decide +kernel
theorem dX6_freeColumns_36 : decode cX6_freeColumns 36 = .ok (.ifCond .ne 10, 3) := by decide +kernel
theorem dX6_freeColumns_39 : decode cX6_freeColumns 39 = .ok (.aload_n 1, 1) := by decide +kernel
theorem dX6_freeColumns_40 : decode cX6_freeColumns 40 = .ok (.iload_n 2, 1) := by decide +kernel
theorem dX6_freeColumns_41 : decode cX6_freeColumns 41 = .ok (.iload_n 3, 1) := by decide +kernel
theorem dX6_freeColumns_42 : decode cX6_freeColumns 42 = .ok (.iastore, 1) := by decide +kernel
theorem dX6_freeColumns_43 : decode cX6_freeColumns 43 = .ok (.iinc 2 1, 3) := by decide +kernel
theorem dX6_freeColumns_46 : decode cX6_freeColumns 46 = .ok (.iinc 3 1, 3) := by decide +kernel
theorem dX6_freeColumns_49 : decode cX6_freeColumns 49 = .ok (.goto (-33), 3) := by decide +kernel
theorem dX6_freeColumns_52 : decode cX6_freeColumns 52 = .ok (.aload_n 1, 1) := by decide +kernel
theorem dX6_freeColumns_53 : decode cX6_freeColumns 53 = .ok (.areturn, 1) := by decide +kernel
theorem kcX6_freeColumns : Cond.code yX6_freeColumns cX6_freeColumns 4 (some (.array .int)) ∈ tb := tq q_101 rfl
theorem knX6_freeColumns : Cond.initialized yX6_freeColumns.cls ∈ tb := (tq q_4 rfl)
theorem kdX6_freeColumns : yX6_freeColumns.cls ≠ "java/lang/invoke/MethodHandle" ∧ yX6_freeColumns.cls ≠ "java/lang/invoke/VarHandle" ∧ (parseMethodDescriptor yX6_freeColumns.desc).map (fun d => d.parameters.length) = some 0 := ⟨by decide +kernel, by decide +kernel, by decide +kernel⟩
theorem kiX6_freeColumns : Cond.instanceMethod yX6_freeColumns ∈ tb := (tq q_99 rfl)
theorem ksX6_freeColumns : Cond.selects yX6_freeColumns.cls yX6_freeColumns yX6_freeColumns ∈ tb := (tq q_100 rfl)
theorem tgX6_freeColumns {x0 : Nat} {h : PH} {r : Nat × PH} (hf : (fX6_freeColumns x0).1 h = some r) : ∃ n x, nth h x0 = some (5, n, x) := by
  obtain ⟨_, _, e, _⟩ := pb_some hf
  exact (chk_some e).2
set_option maxHeartbeats 4000000 in
set_option maxRecDepth 100000 in
theorem wX6_freeColumns_B16 {p : Program} {l : Launch} {e : Env} {s : State} {m : MethodId} {args : Array Value} {below : List Frame} {meth : Method} {c : Code} {G : GG} {ρ : Nat → Nat} {h0 hE hB : PH} {Q : State → Prop} {x0 : Nat} {x1 : Nat} (C : Cx G "PairSymbols$Relations" cX6_freeColumns 4 (some (.array .int)) "freeColumns" p s m args meth c) {x2 : Int32} {x3 : Int32} {h : PH} {H : Heap} {locs : List Loc} {cells slots : Nat} {ls : Array Slot} {r : (Int32 × Int32) ⊕ (Unit)} (hf : (fX6_freeColumns_b16 x0 x1 x2 x3).1 h = some (r, hB)) (hX : Ext hB hE) (hW : Wd G ρ h0.length (sl h0) s.heap h H locs cells slots) (hl : lv_has ls 4 [(0, .ref (ρ x0)), (1, .ref (ρ x1)), (2, .int x2), (3, .int x3)]) (kc : ∀ y : Int32 × Int32, r = .inl y → ∀ (H : Heap) (locs : List Loc) (c1 s1 : Nat) (ls : Array Slot), Wd G ρ h0.length (sl h0) s.heap hB H locs c1 s1 → lv_has ls 4 [(0, .ref (ρ x0)), (1, .ref (ρ x1)), (2, .int y.1), (3, .int y.2)] → W p l e (RM 0 0 h0 hE) s m args below meth c H locs c1 s1 Q (F0 m 16 ls [])) (ke : ∀ z : Unit, r = .inr z → ∀ (H : Heap) (locs : List Loc) (c1 s1 : Nat) (ls : Array Slot), Wd G ρ h0.length (sl h0) s.heap hB H locs c1 s1 → lv_has ls 4 [(1, .ref (ρ x1))] → W p l e (RM 0 0 h0 hE) s m args below meth c H locs c1 s1 Q (F0 m 52 ls [])) : W p l e (RM 0 0 h0 hE) s m args below meth c H locs cells slots Q (F0 m 16 ls []) := by
  have hx := C.1
  have hb := C.2.1
  unfold fX6_freeColumns_b16 at hf
  refine lv_iload_n hx hb dX6_freeColumns_16 rfl (lv_at hl 3 rfl) ?_
  refine lv_aload_n hx hb dX6_freeColumns_17 rfl (lv_at hl 0 rfl) ?_
  obtain ⟨v4, e4, hf⟩ := pb_rd (rd_gI _ _ _) hf
  refine r_gI C hW e4 flX6_7 rfl dX6_freeColumns_18 ?_
  refine lv_icmp_ge (tgt := 52) hx hb dX6_freeColumns_21 (by decide) (fun c5 => ?_) (fun c5 => ?_)
  · rw [if_pos c5] at hf
    obtain ⟨rfl, rfl⟩ := pp_some hf
    exact ke _ rfl _ _ _ _ _ hW (lv_sub hl [1] rfl)
  · rw [if_neg c5] at hf
    refine lv_iload_n hx hb dX6_freeColumns_24 rfl (lv_at hl 2 rfl) ?_
    refine lv_aload_n hx hb dX6_freeColumns_25 rfl (lv_at hl 1 rfl) ?_
    obtain ⟨v6, e6, hf⟩ := pb_rd (rd_aln _) hf
    refine r_alen C hW e6 dX6_freeColumns_26 ?_
    refine lv_icmp_ge (tgt := 52) hx hb dX6_freeColumns_27 (by decide) (fun c7 => ?_) (fun c7 => ?_)
    · rw [if_pos c7] at hf
      obtain ⟨rfl, rfl⟩ := pp_some hf
      exact ke _ rfl _ _ _ _ _ hW (lv_sub hl [1] rfl)
    · rw [if_neg c7] at hf
      refine lv_aload_n hx hb dX6_freeColumns_30 rfl (lv_at hl 0 rfl) ?_
      obtain ⟨v8, e8, hf⟩ := pb_rd (rd_gA _ _ _) hf
      refine r_gA C hW e8 flX6_13 rfl dX6_freeColumns_31 ?_
      refine lv_iload_n hx hb dX6_freeColumns_34 rfl (lv_at hl 3 rfl) ?_
      obtain ⟨v9, e9, hf⟩ := pb_rd (rd_lI _ _ _) hf
      refine r_zald C hW e9 dX6_freeColumns_35 ?_
      refine lv_if_ne (tgt := 46) hx hb dX6_freeColumns_36 (by decide) (fun c10 => ?_) (fun c10 => ?_)
      · rw [if_neg c10] at hf
        refine lv_iinc (v := (x3 + 1)) (lv' := [(3, .int (x3 + 1)), (0, .ref (ρ x0)), (1, .ref (ρ x1)), (2, .int x2)]) hx hb dX6_freeColumns_46 hl (k := 3) rfl rfl (by decide) rfl (fun ls hl => ?_)
        refine lv_goto (tgt := 16) hx hb dX6_freeColumns_49 (by decide) ?_
        obtain ⟨rfl, rfl⟩ := pp_some hf
        exact kc _ rfl _ _ _ _ _ hW (lv_sub hl [1, 2, 3, 0] rfl)
      · rw [if_pos c10] at hf
        refine lv_aload_n hx hb dX6_freeColumns_39 rfl (lv_at hl 1 rfl) ?_
        refine lv_iload_n hx hb dX6_freeColumns_40 rfl (lv_at hl 2 rfl) ?_
        refine lv_iload_n hx hb dX6_freeColumns_41 rfl (lv_at hl 3 rfl) ?_
        obtain ⟨_, h11, e11, hf⟩ := pb_some hf
        refine r_iast C hW e11 dX6_freeColumns_42 (fun H locs hW => ?_)
        refine lv_iinc (v := (x2 + 1)) (lv' := [(2, .int (x2 + 1)), (0, .ref (ρ x0)), (1, .ref (ρ x1)), (3, .int x3)]) hx hb dX6_freeColumns_43 hl (k := 2) rfl rfl (by decide) rfl (fun ls hl => ?_)
        refine lv_iinc (v := (x3 + 1)) (lv' := [(3, .int (x3 + 1)), (2, .int (x2 + 1)), (0, .ref (ρ x0)), (1, .ref (ρ x1))]) hx hb dX6_freeColumns_46 hl (k := 3) rfl rfl (by decide) rfl (fun ls hl => ?_)
        refine lv_goto (tgt := 16) hx hb dX6_freeColumns_49 (by decide) ?_
        obtain ⟨rfl, rfl⟩ := pp_some hf
        exact kc _ rfl _ _ _ _ _ hW (lv_sub hl [2, 3, 1, 0] rfl)
set_option maxHeartbeats 4000000 in
theorem wX6_freeColumns_L16 {p : Program} {l : Launch} {e : Env} {s : State} {m : MethodId} {args : Array Value} {below : List Frame} {meth : Method} {c : Code} {G : GG} {ρ : Nat → Nat} {h0 hE hB : PH} {Q : State → Prop} {x0 : Nat} {x1 : Nat} (C : Cx G "PairSymbols$Relations" cX6_freeColumns 4 (some (.array .int)) "freeColumns" p s m args meth c) {z : (Unit)} (n : Nat) : ∀ (x : Int32 × Int32) {h : PH} {H : Heap} {locs : List Loc} {cells slots : Nat} {ls : Array Slot}, (plo (fX6_freeColumns_B16 x0 x1) n x).1 h = some (z, hB) → Ext hB hE → Wd G ρ h0.length (sl h0) s.heap h H locs cells slots → lv_has ls 4 [(0, .ref (ρ x0)), (1, .ref (ρ x1)), (2, .int x.1), (3, .int x.2)] → (ke : ∀ (H : Heap) (locs : List Loc) (c1 s1 : Nat) (ls : Array Slot), Wd G ρ h0.length (sl h0) s.heap hB H locs c1 s1 → lv_has ls 4 [(1, .ref (ρ x1))] → W p l e (RM 0 0 h0 hE) s m args below meth c H locs c1 s1 Q (F0 m 52 ls [])) → W p l e (RM 0 0 h0 hE) s m args below meth c H locs cells slots Q (F0 m 16 ls []) := by
  induction n with
  | zero =>
    intro x h H locs cells slots ls hf
    rw [plo_0] at hf
    exact (pf_no hf).elim
  | succ n ih =>
    intro x h H locs cells slots ls hf hX hW hl ke
    rw [plo_s] at hf
    obtain ⟨r, h1, e1, hf⟩ := pb_some hf
    unfold fX6_freeColumns_B16 at e1
    rw [frI_eq, frI_eq] at e1
    refine wX6_freeColumns_B16 C e1 ((pext hf).tr hX) hW hl (fun y hr H locs c1 s1 ls hW hl => ?_) (fun y hr H locs c1 s1 ls hW hl => ?_)
    · subst hr
      exact ih y hf hX hW hl ke
    · subst hr
      obtain ⟨rfl, rfl⟩ := pp_some hf
      exact ke H locs c1 s1 ls hW hl
set_option maxHeartbeats 4000000 in
set_option maxRecDepth 100000 in
theorem metX6_freeColumns (l : Launch) (G : GG) (ρ : Nat → Nat) {z : Nat} {x0 : Nat} {h hE : PH} {v : Nat} (hf : (fX6_freeColumns x0).1 h = some (v, hE)) : Met l yX6_freeColumns (wsY yX6_freeColumns cX6_freeColumns 4 (some (.array .int))) (RM 0 0 h hE) (va_Pc [.ref (ρ x0)] (PcB G ρ h z)) (QA G ρ v hE h.length z) (DC h hE) (DS h hE) (Af ρ h.length z) := by
  refine met_start (by decide) (Nat.le_of_ble_eq_true rfl) ?_
  intro p e s m below meth c ls hz C hW hl
  subst hz
  have C : Cx G "PairSymbols$Relations" cX6_freeColumns 4 (some (.array .int)) "freeColumns" p s m _ meth c := C
  have hx := C.1
  have hb := C.2.1
  have hX : Ext hE hE := Ext.rf hE
  have hl : lv_has ls 4 [(0, .ref (ρ x0))] := hl
  have hW : Wd G ρ h.length (sl h) s.heap h s.heap [] 0 0 := hW
  unfold fX6_freeColumns at hf
  obtain ⟨_, e0, hf⟩ := pb_rd (rd_chk _ _) hf
  refine lv_aload_n hx hb dX6_freeColumns_0 rfl (lv_at hl 0 rfl) ?_
  obtain ⟨v1, e1, hf⟩ := pb_rd (rd_gI _ _ _) hf
  refine r_gI C hW e1 flX6_7 rfl dX6_freeColumns_1 ?_
  refine lv_aload_n hx hb dX6_freeColumns_4 rfl (lv_at hl 0 rfl) ?_
  obtain ⟨v2, e2, hf⟩ := pb_rd (rd_gI _ _ _) hf
  refine r_gI C hW e2 flX6_36 rfl dX6_freeColumns_5 ?_
  refine lv_isub hx hb dX6_freeColumns_8 ?_
  obtain ⟨v3, h3, e3, hf⟩ := pb_some hf
  refine r_newa (t0 := 1) C hW .int e3 (by decide) rfl rfl (fun _ => rfl) (by decide) (fun q => q) (tq q_80 rfl) (room_of hW (pext e3) ((pext hf).tr hX)) dX6_freeColumns_9 (fun H c1 s1 hW => ?_)
  refine lv_astore_n (lv' := [(1, .ref (ρ v3)), (0, .ref (ρ x0))]) hx hb dX6_freeColumns_11 rfl hl (by decide) rfl (fun ls hl => ?_)
  refine lv_iconst (v := 0) hx hb dX6_freeColumns_12 (by decide) ?_
  refine lv_istore_n (lv' := [(2, .int (0 : Int32)), (1, .ref (ρ v3)), (0, .ref (ρ x0))]) hx hb dX6_freeColumns_13 rfl hl (by decide) rfl (fun ls hl => ?_)
  refine lv_iconst (v := 0) hx hb dX6_freeColumns_14 (by decide) ?_
  refine lv_istore_n (lv' := [(3, .int (0 : Int32)), (2, .int (0 : Int32)), (1, .ref (ρ v3)), (0, .ref (ρ x0))]) hx hb dX6_freeColumns_15 rfl hl (by decide) rfl (fun ls hl => ?_)
  obtain ⟨z12, h12, e12, hf⟩ := pb_some hf
  refine wX6_freeColumns_L16 C fu _ e12 ((pext hf).tr hX) hW (lv_sub hl [3, 2, 1, 0] rfl) (fun H locs c1 s1 ls hW hl => ?_)
  refine lv_aload_n hx hb dX6_freeColumns_52 rfl (lv_at hl 0 rfl) ?_
  obtain ⟨rfl, rfl⟩ := pp_some hf
  exact r_aret C hW (Or.inr ⟨_, rfl⟩) dX6_freeColumns_53

theorem dX6_coordinatesIn_0 : decode cX6_coordinatesIn 0 = .ok (.aload_n 0, 1) := by decide +kernel
theorem dX6_coordinatesIn_1 : decode cX6_coordinatesIn 1 = .ok (.getfield 7, 3) := by decide +kernel
theorem dX6_coordinatesIn_4 : decode cX6_coordinatesIn 4 = .ok (.aload_n 1, 1) := by decide +kernel
theorem dX6_coordinatesIn_5 : decode cX6_coordinatesIn 5 = .ok (.arraylength, 1) := by decide +kernel
theorem dX6_coordinatesIn_6 : decode cX6_coordinatesIn 6 = .ok (.multianewarray 17 2, 4) := by decide +kernel
theorem dX6_coordinatesIn_10 : decode cX6_coordinatesIn 10 = .ok (.astore_n 2, 1) := by decide +kernel
theorem dX6_coordinatesIn_11 : decode cX6_coordinatesIn 11 = .ok (.iconst 0, 1) := by decide +kernel
theorem dX6_coordinatesIn_12 : decode cX6_coordinatesIn 12 = .ok (.istore_n 3, 1) := by decide +kernel
theorem dX6_coordinatesIn_13 : decode cX6_coordinatesIn 13 = .ok (.iload_n 3, 1) := by decide +kernel
theorem dX6_coordinatesIn_14 : decode cX6_coordinatesIn 14 = .ok (.aload_n 1, 1) := by decide +kernel
theorem dX6_coordinatesIn_15 : decode cX6_coordinatesIn 15 = .ok (.arraylength, 1) := by decide +kernel
theorem dX6_coordinatesIn_16 : decode cX6_coordinatesIn 16 = .ok (.if_icmp .ge 17, 3) := by decide +kernel
theorem dX6_coordinatesIn_19 : decode cX6_coordinatesIn 19 = .ok (.aload_n 2, 1) := by decide +kernel
theorem dX6_coordinatesIn_20 : decode cX6_coordinatesIn 20 = .ok (.aload_n 1, 1) := by decide +kernel
theorem dX6_coordinatesIn_21 : decode cX6_coordinatesIn 21 = .ok (.iload_n 3, 1) := by decide +kernel
theorem dX6_coordinatesIn_22 : decode cX6_coordinatesIn 22 = .ok (.iaload, 1) := by decide +kernel
theorem dX6_coordinatesIn_23 : decode cX6_coordinatesIn 23 = .ok (.aaload, 1) := by decide +kernel
theorem dX6_coordinatesIn_24 : decode cX6_coordinatesIn 24 = .ok (.iload_n 3, 1) := by decide +kernel
theorem dX6_coordinatesIn_25 : decode cX6_coordinatesIn 25 = .ok (.iconst 1, 1) := by decide +kernel
theorem dX6_coordinatesIn_26 : decode cX6_coordinatesIn 26 = .ok (.iastore, 1) := by decide +kernel
theorem dX6_coordinatesIn_27 : decode cX6_coordinatesIn 27 = .ok (.iinc 3 1, 3) := by decide +kernel
theorem dX6_coordinatesIn_30 : decode cX6_coordinatesIn 30 = .ok (.goto (-17), 3) := by decide +kernel
theorem dX6_coordinatesIn_33 : decode cX6_coordinatesIn 33 = .ok (.iconst 0, 1) := by decide +kernel
theorem dX6_coordinatesIn_34 : decode cX6_coordinatesIn 34 = .ok (.istore_n 3, 1) := by decide +kernel
theorem dX6_coordinatesIn_35 : decode cX6_coordinatesIn 35 = .ok (.iload_n 3, 1) := by decide +kernel
theorem dX6_coordinatesIn_36 : decode cX6_coordinatesIn 36 = .ok (.aload_n 0, 1) := by decide +kernel
theorem dX6_coordinatesIn_37 : decode cX6_coordinatesIn 37 = .ok (.getfield 7, 3) := by decide +kernel
theorem dX6_coordinatesIn_40 : decode cX6_coordinatesIn 40 = .ok (.if_icmp .ge 64, 3) := by decide +kernel
theorem dX6_coordinatesIn_43 : decode cX6_coordinatesIn 43 = .ok (.iconst 0, 1) := by decide +kernel
theorem dX6_coordinatesIn_44 : decode cX6_coordinatesIn 44 = .ok (.istore 4, 2) := by decide +kernel
theorem dX6_coordinatesIn_46 : decode cX6_coordinatesIn 46 = .ok (.aload_n 0, 1) := by decide +kernel
theorem dX6_coordinatesIn_47 : decode cX6_coordinatesIn 47 = .ok (.getfield 13, 3) := by decide +kernel
theorem dX6_coordinatesIn_50 : decode cX6_coordinatesIn 50 = .ok (.iload_n 3, 1) := by decide +kernel
theorem dX6_coordinatesIn_51 : decode cX6_coordinatesIn 51 = .ok (.baload, 1) := by decide +kernel
theorem dX6_coordinatesIn_52 : decode cX6_coordinatesIn 52 = .ok (.ifCond .eq 46, 3) := by decide +kernel
theorem dX6_coordinatesIn_55 : decode cX6_coordinatesIn 55 = .ok (.iload 4, 2) := by decide +kernel
theorem dX6_coordinatesIn_57 : decode cX6_coordinatesIn 57 = .ok (.iload_n 3, 1) := by decide +kernel
theorem dX6_coordinatesIn_58 : decode cX6_coordinatesIn 58 = .ok (.if_icmp .ge 40, 3) := by decide +kernel
theorem dX6_coordinatesIn_61 : decode cX6_coordinatesIn 61 = .ok (.aload_n 0, 1) := by decide +kernel
theorem dX6_coordinatesIn_62 : decode cX6_coordinatesIn 62 = .ok (.getfield 19, 3) := by decide +kernel
theorem dX6_coordinatesIn_65 : decode cX6_coordinatesIn 65 = .ok (.iload_n 3, 1) := by decide +kernel
theorem dX6_coordinatesIn_66 : decode cX6_coordinatesIn 66 = .ok (.aaload, 1) := by decide +kernel
theorem dX6_coordinatesIn_67 : decode cX6_coordinatesIn 67 = .ok (.iload 4, 2) := by decide +kernel
theorem dX6_coordinatesIn_69 : decode cX6_coordinatesIn 69 = .ok (.iaload, 1) := by decide +kernel
theorem dX6_coordinatesIn_70 : decode cX6_coordinatesIn 70 = .ok (.ifCond .eq 22, 3) := by decide +kernel
theorem dX6_coordinatesIn_73 : decode cX6_coordinatesIn 73 = .ok (.aload_n 0, 1) := by decide +kernel
theorem dX6_coordinatesIn_74 : decode cX6_coordinatesIn 74 = .ok (.getfield 19, 3) := by decide +kernel
theorem dX6_coordinatesIn_77 : decode cX6_coordinatesIn 77 = .ok (.iload_n 3, 1) := by decide +kernel
theorem dX6_coordinatesIn_78 : decode cX6_coordinatesIn 78 = .ok (.aaload, 1) := by decide +kernel
theorem dX6_coordinatesIn_79 : decode cX6_coordinatesIn 79 = .ok (.iload 4, 2) := by decide +kernel
theorem dX6_coordinatesIn_81 : decode cX6_coordinatesIn 81 = .ok (.iaload, 1) := by decide +kernel
theorem dX6_coordinatesIn_82 : decode cX6_coordinatesIn 82 = .ok (.aload_n 2, 1) := by decide +kernel
theorem dX6_coordinatesIn_83 : decode cX6_coordinatesIn 83 = .ok (.iload 4, 2) := by decide +kernel
theorem dX6_coordinatesIn_85 : decode cX6_coordinatesIn 85 = .ok (.aaload, 1) := by decide +kernel
theorem dX6_coordinatesIn_86 : decode cX6_coordinatesIn 86 = .ok (.aload_n 2, 1) := by decide +kernel
theorem dX6_coordinatesIn_87 : decode cX6_coordinatesIn 87 = .ok (.iload_n 3, 1) := by decide +kernel
theorem dX6_coordinatesIn_88 : decode cX6_coordinatesIn 88 = .ok (.aaload, 1) := by decide +kernel
theorem dX6_coordinatesIn_89 : decode cX6_coordinatesIn 89 = .ok (.invokestatic 26, 3) := by decide +kernel
theorem dX6_coordinatesIn_92 : decode cX6_coordinatesIn 92 = .ok (.iinc 4 1, 3) := by decide +kernel
theorem dX6_coordinatesIn_95 : decode cX6_coordinatesIn 95 = .ok (.goto (-49), 3) := by decide +kernel
theorem dX6_coordinatesIn_98 : decode cX6_coordinatesIn 98 = .ok (.iinc 3 1, 3) := by decide +kernel
theorem dX6_coordinatesIn_101 : decode cX6_coordinatesIn 101 = .ok (.goto (-66), 3) := by decide +kernel
theorem dX6_coordinatesIn_104 : decode cX6_coordinatesIn 104 = .ok (.aload_n 2, 1) := by decide +kernel
theorem dX6_coordinatesIn_105 : decode cX6_coordinatesIn 105 = .ok (.areturn, 1) := by decide +kernel
theorem kcX6_coordinatesIn : Cond.code yX6_coordinatesIn cX6_coordinatesIn 5 (some (.array (.array .int))) ∈ tb := tq q_105 rfl
theorem knX6_coordinatesIn : Cond.initialized yX6_coordinatesIn.cls ∈ tb := (tq q_4 rfl)
theorem kdX6_coordinatesIn : yX6_coordinatesIn.cls ≠ "java/lang/invoke/MethodHandle" ∧ yX6_coordinatesIn.cls ≠ "java/lang/invoke/VarHandle" ∧ (parseMethodDescriptor yX6_coordinatesIn.desc).map (fun d => d.parameters.length) = some 1 := ⟨by decide +kernel, by decide +kernel, by decide +kernel⟩
theorem kiX6_coordinatesIn : Cond.instanceMethod yX6_coordinatesIn ∈ tb := (tq q_103 rfl)
theorem ksX6_coordinatesIn : Cond.selects yX6_coordinatesIn.cls yX6_coordinatesIn yX6_coordinatesIn ∈ tb := (tq q_104 rfl)
theorem tgX6_coordinatesIn {x0 : Nat} {x1 : Nat} {h : PH} {r : Nat × PH} (hf : (fX6_coordinatesIn x0 x1).1 h = some r) : ∃ n x, nth h x0 = some (5, n, x) := by
  obtain ⟨_, _, e, _⟩ := pb_some hf
  exact (chk_some e).2
set_option maxHeartbeats 4000000 in
set_option maxRecDepth 100000 in
theorem wX6_coordinatesIn_B13 {p : Program} {l : Launch} {e : Env} {s : State} {m : MethodId} {args : Array Value} {below : List Frame} {meth : Method} {c : Code} {G : GG} {ρ : Nat → Nat} {h0 hE hB : PH} {Q : State → Prop} {x0 : Nat} {x1 : Nat} {x2 : Nat} (C : Cx G "PairSymbols$Relations" cX6_coordinatesIn 5 (some (.array (.array .int))) "coordinatesIn" p s m args meth c) {x3 : Int32} {h : PH} {H : Heap} {locs : List Loc} {cells slots : Nat} {ls : Array Slot} {r : (Int32) ⊕ (Unit)} (hf : (fX6_coordinatesIn_b13 x0 x1 x2 x3).1 h = some (r, hB)) (hX : Ext hB hE) (hW : Wd G ρ h0.length (sl h0) s.heap h H locs cells slots) (hl : lv_has ls 5 [(0, .ref (ρ x0)), (1, .ref (ρ x1)), (2, .ref (ρ x2)), (3, .int x3)]) (kc : ∀ y : Int32, r = .inl y → ∀ (H : Heap) (locs : List Loc) (c1 s1 : Nat) (ls : Array Slot), Wd G ρ h0.length (sl h0) s.heap hB H locs c1 s1 → lv_has ls 5 [(0, .ref (ρ x0)), (1, .ref (ρ x1)), (2, .ref (ρ x2)), (3, .int y)] → W p l e (RM 1 23 h0 hE) s m args below meth c H locs c1 s1 Q (F0 m 13 ls [])) (ke : ∀ z : Unit, r = .inr z → ∀ (H : Heap) (locs : List Loc) (c1 s1 : Nat) (ls : Array Slot), Wd G ρ h0.length (sl h0) s.heap hB H locs c1 s1 → lv_has ls 5 [(0, .ref (ρ x0)), (2, .ref (ρ x2))] → W p l e (RM 1 23 h0 hE) s m args below meth c H locs c1 s1 Q (F0 m 33 ls [])) : W p l e (RM 1 23 h0 hE) s m args below meth c H locs cells slots Q (F0 m 13 ls []) := by
  have hx := C.1
  have hb := C.2.1
  unfold fX6_coordinatesIn_b13 at hf
  refine lv_iload_n hx hb dX6_coordinatesIn_13 rfl (lv_at hl 3 rfl) ?_
  refine lv_aload_n hx hb dX6_coordinatesIn_14 rfl (lv_at hl 1 rfl) ?_
  obtain ⟨v4, e4, hf⟩ := pb_rd (rd_aln _) hf
  refine r_alen C hW e4 dX6_coordinatesIn_15 ?_
  refine lv_icmp_ge (tgt := 33) hx hb dX6_coordinatesIn_16 (by decide) (fun c5 => ?_) (fun c5 => ?_)
  · rw [if_pos c5] at hf
    obtain ⟨rfl, rfl⟩ := pp_some hf
    exact ke _ rfl _ _ _ _ _ hW (lv_sub hl [0, 2] rfl)
  · rw [if_neg c5] at hf
    refine lv_aload_n hx hb dX6_coordinatesIn_19 rfl (lv_at hl 2 rfl) ?_
    refine lv_aload_n hx hb dX6_coordinatesIn_20 rfl (lv_at hl 1 rfl) ?_
    refine lv_iload_n hx hb dX6_coordinatesIn_21 rfl (lv_at hl 3 rfl) ?_
    obtain ⟨v6, e6, hf⟩ := pb_rd (rd_lI _ _ _) hf
    refine r_iald C hW e6 dX6_coordinatesIn_22 ?_
    obtain ⟨v7, e7, hf⟩ := pb_rd (rd_lA _ _ _) hf
    refine r_aald C hW e7 (by decide) (by decide) dX6_coordinatesIn_23 ?_
    refine lv_iload_n hx hb dX6_coordinatesIn_24 rfl (lv_at hl 3 rfl) ?_
    refine lv_iconst (v := 1) hx hb dX6_coordinatesIn_25 (by decide) ?_
    obtain ⟨_, h8, e8, hf⟩ := pb_some hf
    refine r_iast C hW e8 dX6_coordinatesIn_26 (fun H locs hW => ?_)
    refine lv_iinc (v := (x3 + 1)) (lv' := [(3, .int (x3 + 1)), (0, .ref (ρ x0)), (1, .ref (ρ x1)), (2, .ref (ρ x2))]) hx hb dX6_coordinatesIn_27 hl (k := 3) rfl rfl (by decide) rfl (fun ls hl => ?_)
    refine lv_goto (tgt := 13) hx hb dX6_coordinatesIn_30 (by decide) ?_
    obtain ⟨rfl, rfl⟩ := pp_some hf
    exact kc _ rfl _ _ _ _ _ hW (lv_sub hl [1, 2, 3, 0] rfl)
set_option maxHeartbeats 4000000 in
theorem wX6_coordinatesIn_L13 {p : Program} {l : Launch} {e : Env} {s : State} {m : MethodId} {args : Array Value} {below : List Frame} {meth : Method} {c : Code} {G : GG} {ρ : Nat → Nat} {h0 hE hB : PH} {Q : State → Prop} {x0 : Nat} {x1 : Nat} {x2 : Nat} (C : Cx G "PairSymbols$Relations" cX6_coordinatesIn 5 (some (.array (.array .int))) "coordinatesIn" p s m args meth c) {z : (Unit)} (n : Nat) : ∀ (x : Int32) {h : PH} {H : Heap} {locs : List Loc} {cells slots : Nat} {ls : Array Slot}, (plo (fX6_coordinatesIn_B13 x0 x1 x2) n x).1 h = some (z, hB) → Ext hB hE → Wd G ρ h0.length (sl h0) s.heap h H locs cells slots → lv_has ls 5 [(0, .ref (ρ x0)), (1, .ref (ρ x1)), (2, .ref (ρ x2)), (3, .int x)] → (ke : ∀ (H : Heap) (locs : List Loc) (c1 s1 : Nat) (ls : Array Slot), Wd G ρ h0.length (sl h0) s.heap hB H locs c1 s1 → lv_has ls 5 [(0, .ref (ρ x0)), (2, .ref (ρ x2))] → W p l e (RM 1 23 h0 hE) s m args below meth c H locs c1 s1 Q (F0 m 33 ls [])) → W p l e (RM 1 23 h0 hE) s m args below meth c H locs cells slots Q (F0 m 13 ls []) := by
  induction n with
  | zero =>
    intro x h H locs cells slots ls hf
    rw [plo_0] at hf
    exact (pf_no hf).elim
  | succ n ih =>
    intro x h H locs cells slots ls hf hX hW hl ke
    rw [plo_s] at hf
    obtain ⟨r, h1, e1, hf⟩ := pb_some hf
    unfold fX6_coordinatesIn_B13 at e1
    rw [frI_eq] at e1
    refine wX6_coordinatesIn_B13 C e1 ((pext hf).tr hX) hW hl (fun y hr H locs c1 s1 ls hW hl => ?_) (fun y hr H locs c1 s1 ls hW hl => ?_)
    · subst hr
      exact ih y hf hX hW hl ke
    · subst hr
      obtain ⟨rfl, rfl⟩ := pp_some hf
      exact ke H locs c1 s1 ls hW hl
set_option maxHeartbeats 4000000 in
set_option maxRecDepth 100000 in
theorem wX6_coordinatesIn_B46 {p : Program} {l : Launch} {e : Env} {s : State} {m : MethodId} {args : Array Value} {below : List Frame} {meth : Method} {c : Code} {G : GG} {ρ : Nat → Nat} {h0 hE hB : PH} {Q : State → Prop} {x0 : Nat} {x2 : Nat} {x3 : Int32} (C : Cx G "PairSymbols$Relations" cX6_coordinatesIn 5 (some (.array (.array .int))) "coordinatesIn" p s m args meth c) {x4 : Int32} {h : PH} {H : Heap} {locs : List Loc} {cells slots : Nat} {ls : Array Slot} {r : (Int32) ⊕ (Unit)} (hf : (fX6_coordinatesIn_b46 x0 x2 x3 x4).1 h = some (r, hB)) (hX : Ext hB hE) (hW : Wd G ρ h0.length (sl h0) s.heap h H locs cells slots) (hl : lv_has ls 5 [(0, .ref (ρ x0)), (2, .ref (ρ x2)), (3, .int x3), (4, .int x4)]) (kc : ∀ y : Int32, r = .inl y → ∀ (H : Heap) (locs : List Loc) (c1 s1 : Nat) (ls : Array Slot), Wd G ρ h0.length (sl h0) s.heap hB H locs c1 s1 → lv_has ls 5 [(0, .ref (ρ x0)), (2, .ref (ρ x2)), (3, .int x3), (4, .int y)] → W p l e (RM 1 23 h0 hE) s m args below meth c H locs c1 s1 Q (F0 m 46 ls [])) (ke : ∀ z : Unit, r = .inr z → ∀ (H : Heap) (locs : List Loc) (c1 s1 : Nat) (ls : Array Slot), Wd G ρ h0.length (sl h0) s.heap hB H locs c1 s1 → lv_has ls 5 [(0, .ref (ρ x0)), (2, .ref (ρ x2)), (3, .int x3)] → W p l e (RM 1 23 h0 hE) s m args below meth c H locs c1 s1 Q (F0 m 98 ls [])) : W p l e (RM 1 23 h0 hE) s m args below meth c H locs cells slots Q (F0 m 46 ls []) := by
  have hx := C.1
  have hb := C.2.1
  unfold fX6_coordinatesIn_b46 at hf
  refine lv_aload_n hx hb dX6_coordinatesIn_46 rfl (lv_at hl 0 rfl) ?_
  obtain ⟨v12, e12, hf⟩ := pb_rd (rd_gA _ _ _) hf
  refine r_gA C hW e12 flX6_13 rfl dX6_coordinatesIn_47 ?_
  refine lv_iload_n hx hb dX6_coordinatesIn_50 rfl (lv_at hl 2 rfl) ?_
  obtain ⟨v13, e13, hf⟩ := pb_rd (rd_lI _ _ _) hf
  refine r_zald C hW e13 dX6_coordinatesIn_51 ?_
  refine lv_if_eq (tgt := 98) hx hb dX6_coordinatesIn_52 (by decide) (fun c14 => ?_) (fun c14 => ?_)
  · rw [if_pos c14] at hf
    obtain ⟨rfl, rfl⟩ := pp_some hf
    exact ke _ rfl _ _ _ _ _ hW (lv_sub hl [0, 1, 2] rfl)
  · rw [if_neg c14] at hf
    refine lv_iload hx hb dX6_coordinatesIn_55 (lv_at hl 3 rfl) ?_
    refine lv_iload_n hx hb dX6_coordinatesIn_57 rfl (lv_at hl 2 rfl) ?_
    refine lv_icmp_ge (tgt := 98) hx hb dX6_coordinatesIn_58 (by decide) (fun c15 => ?_) (fun c15 => ?_)
    · rw [if_pos c15] at hf
      obtain ⟨rfl, rfl⟩ := pp_some hf
      exact ke _ rfl _ _ _ _ _ hW (lv_sub hl [0, 1, 2] rfl)
    · rw [if_neg c15] at hf
      refine lv_aload_n hx hb dX6_coordinatesIn_61 rfl (lv_at hl 0 rfl) ?_
      obtain ⟨v16, e16, hf⟩ := pb_rd (rd_gA _ _ _) hf
      refine r_gA C hW e16 flX6_19 rfl dX6_coordinatesIn_62 ?_
      refine lv_iload_n hx hb dX6_coordinatesIn_65 rfl (lv_at hl 2 rfl) ?_
      obtain ⟨v17, e17, hf⟩ := pb_rd (rd_lA _ _ _) hf
      refine r_aald C hW e17 (by decide) (by decide) dX6_coordinatesIn_66 ?_
      refine lv_iload hx hb dX6_coordinatesIn_67 (lv_at hl 3 rfl) ?_
      obtain ⟨v18, e18, hf⟩ := pb_rd (rd_lI _ _ _) hf
      refine r_iald C hW e18 dX6_coordinatesIn_69 ?_
      refine lv_if_eq (tgt := 92) hx hb dX6_coordinatesIn_70 (by decide) (fun c19 => ?_) (fun c19 => ?_)
      · rw [if_pos c19] at hf
        refine lv_iinc (v := (x4 + 1)) (lv' := [(4, .int (x4 + 1)), (0, .ref (ρ x0)), (2, .ref (ρ x2)), (3, .int x3)]) hx hb dX6_coordinatesIn_92 hl (k := 3) rfl rfl (by decide) rfl (fun ls hl => ?_)
        refine lv_goto (tgt := 46) hx hb dX6_coordinatesIn_95 (by decide) ?_
        obtain ⟨rfl, rfl⟩ := pp_some hf
        exact kc _ rfl _ _ _ _ _ hW (lv_sub hl [1, 2, 3, 0] rfl)
      · rw [if_neg c19] at hf
        refine lv_aload_n hx hb dX6_coordinatesIn_73 rfl (lv_at hl 0 rfl) ?_
        obtain ⟨v20, e20, hf⟩ := pb_rd (rd_gA _ _ _) hf
        refine r_gA C hW e20 flX6_19 rfl dX6_coordinatesIn_74 ?_
        refine lv_iload_n hx hb dX6_coordinatesIn_77 rfl (lv_at hl 2 rfl) ?_
        obtain ⟨v21, e21, hf⟩ := pb_rd (rd_lA _ _ _) hf
        refine r_aald C hW e21 (by decide) (by decide) dX6_coordinatesIn_78 ?_
        refine lv_iload hx hb dX6_coordinatesIn_79 (lv_at hl 3 rfl) ?_
        obtain ⟨v22, e22, hf⟩ := pb_rd (rd_lI _ _ _) hf
        refine r_iald C hW e22 dX6_coordinatesIn_81 ?_
        refine lv_aload_n hx hb dX6_coordinatesIn_82 rfl (lv_at hl 1 rfl) ?_
        refine lv_iload hx hb dX6_coordinatesIn_83 (lv_at hl 3 rfl) ?_
        obtain ⟨v23, e23, hf⟩ := pb_rd (rd_lA _ _ _) hf
        refine r_aald C hW e23 (by decide) (by decide) dX6_coordinatesIn_85 ?_
        refine lv_aload_n hx hb dX6_coordinatesIn_86 rfl (lv_at hl 1 rfl) ?_
        refine lv_iload_n hx hb dX6_coordinatesIn_87 rfl (lv_at hl 2 rfl) ?_
        obtain ⟨v24, e24, hf⟩ := pb_rd (rd_lA _ _ _) hf
        refine r_aald C hW e24 (by decide) (by decide) dX6_coordinatesIn_88 ?_
        obtain ⟨_, h25, e25, hf⟩ := pb_some hf
        refine r_callv hW (pext e25) (run_S (As := [.int v22, .ref (ρ v23), .ref (ρ v24)]) (rest := []) C hW (metX6_subtract l G ρ e25) ⟨rfl, rfl⟩ kcX6_subtract (tq q_94 rfl) kiX6_subtract knX6_subtract kdX6_subtract ⟨Nat.le_of_ble_eq_true rfl, Nat.le_of_ble_eq_true rfl⟩ hl.1 (Nat.le_of_ble_eq_true rfl) (room_of hW (pext e25) ((pext hf).tr hX)) dX6_coordinatesIn_89 rfl) (fun H locs c1 s1 hW => ?_)
        refine lv_iinc (v := (x4 + 1)) (lv' := [(4, .int (x4 + 1)), (0, .ref (ρ x0)), (2, .ref (ρ x2)), (3, .int x3)]) hx hb dX6_coordinatesIn_92 hl (k := 3) rfl rfl (by decide) rfl (fun ls hl => ?_)
        refine lv_goto (tgt := 46) hx hb dX6_coordinatesIn_95 (by decide) ?_
        obtain ⟨rfl, rfl⟩ := pp_some hf
        exact kc _ rfl _ _ _ _ _ hW (lv_sub hl [1, 2, 3, 0] rfl)
set_option maxHeartbeats 4000000 in
theorem wX6_coordinatesIn_L46 {p : Program} {l : Launch} {e : Env} {s : State} {m : MethodId} {args : Array Value} {below : List Frame} {meth : Method} {c : Code} {G : GG} {ρ : Nat → Nat} {h0 hE hB : PH} {Q : State → Prop} {x0 : Nat} {x2 : Nat} {x3 : Int32} (C : Cx G "PairSymbols$Relations" cX6_coordinatesIn 5 (some (.array (.array .int))) "coordinatesIn" p s m args meth c) {z : (Unit)} (n : Nat) : ∀ (x : Int32) {h : PH} {H : Heap} {locs : List Loc} {cells slots : Nat} {ls : Array Slot}, (plo (fX6_coordinatesIn_B46 x0 x2 x3) n x).1 h = some (z, hB) → Ext hB hE → Wd G ρ h0.length (sl h0) s.heap h H locs cells slots → lv_has ls 5 [(0, .ref (ρ x0)), (2, .ref (ρ x2)), (3, .int x3), (4, .int x)] → (ke : ∀ (H : Heap) (locs : List Loc) (c1 s1 : Nat) (ls : Array Slot), Wd G ρ h0.length (sl h0) s.heap hB H locs c1 s1 → lv_has ls 5 [(0, .ref (ρ x0)), (2, .ref (ρ x2)), (3, .int x3)] → W p l e (RM 1 23 h0 hE) s m args below meth c H locs c1 s1 Q (F0 m 98 ls [])) → W p l e (RM 1 23 h0 hE) s m args below meth c H locs cells slots Q (F0 m 46 ls []) := by
  induction n with
  | zero =>
    intro x h H locs cells slots ls hf
    rw [plo_0] at hf
    exact (pf_no hf).elim
  | succ n ih =>
    intro x h H locs cells slots ls hf hX hW hl ke
    rw [plo_s] at hf
    obtain ⟨r, h1, e1, hf⟩ := pb_some hf
    unfold fX6_coordinatesIn_B46 at e1
    rw [frI_eq] at e1
    refine wX6_coordinatesIn_B46 C e1 ((pext hf).tr hX) hW hl (fun y hr H locs c1 s1 ls hW hl => ?_) (fun y hr H locs c1 s1 ls hW hl => ?_)
    · subst hr
      exact ih y hf hX hW hl ke
    · subst hr
      obtain ⟨rfl, rfl⟩ := pp_some hf
      exact ke H locs c1 s1 ls hW hl
set_option maxHeartbeats 4000000 in
set_option maxRecDepth 100000 in
theorem wX6_coordinatesIn_B35 {p : Program} {l : Launch} {e : Env} {s : State} {m : MethodId} {args : Array Value} {below : List Frame} {meth : Method} {c : Code} {G : GG} {ρ : Nat → Nat} {h0 hE hB : PH} {Q : State → Prop} {x0 : Nat} {x2 : Nat} (C : Cx G "PairSymbols$Relations" cX6_coordinatesIn 5 (some (.array (.array .int))) "coordinatesIn" p s m args meth c) {x3 : Int32} {h : PH} {H : Heap} {locs : List Loc} {cells slots : Nat} {ls : Array Slot} {r : (Int32) ⊕ (Unit)} (hf : (fX6_coordinatesIn_b35 x0 x2 x3).1 h = some (r, hB)) (hX : Ext hB hE) (hW : Wd G ρ h0.length (sl h0) s.heap h H locs cells slots) (hl : lv_has ls 5 [(0, .ref (ρ x0)), (2, .ref (ρ x2)), (3, .int x3)]) (kc : ∀ y : Int32, r = .inl y → ∀ (H : Heap) (locs : List Loc) (c1 s1 : Nat) (ls : Array Slot), Wd G ρ h0.length (sl h0) s.heap hB H locs c1 s1 → lv_has ls 5 [(0, .ref (ρ x0)), (2, .ref (ρ x2)), (3, .int y)] → W p l e (RM 1 23 h0 hE) s m args below meth c H locs c1 s1 Q (F0 m 35 ls [])) (ke : ∀ z : Unit, r = .inr z → ∀ (H : Heap) (locs : List Loc) (c1 s1 : Nat) (ls : Array Slot), Wd G ρ h0.length (sl h0) s.heap hB H locs c1 s1 → lv_has ls 5 [(2, .ref (ρ x2))] → W p l e (RM 1 23 h0 hE) s m args below meth c H locs c1 s1 Q (F0 m 104 ls [])) : W p l e (RM 1 23 h0 hE) s m args below meth c H locs cells slots Q (F0 m 35 ls []) := by
  have hx := C.1
  have hb := C.2.1
  unfold fX6_coordinatesIn_b35 at hf
  refine lv_iload_n hx hb dX6_coordinatesIn_35 rfl (lv_at hl 2 rfl) ?_
  refine lv_aload_n hx hb dX6_coordinatesIn_36 rfl (lv_at hl 0 rfl) ?_
  obtain ⟨v10, e10, hf⟩ := pb_rd (rd_gI _ _ _) hf
  refine r_gI C hW e10 flX6_7 rfl dX6_coordinatesIn_37 ?_
  refine lv_icmp_ge (tgt := 104) hx hb dX6_coordinatesIn_40 (by decide) (fun c11 => ?_) (fun c11 => ?_)
  · rw [if_pos c11] at hf
    obtain ⟨rfl, rfl⟩ := pp_some hf
    exact ke _ rfl _ _ _ _ _ hW (lv_sub hl [1] rfl)
  · rw [if_neg c11] at hf
    refine lv_iconst (v := 0) hx hb dX6_coordinatesIn_43 (by decide) ?_
    refine lv_istore (lv' := [(4, .int (0 : Int32)), (0, .ref (ρ x0)), (2, .ref (ρ x2)), (3, .int x3)]) hx hb dX6_coordinatesIn_44 hl (by decide) rfl (fun ls hl => ?_)
    obtain ⟨z26, h26, e26, hf⟩ := pb_some hf
    refine wX6_coordinatesIn_L46 C fu _ e26 ((pext hf).tr hX) hW (lv_sub hl [1, 2, 3, 0] rfl) (fun H locs c1 s1 ls hW hl => ?_)
    refine lv_iinc (v := (x3 + 1)) (lv' := [(3, .int (x3 + 1)), (0, .ref (ρ x0)), (2, .ref (ρ x2))]) hx hb dX6_coordinatesIn_98 hl (k := 2) rfl rfl (by decide) rfl (fun ls hl => ?_)
    refine lv_goto (tgt := 35) hx hb dX6_coordinatesIn_101 (by decide) ?_
    obtain ⟨rfl, rfl⟩ := pp_some hf
    exact kc _ rfl _ _ _ _ _ hW (lv_sub hl [1, 2, 0] rfl)
set_option maxHeartbeats 4000000 in
theorem wX6_coordinatesIn_L35 {p : Program} {l : Launch} {e : Env} {s : State} {m : MethodId} {args : Array Value} {below : List Frame} {meth : Method} {c : Code} {G : GG} {ρ : Nat → Nat} {h0 hE hB : PH} {Q : State → Prop} {x0 : Nat} {x2 : Nat} (C : Cx G "PairSymbols$Relations" cX6_coordinatesIn 5 (some (.array (.array .int))) "coordinatesIn" p s m args meth c) {z : (Unit)} (n : Nat) : ∀ (x : Int32) {h : PH} {H : Heap} {locs : List Loc} {cells slots : Nat} {ls : Array Slot}, (plo (fX6_coordinatesIn_B35 x0 x2) n x).1 h = some (z, hB) → Ext hB hE → Wd G ρ h0.length (sl h0) s.heap h H locs cells slots → lv_has ls 5 [(0, .ref (ρ x0)), (2, .ref (ρ x2)), (3, .int x)] → (ke : ∀ (H : Heap) (locs : List Loc) (c1 s1 : Nat) (ls : Array Slot), Wd G ρ h0.length (sl h0) s.heap hB H locs c1 s1 → lv_has ls 5 [(2, .ref (ρ x2))] → W p l e (RM 1 23 h0 hE) s m args below meth c H locs c1 s1 Q (F0 m 104 ls [])) → W p l e (RM 1 23 h0 hE) s m args below meth c H locs cells slots Q (F0 m 35 ls []) := by
  induction n with
  | zero =>
    intro x h H locs cells slots ls hf
    rw [plo_0] at hf
    exact (pf_no hf).elim
  | succ n ih =>
    intro x h H locs cells slots ls hf hX hW hl ke
    rw [plo_s] at hf
    obtain ⟨r, h1, e1, hf⟩ := pb_some hf
    unfold fX6_coordinatesIn_B35 at e1
    rw [frI_eq] at e1
    refine wX6_coordinatesIn_B35 C e1 ((pext hf).tr hX) hW hl (fun y hr H locs c1 s1 ls hW hl => ?_) (fun y hr H locs c1 s1 ls hW hl => ?_)
    · subst hr
      exact ih y hf hX hW hl ke
    · subst hr
      obtain ⟨rfl, rfl⟩ := pp_some hf
      exact ke H locs c1 s1 ls hW hl
set_option maxHeartbeats 4000000 in
set_option maxRecDepth 100000 in
theorem metX6_coordinatesIn (l : Launch) (G : GG) (ρ : Nat → Nat) {z : Nat} {x0 : Nat} {x1 : Nat} {h hE : PH} {v : Nat} (hf : (fX6_coordinatesIn x0 x1).1 h = some (v, hE)) : Met l yX6_coordinatesIn (wsY yX6_coordinatesIn cX6_coordinatesIn 5 (some (.array (.array .int)))) (RM 1 23 h hE) (va_Pc [.ref (ρ x0), .ref (ρ x1)] (PcB G ρ h z)) (QA G ρ v hE h.length z) (DC h hE) (DS h hE) (Af ρ h.length z) := by
  refine met_start (by decide) (Nat.le_of_ble_eq_true rfl) ?_
  intro p e s m below meth c ls hz C hW hl
  subst hz
  have C : Cx G "PairSymbols$Relations" cX6_coordinatesIn 5 (some (.array (.array .int))) "coordinatesIn" p s m _ meth c := C
  have hx := C.1
  have hb := C.2.1
  have hX : Ext hE hE := Ext.rf hE
  have hl : lv_has ls 5 [(0, .ref (ρ x0)), (1, .ref (ρ x1))] := hl
  have hW : Wd G ρ h.length (sl h) s.heap h s.heap [] 0 0 := hW
  unfold fX6_coordinatesIn at hf
  obtain ⟨_, e0, hf⟩ := pb_rd (rd_chk _ _) hf
  refine lv_aload_n hx hb dX6_coordinatesIn_0 rfl (lv_at hl 0 rfl) ?_
  obtain ⟨v1, e1, hf⟩ := pb_rd (rd_gI _ _ _) hf
  refine r_gI C hW e1 flX6_7 rfl dX6_coordinatesIn_1 ?_
  refine lv_aload_n hx hb dX6_coordinatesIn_4 rfl (lv_at hl 1 rfl) ?_
  obtain ⟨v2, e2, hf⟩ := pb_rd (rd_aln _) hf
  refine r_alen C hW e2 dX6_coordinatesIn_5 ?_
  obtain ⟨v3, h3, e3, hf⟩ := pb_some hf
  refine r_mnaI C hW e3 (tq q_65 rfl) (tq q_66 rfl) (tq q_80 rfl) (room_of hW (pext e3) ((pext hf).tr hX)) dX6_coordinatesIn_6 (fun H locs c1 s1 hW => ?_)
  refine lv_astore_n (lv' := [(2, .ref (ρ v3)), (0, .ref (ρ x0)), (1, .ref (ρ x1))]) hx hb dX6_coordinatesIn_10 rfl hl (by decide) rfl (fun ls hl => ?_)
  refine lv_iconst (v := 0) hx hb dX6_coordinatesIn_11 (by decide) ?_
  refine lv_istore_n (lv' := [(3, .int (0 : Int32)), (2, .ref (ρ v3)), (0, .ref (ρ x0)), (1, .ref (ρ x1))]) hx hb dX6_coordinatesIn_12 rfl hl (by decide) rfl (fun ls hl => ?_)
  obtain ⟨z9, h9, e9, hf⟩ := pb_some hf
  refine wX6_coordinatesIn_L13 C fu _ e9 ((pext hf).tr hX) hW (lv_sub hl [2, 3, 1, 0] rfl) (fun H locs c1 s1 ls hW hl => ?_)
  refine lv_iconst (v := 0) hx hb dX6_coordinatesIn_33 (by decide) ?_
  refine lv_istore_n (lv' := [(3, .int (0 : Int32)), (0, .ref (ρ x0)), (2, .ref (ρ v3))]) hx hb dX6_coordinatesIn_34 rfl hl (by decide) rfl (fun ls hl => ?_)
  obtain ⟨z27, h27, e27, hf⟩ := pb_some hf
  refine wX6_coordinatesIn_L35 C fu _ e27 ((pext hf).tr hX) hW (lv_sub hl [1, 2, 0] rfl) (fun H locs c1 s1 ls hW hl => ?_)
  refine lv_aload_n hx hb dX6_coordinatesIn_104 rfl (lv_at hl 0 rfl) ?_
  obtain ⟨rfl, rfl⟩ := pp_some hf
  exact r_aret C hW (Or.inr ⟨_, rfl⟩) dX6_coordinatesIn_105
