theorem flX9_198 : FL "PairSymbols" 198 7 1 true := ⟨_, CT7, by decide, (tq q_214 rfl), rfl, fun _ => Or.inr trivial⟩
theorem flX7_25 : FL "PairSymbols$Script" 25 6 1 false := ⟨_, CT6, by decide, (tq q_245 rfl), rfl, fun _ => Or.inr trivial⟩
theorem flX9_209 : FL "PairSymbols" 209 6 1 false := ⟨_, CT6, by decide, (tq q_246 rfl), rfl, fun _ => Or.inr trivial⟩
theorem flX7_32 : FL "PairSymbols$Script" 32 6 6 false := ⟨_, CT6, by decide, (tq q_255 rfl), rfl, fun _ => Or.inr trivial⟩
theorem flX7_54 : FL "PairSymbols$Script" 54 6 7 false := ⟨_, CT6, by decide, (tq q_256 rfl), rfl, fun _ => Or.inr trivial⟩
theorem flX7_29 : FL "PairSymbols$Script" 29 6 5 false := ⟨_, CT6, by decide, (tq q_253 rfl), rfl, fun _ => Or.inr trivial⟩
theorem dX5_applyTo_0 : decode cX5_applyTo 0 = .ok (.iconst 0, 1) := by decide +kernel
theorem dX5_applyTo_1 : decode cX5_applyTo 1 = .ok (.istore_n 2, 1) := by decide +kernel
theorem dX5_applyTo_2 : decode cX5_applyTo 2 = .ok (.iload_n 2, 1) := by decide +kernel
theorem dX5_applyTo_3 : decode cX5_applyTo 3 = .ok (.aload_n 0, 1) := by decide +kernel
theorem dX5_applyTo_4 : decode cX5_applyTo 4 = .ok (.getfield 22, 3) := by decide +kernel
theorem dX5_applyTo_7 : decode cX5_applyTo 7 = .ok (.arraylength, 1) := by decide +kernel
theorem dX5_applyTo_8 : decode cX5_applyTo 8 = .ok (.if_icmp .ge 54, 3) := by decide +kernel
theorem dX5_applyTo_11 : decode cX5_applyTo 11 = .ok (.lconst 0, 1) := by decide +kernel
theorem dX5_applyTo_12 : decode cX5_applyTo 12 = .ok (.lstore_n 3, 1) := by decide +kernel
theorem dX5_applyTo_13 : decode cX5_applyTo 13 = .ok (.iconst 0, 1) := by decide +kernel
theorem dX5_applyTo_14 : decode cX5_applyTo 14 = .ok (.istore 5, 2) := by decide +kernel
theorem dX5_applyTo_16 : decode cX5_applyTo 16 = .ok (.iload 5, 2) := by decide +kernel
theorem dX5_applyTo_18 : decode cX5_applyTo 18 = .ok (.aload_n 0, 1) := by decide +kernel
theorem dX5_applyTo_19 : decode cX5_applyTo 19 = .ok (.getfield 22, 3) := by decide +kernel
theorem dX5_applyTo_22 : decode cX5_applyTo 22 = .ok (.arraylength, 1) := by decide +kernel
theorem dX5_applyTo_23 : decode cX5_applyTo 23 = .ok (.if_icmp .ge 26, 3) := by decide +kernel
theorem dX5_applyTo_26 : decode cX5_applyTo 26 = .ok (.lload_n 3, 1) := by decide +kernel
theorem dX5_applyTo_27 : decode cX5_applyTo 27 = .ok (.aload_n 0, 1) := by decide +kernel
theorem dX5_applyTo_28 : decode cX5_applyTo 28 = .ok (.getfield 17, 3) := by decide +kernel
theorem dX5_applyTo_31 : decode cX5_applyTo 31 = .ok (.iload_n 2, 1) := by decide +kernel
theorem dX5_applyTo_32 : decode cX5_applyTo 32 = .ok (.aaload, 1) := by decide +kernel
theorem dX5_applyTo_33 : decode cX5_applyTo 33 = .ok (.iload 5, 2) := by decide +kernel
theorem dX5_applyTo_35 : decode cX5_applyTo 35 = .ok (.laload, 1) := by decide +kernel
theorem dX5_applyTo_36 : decode cX5_applyTo 36 = .ok (.aload_n 1, 1) := by decide +kernel
theorem dX5_applyTo_37 : decode cX5_applyTo 37 = .ok (.iload 5, 2) := by decide +kernel
theorem dX5_applyTo_39 : decode cX5_applyTo 39 = .ok (.laload, 1) := by decide +kernel
theorem dX5_applyTo_40 : decode cX5_applyTo 40 = .ok (.lmul, 1) := by decide +kernel
theorem dX5_applyTo_41 : decode cX5_applyTo 41 = .ok (.ladd, 1) := by decide +kernel
theorem dX5_applyTo_42 : decode cX5_applyTo 42 = .ok (.lstore_n 3, 1) := by decide +kernel
theorem dX5_applyTo_43 : decode cX5_applyTo 43 = .ok (.iinc 5 1, 3) := by decide +kernel
theorem dX5_applyTo_46 : decode cX5_applyTo 46 = .ok (.goto (-30), 3) := by decide +kernel
theorem dX5_applyTo_49 : decode cX5_applyTo 49 = .ok (.aload_n 0, 1) := by decide +kernel
theorem dX5_applyTo_50 : decode cX5_applyTo 50 = .ok (.getfield 22, 3) := by decide +kernel
theorem dX5_applyTo_53 : decode cX5_applyTo 53 = .ok (.iload_n 2, 1) := by decide +kernel
theorem dX5_applyTo_54 : decode cX5_applyTo 54 = .ok (.lload_n 3, 1) := by decide +kernel
theorem dX5_applyTo_55 : decode cX5_applyTo 55 = .ok (.lastore, 1) := by decide +kernel
theorem dX5_applyTo_56 : decode cX5_applyTo 56 = .ok (.iinc 2 1, 3) := by decide +kernel
theorem dX5_applyTo_59 : decode cX5_applyTo 59 = .ok (.goto (-57), 3) := by decide +kernel
theorem dX5_applyTo_62 : decode cX5_applyTo 62 = .ok (.aload_n 0, 1) := by decide +kernel
theorem dX5_applyTo_63 : decode cX5_applyTo 63 = .ok (.getfield 22, 3) := by decide +kernel
theorem dX5_applyTo_66 : decode cX5_applyTo 66 = .ok (.iconst 0, 1) := by decide +kernel
theorem dX5_applyTo_67 : decode cX5_applyTo 67 = .ok (.aload_n 1, 1) := by decide +kernel
theorem dX5_applyTo_68 : decode cX5_applyTo 68 = .ok (.iconst 0, 1) := by decide +kernel
theorem dX5_applyTo_69 : decode cX5_applyTo 69 = .ok (.aload_n 0, 1) := by decide +kernel
theorem dX5_applyTo_70 : decode cX5_applyTo 70 = .ok (.getfield 22, 3) := by decide +kernel
theorem dX5_applyTo_73 : decode cX5_applyTo 73 = .ok (.arraylength, 1) := by decide +kernel
theorem dX5_applyTo_74 : decode cX5_applyTo 74 = .ok (.invokestatic 69, 3) := by decide +kernel
theorem dX5_applyTo_77 : decode cX5_applyTo 77 = .ok (.return_, 1) := by decide +kernel
theorem kcX5_applyTo : Cond.code yX5_applyTo cX5_applyTo 6 none ∈ tb := tq q_565 rfl
theorem knX5_applyTo : Cond.initialized yX5_applyTo.cls ∈ tb := (tq q_12 rfl)
theorem kdX5_applyTo : yX5_applyTo.cls ≠ "java/lang/invoke/MethodHandle" ∧ yX5_applyTo.cls ≠ "java/lang/invoke/VarHandle" ∧ (parseMethodDescriptor yX5_applyTo.desc).map (fun d => d.parameters.length) = some 1 := ⟨by decide +kernel, by decide +kernel, by decide +kernel⟩
theorem kiX5_applyTo : Cond.instanceMethod yX5_applyTo ∈ tb := (tq q_563 rfl)
theorem ksX5_applyTo : Cond.selects yX5_applyTo.cls yX5_applyTo yX5_applyTo ∈ tb := (tq q_564 rfl)
theorem tgX5_applyTo {x0 : Nat} {x1 : Nat} {h : PH} {r : Unit × PH} (hf : (fX5_applyTo x0 x1).1 h = some r) : ∃ n x, nth h x0 = some (4, n, x) := by
  obtain ⟨_, _, e, _⟩ := pb_some hf
  exact (chk_some e).2
set_option maxHeartbeats 4000000 in
set_option maxRecDepth 100000 in
theorem wX5_applyTo_B16 {p : Program} {l : Launch} {e : Env} {s : State} {m : MethodId} {args : Array Value} {below : List Frame} {meth : Method} {c : Code} {G : GG} {ρ : Nat → Nat} {h0 hE hB : PH} {Q : State → Prop} {x0 : Nat} {x1 : Nat} {x2 : Int32} (C : Cx G "PairSymbols$Operato\x72" cX5_applyTo 6 none "applyTo" p s m args meth c) {x3 : Int64} {x5 : Int32} {h : PH} {H : Heap} {locs : List Loc} {cells slots : Nat} {ls : Array Slot} {r : (Int64 × Int32) ⊕ (Int64)} (hf : (fX5_applyTo_b16 x0 x1 x2 x3 x5).1 h = some (r, hB)) (hX : Ext hB hE) (hW : Wd G ρ h0.length (sl h0) s.heap h H locs cells slots) (hl : lv_has ls 6 [(0, .ref (ρ x0)), (1, .ref (ρ x1)), (2, .int x2), (3, .long x3), (5, .int x5)]) (kc : ∀ y : Int64 × Int32, r = .inl y → ∀ (H : Heap) (locs : List Loc) (c1 s1 : Nat) (ls : Array Slot), Wd G ρ h0.length (sl h0) s.heap hB H locs c1 s1 → lv_has ls 6 [(0, .ref (ρ x0)), (1, .ref (ρ x1)), (2, .int x2), (3, .long y.1), (5, .int y.2)] → W p l e (RM 1 80 h0 hE) s m args below meth c H locs c1 s1 Q (F0 m 16 ls [])) (ke : ∀ z : Int64, r = .inr z → ∀ (H : Heap) (locs : List Loc) (c1 s1 : Nat) (ls : Array Slot), Wd G ρ h0.length (sl h0) s.heap hB H locs c1 s1 → lv_has ls 6 [(0, .ref (ρ x0)), (1, .ref (ρ x1)), (2, .int x2), (3, .long z)] → W p l e (RM 1 80 h0 hE) s m args below meth c H locs c1 s1 Q (F0 m 49 ls [])) : W p l e (RM 1 80 h0 hE) s m args below meth c H locs cells slots Q (F0 m 16 ls []) := by
  have hx := C.1
  have hb := C.2.1
  unfold fX5_applyTo_b16 at hf
  refine lv_iload hx hb dX5_applyTo_16 (lv_at hl 4 rfl) ?_
  refine lv_aload_n hx hb dX5_applyTo_18 rfl (lv_at hl 0 rfl) ?_
  obtain ⟨v4, e4, hf⟩ := pb_rd (rd_gA _ _ _) hf
  refine r_gA C hW e4 flX5_22 rfl dX5_applyTo_19 ?_
  obtain ⟨v5, e5, hf⟩ := pb_rd (rd_aln _) hf
  refine r_alen C hW e5 dX5_applyTo_22 ?_
  refine lv_icmp_ge (tgt := 49) hx hb dX5_applyTo_23 (by decide) (fun c6 => ?_) (fun c6 => ?_)
  · rw [if_pos c6] at hf
    obtain ⟨rfl, rfl⟩ := pp_some hf
    exact ke _ rfl _ _ _ _ _ hW (lv_sub hl [0, 1, 2, 3] rfl)
  · rw [if_neg c6] at hf
    refine lv_lload_n hx hb dX5_applyTo_26 rfl (lv_at hl 3 rfl) ?_
    refine lv_aload_n hx hb dX5_applyTo_27 rfl (lv_at hl 0 rfl) ?_
    obtain ⟨v7, e7, hf⟩ := pb_rd (rd_gA _ _ _) hf
    refine r_gA C hW e7 flX5_17 rfl dX5_applyTo_28 ?_
    refine lv_iload_n hx hb dX5_applyTo_31 rfl (lv_at hl 2 rfl) ?_
    obtain ⟨v8, e8, hf⟩ := pb_rd (rd_lA _ _ _) hf
    refine r_aald C hW e8 (by decide) (by decide) dX5_applyTo_32 ?_
    refine lv_iload hx hb dX5_applyTo_33 (lv_at hl 4 rfl) ?_
    obtain ⟨v9, e9, hf⟩ := pb_rd (rd_lJ _ _ _) hf
    refine r_lald C hW e9 dX5_applyTo_35 ?_
    refine lv_aload_n hx hb dX5_applyTo_36 rfl (lv_at hl 1 rfl) ?_
    refine lv_iload hx hb dX5_applyTo_37 (lv_at hl 4 rfl) ?_
    obtain ⟨v10, e10, hf⟩ := pb_rd (rd_lJ _ _ _) hf
    refine r_lald C hW e10 dX5_applyTo_39 ?_
    refine lv_lmul hx hb dX5_applyTo_40 ?_
    refine lv_ladd hx hb dX5_applyTo_41 ?_
    refine lv_lstore_n (lv' := [(3, .long (x3 + (v9 * v10))), (0, .ref (ρ x0)), (1, .ref (ρ x1)), (2, .int x2), (5, .int x5)]) hx hb dX5_applyTo_42 rfl hl (by decide) rfl (fun ls hl => ?_)
    refine lv_iinc (v := (x5 + 1)) (lv' := [(5, .int (x5 + 1)), (3, .long (x3 + (v9 * v10))), (0, .ref (ρ x0)), (1, .ref (ρ x1)), (2, .int x2)]) hx hb dX5_applyTo_43 hl (k := 4) rfl rfl (by decide) rfl (fun ls hl => ?_)
    refine lv_goto (tgt := 16) hx hb dX5_applyTo_46 (by decide) ?_
    obtain ⟨rfl, rfl⟩ := pp_some hf
    exact kc _ rfl _ _ _ _ _ hW (lv_sub hl [2, 3, 4, 1, 0] rfl)
set_option maxHeartbeats 4000000 in
theorem wX5_applyTo_L16 {p : Program} {l : Launch} {e : Env} {s : State} {m : MethodId} {args : Array Value} {below : List Frame} {meth : Method} {c : Code} {G : GG} {ρ : Nat → Nat} {h0 hE hB : PH} {Q : State → Prop} {x0 : Nat} {x1 : Nat} {x2 : Int32} (C : Cx G "PairSymbols$Operato\x72" cX5_applyTo 6 none "applyTo" p s m args meth c) {z : (Int64)} (n : Nat) : ∀ (x : Int64 × Int32) {h : PH} {H : Heap} {locs : List Loc} {cells slots : Nat} {ls : Array Slot}, (plo (fX5_applyTo_B16 x0 x1 x2) n x).1 h = some (z, hB) → Ext hB hE → Wd G ρ h0.length (sl h0) s.heap h H locs cells slots → lv_has ls 6 [(0, .ref (ρ x0)), (1, .ref (ρ x1)), (2, .int x2), (3, .long x.1), (5, .int x.2)] → (ke : ∀ (H : Heap) (locs : List Loc) (c1 s1 : Nat) (ls : Array Slot), Wd G ρ h0.length (sl h0) s.heap hB H locs c1 s1 → lv_has ls 6 [(0, .ref (ρ x0)), (1, .ref (ρ x1)), (2, .int x2), (3, .long z)] → W p l e (RM 1 80 h0 hE) s m args below meth c H locs c1 s1 Q (F0 m 49 ls [])) → W p l e (RM 1 80 h0 hE) s m args below meth c H locs cells slots Q (F0 m 16 ls []) := by
  induction n with
  | zero =>
    intro x h H locs cells slots ls hf
    rw [plo_0] at hf
    exact (pf_no hf).elim
  | succ n ih =>
    intro x h H locs cells slots ls hf hX hW hl ke
    rw [plo_s] at hf
    obtain ⟨r, h1, e1, hf⟩ := pb_some hf
    unfold fX5_applyTo_B16 at e1
    rw [frJ_eq, frI_eq] at e1
    refine wX5_applyTo_B16 C e1 ((pext hf).tr hX) hW hl (fun y hr H locs c1 s1 ls hW hl => ?_) (fun y hr H locs c1 s1 ls hW hl => ?_)
    · subst hr
      exact ih y hf hX hW hl ke
    · subst hr
      obtain ⟨rfl, rfl⟩ := pp_some hf
      exact ke H locs c1 s1 ls hW hl
set_option maxHeartbeats 4000000 in
set_option maxRecDepth 100000 in
theorem wX5_applyTo_B2 {p : Program} {l : Launch} {e : Env} {s : State} {m : MethodId} {args : Array Value} {below : List Frame} {meth : Method} {c : Code} {G : GG} {ρ : Nat → Nat} {h0 hE hB : PH} {Q : State → Prop} {x0 : Nat} {x1 : Nat} (C : Cx G "PairSymbols$Operato\x72" cX5_applyTo 6 none "applyTo" p s m args meth c) {x2 : Int32} {h : PH} {H : Heap} {locs : List Loc} {cells slots : Nat} {ls : Array Slot} {r : (Int32) ⊕ (Unit)} (hf : (fX5_applyTo_b2 x0 x1 x2).1 h = some (r, hB)) (hX : Ext hB hE) (hW : Wd G ρ h0.length (sl h0) s.heap h H locs cells slots) (hl : lv_has ls 6 [(0, .ref (ρ x0)), (1, .ref (ρ x1)), (2, .int x2)]) (kc : ∀ y : Int32, r = .inl y → ∀ (H : Heap) (locs : List Loc) (c1 s1 : Nat) (ls : Array Slot), Wd G ρ h0.length (sl h0) s.heap hB H locs c1 s1 → lv_has ls 6 [(0, .ref (ρ x0)), (1, .ref (ρ x1)), (2, .int y)] → W p l e (RM 1 80 h0 hE) s m args below meth c H locs c1 s1 Q (F0 m 2 ls [])) (ke : ∀ z : Unit, r = .inr z → ∀ (H : Heap) (locs : List Loc) (c1 s1 : Nat) (ls : Array Slot), Wd G ρ h0.length (sl h0) s.heap hB H locs c1 s1 → lv_has ls 6 [(0, .ref (ρ x0)), (1, .ref (ρ x1))] → W p l e (RM 1 80 h0 hE) s m args below meth c H locs c1 s1 Q (F0 m 62 ls [])) : W p l e (RM 1 80 h0 hE) s m args below meth c H locs cells slots Q (F0 m 2 ls []) := by
  have hx := C.1
  have hb := C.2.1
  unfold fX5_applyTo_b2 at hf
  refine lv_iload_n hx hb dX5_applyTo_2 rfl (lv_at hl 2 rfl) ?_
  refine lv_aload_n hx hb dX5_applyTo_3 rfl (lv_at hl 0 rfl) ?_
  obtain ⟨v1, e1, hf⟩ := pb_rd (rd_gA _ _ _) hf
  refine r_gA C hW e1 flX5_22 rfl dX5_applyTo_4 ?_
  obtain ⟨v2, e2, hf⟩ := pb_rd (rd_aln _) hf
  refine r_alen C hW e2 dX5_applyTo_7 ?_
  refine lv_icmp_ge (tgt := 62) hx hb dX5_applyTo_8 (by decide) (fun c3 => ?_) (fun c3 => ?_)
  · rw [if_pos c3] at hf
    obtain ⟨rfl, rfl⟩ := pp_some hf
    exact ke _ rfl _ _ _ _ _ hW (lv_sub hl [0, 1] rfl)
  · rw [if_neg c3] at hf
    refine lv_lconst (v := 0) hx hb dX5_applyTo_11 (by decide) ?_
    refine lv_lstore_n (lv' := [(3, .long (0 : Int64)), (0, .ref (ρ x0)), (1, .ref (ρ x1)), (2, .int x2)]) hx hb dX5_applyTo_12 rfl hl (by decide) rfl (fun ls hl => ?_)
    refine lv_iconst (v := 0) hx hb dX5_applyTo_13 (by decide) ?_
    refine lv_istore (lv' := [(5, .int (0 : Int32)), (3, .long (0 : Int64)), (0, .ref (ρ x0)), (1, .ref (ρ x1)), (2, .int x2)]) hx hb dX5_applyTo_14 hl (by decide) rfl (fun ls hl => ?_)
    obtain ⟨z11, h11, e11, hf⟩ := pb_some hf
    refine wX5_applyTo_L16 C fu _ e11 ((pext hf).tr hX) hW (lv_sub hl [2, 3, 4, 1, 0] rfl) (fun H locs c1 s1 ls hW hl => ?_)
    refine lv_aload_n hx hb dX5_applyTo_49 rfl (lv_at hl 0 rfl) ?_
    obtain ⟨v12, e12, hf⟩ := pb_rd (rd_gA _ _ _) hf
    refine r_gA C hW e12 flX5_22 rfl dX5_applyTo_50 ?_
    refine lv_iload_n hx hb dX5_applyTo_53 rfl (lv_at hl 2 rfl) ?_
    refine lv_lload_n hx hb dX5_applyTo_54 rfl (lv_at hl 3 rfl) ?_
    obtain ⟨_, h13, e13, hf⟩ := pb_some hf
    refine r_last C hW e13 dX5_applyTo_55 (fun H locs hW => ?_)
    refine lv_iinc (v := (x2 + 1)) (lv' := [(2, .int (x2 + 1)), (0, .ref (ρ x0)), (1, .ref (ρ x1)), (3, .long z11)]) hx hb dX5_applyTo_56 hl (k := 2) rfl rfl (by decide) rfl (fun ls hl => ?_)
    refine lv_goto (tgt := 2) hx hb dX5_applyTo_59 (by decide) ?_
    obtain ⟨rfl, rfl⟩ := pp_some hf
    exact kc _ rfl _ _ _ _ _ hW (lv_sub hl [1, 2, 0] rfl)
set_option maxHeartbeats 4000000 in
theorem wX5_applyTo_L2 {p : Program} {l : Launch} {e : Env} {s : State} {m : MethodId} {args : Array Value} {below : List Frame} {meth : Method} {c : Code} {G : GG} {ρ : Nat → Nat} {h0 hE hB : PH} {Q : State → Prop} {x0 : Nat} {x1 : Nat} (C : Cx G "PairSymbols$Operato\x72" cX5_applyTo 6 none "applyTo" p s m args meth c) {z : (Unit)} (n : Nat) : ∀ (x : Int32) {h : PH} {H : Heap} {locs : List Loc} {cells slots : Nat} {ls : Array Slot}, (plo (fX5_applyTo_B2 x0 x1) n x).1 h = some (z, hB) → Ext hB hE → Wd G ρ h0.length (sl h0) s.heap h H locs cells slots → lv_has ls 6 [(0, .ref (ρ x0)), (1, .ref (ρ x1)), (2, .int x)] → (ke : ∀ (H : Heap) (locs : List Loc) (c1 s1 : Nat) (ls : Array Slot), Wd G ρ h0.length (sl h0) s.heap hB H locs c1 s1 → lv_has ls 6 [(0, .ref (ρ x0)), (1, .ref (ρ x1))] → W p l e (RM 1 80 h0 hE) s m args below meth c H locs c1 s1 Q (F0 m 62 ls [])) → W p l e (RM 1 80 h0 hE) s m args below meth c H locs cells slots Q (F0 m 2 ls []) := by
  induction n with
  | zero =>
    intro x h H locs cells slots ls hf
    rw [plo_0] at hf
    exact (pf_no hf).elim
  | succ n ih =>
    intro x h H locs cells slots ls hf hX hW hl ke
    rw [plo_s] at hf
    obtain ⟨r, h1, e1, hf⟩ := pb_some hf
    unfold fX5_applyTo_B2 at e1
    rw [frI_eq] at e1
    refine wX5_applyTo_B2 C e1 ((pext hf).tr hX) hW hl (fun y hr H locs c1 s1 ls hW hl => ?_) (fun y hr H locs c1 s1 ls hW hl => ?_)
    · subst hr
      exact ih y hf hX hW hl ke
    · subst hr
      obtain ⟨rfl, rfl⟩ := pp_some hf
      exact ke H locs c1 s1 ls hW hl
set_option maxHeartbeats 4000000 in
set_option maxRecDepth 100000 in
theorem metX5_applyTo (l : Launch) (G : GG) (ρ : Nat → Nat) {z : Nat} {x0 : Nat} {x1 : Nat} {h hE : PH} {v : Unit} (hf : (fX5_applyTo x0 x1).1 h = some (v, hE)) : Met l yX5_applyTo (wsY yX5_applyTo cX5_applyTo 6 none) (RM 1 80 h hE) (va_Pc [.ref (ρ x0), .ref (ρ x1)] (PcB G ρ h z)) (QV G ρ hE h.length z) (DC h hE) (DS h hE) (Af ρ h.length z) := by
  refine met_start (by decide) (Nat.le_of_ble_eq_true rfl) ?_
  intro p e s m below meth c ls hz C hW hl
  subst hz
  have C : Cx G "PairSymbols$Operato\x72" cX5_applyTo 6 none "applyTo" p s m _ meth c := C
  have hx := C.1
  have hb := C.2.1
  have hX : Ext hE hE := Ext.rf hE
  have hl : lv_has ls 6 [(0, .ref (ρ x0)), (1, .ref (ρ x1))] := hl
  have hW : Wd G ρ h.length (sl h) s.heap h s.heap [] 0 0 := hW
  unfold fX5_applyTo at hf
  obtain ⟨_, e0, hf⟩ := pb_rd (rd_chk _ _) hf
  refine lv_iconst (v := 0) hx hb dX5_applyTo_0 (by decide) ?_
  refine lv_istore_n (lv' := [(2, .int (0 : Int32)), (0, .ref (ρ x0)), (1, .ref (ρ x1))]) hx hb dX5_applyTo_1 rfl hl (by decide) rfl (fun ls hl => ?_)
  obtain ⟨z14, h14, e14, hf⟩ := pb_some hf
  refine wX5_applyTo_L2 C fu _ e14 ((pext hf).tr hX) hW (lv_sub hl [1, 2, 0] rfl) (fun H locs c1 s1 ls hW hl => ?_)
  refine lv_aload_n hx hb dX5_applyTo_62 rfl (lv_at hl 0 rfl) ?_
  obtain ⟨v15, e15, hf⟩ := pb_rd (rd_gA _ _ _) hf
  refine r_gA C hW e15 flX5_22 rfl dX5_applyTo_63 ?_
  refine lv_iconst (v := 0) hx hb dX5_applyTo_66 (by decide) ?_
  refine lv_aload_n hx hb dX5_applyTo_67 rfl (lv_at hl 1 rfl) ?_
  refine lv_iconst (v := 0) hx hb dX5_applyTo_68 (by decide) ?_
  refine lv_aload_n hx hb dX5_applyTo_69 rfl (lv_at hl 0 rfl) ?_
  obtain ⟨v16, e16, hf⟩ := pb_rd (rd_gA _ _ _) hf
  refine r_gA C hW e16 flX5_22 rfl dX5_applyTo_70 ?_
  obtain ⟨v17, e17, hf⟩ := pb_rd (rd_aln _) hf
  refine r_alen C hW e17 dX5_applyTo_73 ?_
  obtain ⟨_, h18, e18, hf⟩ := pb_some hf
  refine r_acp C hW e18 (tq q_566 rfl) (tq q_324 rfl) (tq q_323 rfl) (tq q_11 rfl) hl.1 (Nat.le_of_ble_eq_true rfl) (Nat.le_of_ble_eq_true rfl) (Nat.le_of_ble_eq_true rfl) dX5_applyTo_74 (fun H locs hW => ?_)
  obtain ⟨rfl, rfl⟩ := pp_some hf
  exact r_vret C hW dX5_applyTo_77

theorem dX8_applyOperator_0 : decode cX8_applyOperator 0 = .ok (.iload_n 1, 1) := by decide +kernel
theorem dX8_applyOperator_1 : decode cX8_applyOperator 1 = .ok (.iconst 1, 1) := by decide +kernel
theorem dX8_applyOperator_2 : decode cX8_applyOperator 2 = .ok (.bipush 7, 2) := by decide +kernel
theorem dX8_applyOperator_4 : decode cX8_applyOperator 4 = .ok (.invokestatic 37, 3) := by decide +kernel
theorem dX8_applyOperator_7 : decode cX8_applyOperator 7 = .ok (.ifCond .ne 6, 3) := by decide +kernel
theorem dX8_applyOperator_10 : decode cX8_applyOperator 10 = .ok (.bipush (-2), 2) := by decide +kernel
theorem dX8_applyOperator_12 : decode cX8_applyOperator 12 = .ok (.ireturn, 1) := by decide +kernel
theorem dX8_applyOperator_13 : decode cX8_applyOperator 13 = .ok (.aload_n 0, 1) := by decide +kernel
theorem dX8_applyOperator_14 : decode cX8_applyOperator 14 = .ok (.getfield 9, 3) := by decide +kernel
theorem dX8_applyOperator_17 : decode cX8_applyOperator 17 = .ok (.iload_n 1, 1) := by decide +kernel
theorem dX8_applyOperator_18 : decode cX8_applyOperator 18 = .ok (.invokevirtual 49, 3) := by decide +kernel
theorem dX8_applyOperator_21 : decode cX8_applyOperator 21 = .ok (.astore_n 2, 1) := by decide +kernel
theorem dX8_applyOperator_22 : decode cX8_applyOperator 22 = .ok (.aload_n 2, 1) := by decide +kernel
theorem dX8_applyOperator_23 : decode cX8_applyOperator 23 = .ok (.ifnonnull 6, 3) := by decide +kernel
theorem dX8_applyOperator_26 : decode cX8_applyOperator 26 = .ok (.bipush (-3), 2) := by decide +kernel
theorem dX8_applyOperator_28 : decode cX8_applyOperator 28 = .ok (.ireturn, 1) := by decide +kernel
theorem dX8_applyOperator_29 : decode cX8_applyOperator 29 = .ok (.aload_n 2, 1) := by decide +kernel
theorem dX8_applyOperator_30 : decode cX8_applyOperator 30 = .ok (.aload_n 0, 1) := by decide +kernel
theorem dX8_applyOperator_31 : decode cX8_applyOperator 31 = .ok (.getfield 15, 3) := by decide +kernel
theorem dX8_applyOperator_34 : decode cX8_applyOperator 34 = .ok (.invokevirtual 53, 3) := by decide +kernel
theorem dX8_applyOperator_37 : decode cX8_applyOperator 37 = .ok (.aload_n 0, 1) := by decide +kernel
theorem dX8_applyOperator_38 : decode cX8_applyOperator 38 = .ok (.invokevirtual 45, 3) := by decide +kernel
theorem dX8_applyOperator_41 : decode cX8_applyOperator 41 = .ok (.ireturn, 1) := by decide +kernel
theorem kcX8_applyOperator : Cond.code yX8_applyOperator cX8_applyOperator 3 (some .int) ∈ tb := tq q_560 rfl
theorem knX8_applyOperator : Cond.initialized yX8_applyOperator.cls ∈ tb := (tq q_6 rfl)
theorem kdX8_applyOperator : yX8_applyOperator.cls ≠ "java/lang/invoke/MethodHandle" ∧ yX8_applyOperator.cls ≠ "java/lang/invoke/VarHandle" ∧ (parseMethodDescriptor yX8_applyOperator.desc).map (fun d => d.parameters.length) = some 1 := ⟨by decide +kernel, by decide +kernel, by decide +kernel⟩
theorem kiX8_applyOperator : Cond.instanceMethod yX8_applyOperator ∈ tb := (tq q_558 rfl)
theorem ksX8_applyOperator : Cond.selects yX8_applyOperator.cls yX8_applyOperator yX8_applyOperator ∈ tb := (tq q_559 rfl)
theorem tgX8_applyOperator {x0 : Nat} {x1 : Int32} {h : PH} {r : Int32 × PH} (hf : (fX8_applyOperator x0 x1).1 h = some r) : ∃ n x, nth h x0 = some (7, n, x) := by
  obtain ⟨_, _, e, _⟩ := pb_some hf
  exact (chk_some e).2
set_option maxHeartbeats 4000000 in
set_option maxRecDepth 100000 in
theorem metX8_applyOperator (l : Launch) (G : GG) (ρ : Nat → Nat) {z : Nat} {x0 : Nat} {x1 : Int32} {h hE : PH} {v : Int32} (hf : (fX8_applyOperator x0 x1).1 h = some (v, hE)) : Met l yX8_applyOperator (wsY yX8_applyOperator cX8_applyOperator 3 (some .int)) (RM 5 125 h hE) (va_Pc [.ref (ρ x0), .int x1] (PcB G ρ h z)) (QI G ρ v hE h.length z) (DC h hE) (DS h hE) (Af ρ h.length z) := by
  refine met_start (by decide) (Nat.le_of_ble_eq_true rfl) ?_
  intro p e s m below meth c ls hz C hW hl
  subst hz
  have C : Cx G "PairSymbols$State" cX8_applyOperator 3 (some .int) "applyOperato\x72" p s m _ meth c := C
  have hx := C.1
  have hb := C.2.1
  have hX : Ext hE hE := Ext.rf hE
  have hl : lv_has ls 3 [(0, .ref (ρ x0)), (1, .int x1)] := hl
  have hW : Wd G ρ h.length (sl h) s.heap h s.heap [] 0 0 := hW
  unfold fX8_applyOperator at hf
  obtain ⟨_, e0, hf⟩ := pb_rd (rd_chk _ _) hf
  refine lv_iload_n hx hb dX8_applyOperator_0 rfl (lv_at hl 1 rfl) ?_
  refine lv_iconst (v := 1) hx hb dX8_applyOperator_1 (by decide) ?_
  refine lv_bipush (v := 7) hx hb dX8_applyOperator_2 (by decide) ?_
  obtain ⟨v1, h1, e1, hf⟩ := pb_some hf
  refine r_calli hW (pext e1) (run_SN (As := [.int x1, .int (1 : Int32), .int (7 : Int32)]) (rest := []) C hW (metX9_within l G ρ e1) ⟨rfl, rfl⟩ kcX9_within (tq q_542 rfl) kiX9_within knX9_within kdX9_within ⟨Nat.le_of_ble_eq_true rfl, Nat.le_of_ble_eq_true rfl⟩ hl.1 (Nat.le_of_ble_eq_true rfl) (room_of hW (pext e1) ((pext hf).tr hX)) dX8_applyOperator_4 rfl) (fun H locs c1 s1 hW => ?_)
  refine lv_if_ne (tgt := 13) hx hb dX8_applyOperator_7 (by decide) (fun c2 => ?_) (fun c2 => ?_)
  · rw [if_neg c2] at hf
    refine lv_aload_n hx hb dX8_applyOperator_13 rfl (lv_at hl 0 rfl) ?_
    obtain ⟨v3, e3, hf⟩ := pb_rd (rd_gA _ _ _) hf
    refine r_gA C hW e3 flX8_9 rfl dX8_applyOperator_14 ?_
    refine lv_iload_n hx hb dX8_applyOperator_17 rfl (lv_at hl 1 rfl) ?_
    obtain ⟨v4, h4, e4, hf⟩ := pb_some hf
    obtain ⟨_, _, t5⟩ := tgX3_operatorFor e4
    refine r_calln hW (pext e4) (run_V (b := v3) (As := [.int x1]) (rest := []) C hW (metX3_operatorFor l G ρ e4) ⟨rfl, rfl⟩ kcX3_operatorFor (tq q_561 rfl) kiX3_operatorFor ksX3_operatorFor knX3_operatorFor kdX3_operatorFor t5 rfl rfl ⟨Nat.le_of_ble_eq_true rfl, Nat.le_of_ble_eq_true rfl⟩ hl.1 (Nat.le_of_ble_eq_true rfl) (room_of hW (pext e4) ((pext hf).tr hX)) dX8_applyOperator_18 rfl) (fun H locs c1 s1 hW => ?_)
    refine r_astQn (lv' := [(2, va_rf (Option.map ρ v4)), (0, .ref (ρ x0)), (1, .int x1)]) hx hb dX8_applyOperator_21 rfl hl (by decide) rfl (fun ls hl => ?_)
    refine r_aldQn hx hb dX8_applyOperator_22 rfl (lv_at hl 0 rfl) ?_
    rcases v4 with _ | a6
    · have hl : lv_has ls 3 [(2, .null), (0, .ref (ρ x0)), (1, .int x1)] := hl
      try dsimp only at hf
      refine lv_ifnonnullN hx hb dX8_applyOperator_23 ?_
      refine lv_bipush (v := -3) hx hb dX8_applyOperator_26 (by decide) ?_
      obtain ⟨rfl, rfl⟩ := pp_some hf
      exact r_iret C hW dX8_applyOperator_28
    · have hl : lv_has ls 3 [(2, .ref (ρ a6)), (0, .ref (ρ x0)), (1, .int x1)] := hl
      try dsimp only at hf
      refine lv_ifnonnull (tgt := 29) hx hb dX8_applyOperator_23 (by decide) ?_
      refine lv_aload_n hx hb dX8_applyOperator_29 rfl (lv_at hl 0 rfl) ?_
      refine lv_aload_n hx hb dX8_applyOperator_30 rfl (lv_at hl 1 rfl) ?_
      obtain ⟨v7, e7, hf⟩ := pb_rd (rd_gA _ _ _) hf
      refine r_gA C hW e7 flX8_15 rfl dX8_applyOperator_31 ?_
      obtain ⟨_, h8, e8, hf⟩ := pb_some hf
      obtain ⟨_, _, t9⟩ := tgX5_applyTo e8
      refine r_callv hW (pext e8) (run_V (b := a6) (As := [.ref (ρ v7)]) (rest := []) C hW (metX5_applyTo l G ρ e8) ⟨rfl, rfl⟩ kcX5_applyTo (tq q_562 rfl) kiX5_applyTo ksX5_applyTo knX5_applyTo kdX5_applyTo t9 rfl rfl ⟨Nat.le_of_ble_eq_true rfl, Nat.le_of_ble_eq_true rfl⟩ hl.1 (Nat.le_of_ble_eq_true rfl) (room_of hW (pext e8) ((pext hf).tr hX)) dX8_applyOperator_34 rfl) (fun H locs c1 s1 hW => ?_)
      refine lv_aload_n hx hb dX8_applyOperator_37 rfl (lv_at hl 1 rfl) ?_
      obtain ⟨v10, h10, e10, hf⟩ := pb_some hf
      obtain ⟨_, _, t11⟩ := tgX8_verdict e10
      refine r_calli hW (pext e10) (run_V (b := x0) (As := []) (rest := []) C hW (metX8_verdict l G ρ e10) ⟨rfl, rfl⟩ kcX8_verdict (tq q_547 rfl) kiX8_verdict ksX8_verdict knX8_verdict kdX8_verdict t11 rfl rfl ⟨Nat.le_of_ble_eq_true rfl, Nat.le_of_ble_eq_true rfl⟩ hl.1 (Nat.le_of_ble_eq_true rfl) (room_of hW (pext e10) ((pext hf).tr hX)) dX8_applyOperator_38 rfl) (fun H locs c1 s1 hW => ?_)
      obtain ⟨rfl, rfl⟩ := pp_some hf
      exact r_iret C hW dX8_applyOperator_41
  · rw [if_pos c2] at hf
    refine lv_bipush (v := -2) hx hb dX8_applyOperator_10 (by decide) ?_
    obtain ⟨rfl, rfl⟩ := pp_some hf
    exact r_iret C hW dX8_applyOperator_12

theorem dX9_applies_0 : decode cX9_applies 0 = .ok (.aload_n 0, 1) := by decide +kernel
theorem dX9_applies_1 : decode cX9_applies 1 = .ok (.getfield 27, 3) := by decide +kernel
theorem dX9_applies_4 : decode cX9_applies 4 = .ok (.aload_n 0, 1) := by decide +kernel
theorem dX9_applies_5 : decode cX9_applies 5 = .ok (.getfield 23, 3) := by decide +kernel
theorem dX9_applies_8 : decode cX9_applies 8 = .ok (.invokevirtual 51, 3) := by decide +kernel
theorem dX9_applies_11 : decode cX9_applies 11 = .ok (.aload_n 0, 1) := by decide +kernel
theorem dX9_applies_12 : decode cX9_applies 12 = .ok (.aload_n 0, 1) := by decide +kernel
theorem dX9_applies_13 : decode cX9_applies 13 = .ok (.getfield 27, 3) := by decide +kernel
theorem dX9_applies_16 : decode cX9_applies 16 = .ok (.iload_n 1, 1) := by decide +kernel
theorem dX9_applies_17 : decode cX9_applies 17 = .ok (.invokevirtual 192, 3) := by decide +kernel
theorem dX9_applies_20 : decode cX9_applies 20 = .ok (.invokevirtual 59, 3) := by decide +kernel
theorem dX9_applies_23 : decode cX9_applies 23 = .ok (.ireturn, 1) := by decide +kernel
theorem kcX9_applies : Cond.code yX9_applies cX9_applies 2 (some .int) ∈ tb := tq q_556 rfl
theorem knX9_applies : Cond.initialized yX9_applies.cls ∈ tb := (tq q_1 rfl)
theorem kdX9_applies : yX9_applies.cls ≠ "java/lang/invoke/MethodHandle" ∧ yX9_applies.cls ≠ "java/lang/invoke/VarHandle" ∧ (parseMethodDescriptor yX9_applies.desc).map (fun d => d.parameters.length) = some 1 := ⟨by decide +kernel, by decide +kernel, by decide +kernel⟩
theorem kiX9_applies : Cond.instanceMethod yX9_applies ∈ tb := (tq q_554 rfl)
theorem ksX9_applies : Cond.selects yX9_applies.cls yX9_applies yX9_applies ∈ tb := (tq q_555 rfl)
theorem tgX9_applies {x0 : Nat} {x1 : Int32} {h : PH} {r : Int32 × PH} (hf : (fX9_applies x0 x1).1 h = some r) : ∃ n x, nth h x0 = some (8, n, x) := by
  obtain ⟨_, _, e, _⟩ := pb_some hf
  exact (chk_some e).2
set_option maxHeartbeats 4000000 in
set_option maxRecDepth 100000 in
theorem metX9_applies (l : Launch) (G : GG) (ρ : Nat → Nat) {z : Nat} {x0 : Nat} {x1 : Int32} {h hE : PH} {v : Int32} (hf : (fX9_applies x0 x1).1 h = some (v, hE)) : Met l yX9_applies (wsY yX9_applies cX9_applies 2 (some .int)) (RM 6 147 h hE) (va_Pc [.ref (ρ x0), .int x1] (PcB G ρ h z)) (QI G ρ v hE h.length z) (DC h hE) (DS h hE) (Af ρ h.length z) := by
  refine met_start (by decide) (Nat.le_of_ble_eq_true rfl) ?_
  intro p e s m below meth c ls hz C hW hl
  subst hz
  have C : Cx G "PairSymbols" cX9_applies 2 (some .int) "applies" p s m _ meth c := C
  have hx := C.1
  have hb := C.2.1
  have hX : Ext hE hE := Ext.rf hE
  have hl : lv_has ls 2 [(0, .ref (ρ x0)), (1, .int x1)] := hl
  have hW : Wd G ρ h.length (sl h) s.heap h s.heap [] 0 0 := hW
  unfold fX9_applies at hf
  obtain ⟨_, e0, hf⟩ := pb_rd (rd_chk _ _) hf
  refine lv_aload_n hx hb dX9_applies_0 rfl (lv_at hl 0 rfl) ?_
  obtain ⟨v1, e1, hf⟩ := pb_rd (rd_gA _ _ _) hf
  refine r_gA C hW e1 flX9_27 rfl dX9_applies_1 ?_
  refine lv_aload_n hx hb dX9_applies_4 rfl (lv_at hl 0 rfl) ?_
  obtain ⟨v2, e2, hf⟩ := pb_rd (rd_gA _ _ _) hf
  refine r_gA C hW e2 flX9_23 rfl dX9_applies_5 ?_
  obtain ⟨_, h3, e3, hf⟩ := pb_some hf
  obtain ⟨_, _, t4⟩ := tgX8_copyFrom e3
  refine r_callv hW (pext e3) (run_V (b := v1) (As := [.ref (ρ v2)]) (rest := []) C hW (metX8_copyFrom l G ρ e3) ⟨rfl, rfl⟩ kcX8_copyFrom (tq q_318 rfl) kiX8_copyFrom ksX8_copyFrom knX8_copyFrom kdX8_copyFrom t4 rfl rfl ⟨Nat.le_of_ble_eq_true rfl, Nat.le_of_ble_eq_true rfl⟩ hl.1 (Nat.le_of_ble_eq_true rfl) (room_of hW (pext e3) ((pext hf).tr hX)) dX9_applies_8 rfl) (fun H locs c1 s1 hW => ?_)
  refine lv_aload_n hx hb dX9_applies_11 rfl (lv_at hl 0 rfl) ?_
  refine lv_aload_n hx hb dX9_applies_12 rfl (lv_at hl 0 rfl) ?_
  obtain ⟨v5, e5, hf⟩ := pb_rd (rd_gA _ _ _) hf
  refine r_gA C hW e5 flX9_27 rfl dX9_applies_13 ?_
  refine lv_iload_n hx hb dX9_applies_16 rfl (lv_at hl 1 rfl) ?_
  obtain ⟨v6, h6, e6, hf⟩ := pb_some hf
  obtain ⟨_, _, t7⟩ := tgX8_applyOperator e6
  refine r_calli hW (pext e6) (run_V (b := v5) (As := [.int x1]) (rest := [.ref (ρ x0)]) C hW (metX8_applyOperator l G ρ e6) ⟨rfl, rfl⟩ kcX8_applyOperator (tq q_557 rfl) kiX8_applyOperator ksX8_applyOperator knX8_applyOperator kdX8_applyOperator t7 rfl rfl ⟨Nat.le_of_ble_eq_true rfl, Nat.le_of_ble_eq_true rfl⟩ hl.1 (Nat.le_of_ble_eq_true rfl) (room_of hW (pext e6) ((pext hf).tr hX)) dX9_applies_17 rfl) (fun H locs c1 s1 hW => ?_)
  obtain ⟨v8, h8, e8, hf⟩ := pb_some hf
  obtain ⟨_, _, t9⟩ := tgX9_settle e8
  refine r_calli hW (pext e8) (run_V (b := x0) (As := [.int v6]) (rest := []) C hW (metX9_settle l G ρ e8) ⟨rfl, rfl⟩ kcX9_settle (tq q_339 rfl) kiX9_settle ksX9_settle knX9_settle kdX9_settle t9 rfl rfl ⟨Nat.le_of_ble_eq_true rfl, Nat.le_of_ble_eq_true rfl⟩ hl.1 (Nat.le_of_ble_eq_true rfl) (room_of hW (pext e8) ((pext hf).tr hX)) dX9_applies_20 rfl) (fun H locs c1 s1 hW => ?_)
  obtain ⟨rfl, rfl⟩ := pp_some hf
  exact r_iret C hW dX9_applies_23

theorem dX8_addPath_0 : decode cX8_addPath 0 = .ok (.iload_n 1, 1) := by decide +kernel
theorem dX8_addPath_1 : decode cX8_addPath 1 = .ok (.iconst 0, 1) := by decide +kernel
theorem dX8_addPath_2 : decode cX8_addPath 2 = .ok (.bipush 99, 2) := by decide +kernel
theorem dX8_addPath_4 : decode cX8_addPath 4 = .ok (.invokestatic 37, 3) := by decide +kernel
theorem dX8_addPath_7 : decode cX8_addPath 7 = .ok (.ifCond .eq 13, 3) := by decide +kernel
theorem dX8_addPath_10 : decode cX8_addPath 10 = .ok (.iload_n 2, 1) := by decide +kernel
theorem dX8_addPath_11 : decode cX8_addPath 11 = .ok (.iconst 1, 1) := by decide +kernel
theorem dX8_addPath_12 : decode cX8_addPath 12 = .ok (.bipush 99, 2) := by decide +kernel
theorem dX8_addPath_14 : decode cX8_addPath 14 = .ok (.invokestatic 37, 3) := by decide +kernel
theorem dX8_addPath_17 : decode cX8_addPath 17 = .ok (.ifCond .ne 6, 3) := by decide +kernel
theorem dX8_addPath_20 : decode cX8_addPath 20 = .ok (.bipush (-2), 2) := by decide +kernel
theorem dX8_addPath_22 : decode cX8_addPath 22 = .ok (.ireturn, 1) := by decide +kernel
theorem dX8_addPath_23 : decode cX8_addPath 23 = .ok (.iconst 0, 1) := by decide +kernel
theorem dX8_addPath_24 : decode cX8_addPath 24 = .ok (.istore_n 3, 1) := by decide +kernel
theorem dX8_addPath_25 : decode cX8_addPath 25 = .ok (.iconst 1, 1) := by decide +kernel
theorem dX8_addPath_26 : decode cX8_addPath 26 = .ok (.istore 4, 2) := by decide +kernel
theorem dX8_addPath_28 : decode cX8_addPath 28 = .ok (.iload_n 1, 1) := by decide +kernel
theorem dX8_addPath_29 : decode cX8_addPath 29 = .ok (.istore 5, 2) := by decide +kernel
theorem dX8_addPath_31 : decode cX8_addPath 31 = .ok (.iload_n 2, 1) := by decide +kernel
theorem dX8_addPath_32 : decode cX8_addPath 32 = .ok (.istore 6, 2) := by decide +kernel
theorem dX8_addPath_34 : decode cX8_addPath 34 = .ok (.aload_n 0, 1) := by decide +kernel
theorem dX8_addPath_35 : decode cX8_addPath 35 = .ok (.aload_n 0, 1) := by decide +kernel
theorem dX8_addPath_36 : decode cX8_addPath 36 = .ok (.getfield 9, 3) := by decide +kernel
theorem dX8_addPath_39 : decode cX8_addPath 39 = .ok (.iload_n 3, 1) := by decide +kernel
theorem dX8_addPath_40 : decode cX8_addPath 40 = .ok (.iload 4, 2) := by decide +kernel
theorem dX8_addPath_42 : decode cX8_addPath 42 = .ok (.invokevirtual 59, 3) := by decide +kernel
theorem dX8_addPath_45 : decode cX8_addPath 45 = .ok (.iconst 1, 1) := by decide +kernel
theorem dX8_addPath_46 : decode cX8_addPath 46 = .ok (.invokevirtual 41, 3) := by decide +kernel
theorem dX8_addPath_49 : decode cX8_addPath 49 = .ok (.iconst 0, 1) := by decide +kernel
theorem dX8_addPath_50 : decode cX8_addPath 50 = .ok (.istore 7, 2) := by decide +kernel
theorem dX8_addPath_52 : decode cX8_addPath 52 = .ok (.iload 7, 2) := by decide +kernel
theorem dX8_addPath_54 : decode cX8_addPath 54 = .ok (.bipush 64, 2) := by decide +kernel
theorem dX8_addPath_56 : decode cX8_addPath 56 = .ok (.if_icmp .ge 78, 3) := by decide +kernel
theorem dX8_addPath_59 : decode cX8_addPath 59 = .ok (.iload 6, 2) := by decide +kernel
theorem dX8_addPath_61 : decode cX8_addPath 61 = .ok (.ifCond .eq 73, 3) := by decide +kernel
theorem dX8_addPath_64 : decode cX8_addPath 64 = .ok (.iload 5, 2) := by decide +kernel
theorem dX8_addPath_66 : decode cX8_addPath 66 = .ok (.iload 6, 2) := by decide +kernel
theorem dX8_addPath_68 : decode cX8_addPath 68 = .ok (.idiv, 1) := by decide +kernel
theorem dX8_addPath_69 : decode cX8_addPath 69 = .ok (.istore 8, 2) := by decide +kernel
theorem dX8_addPath_71 : decode cX8_addPath 71 = .ok (.iload 5, 2) := by decide +kernel
theorem dX8_addPath_73 : decode cX8_addPath 73 = .ok (.iload 6, 2) := by decide +kernel
theorem dX8_addPath_75 : decode cX8_addPath 75 = .ok (.irem, 1) := by decide +kernel
theorem dX8_addPath_76 : decode cX8_addPath 76 = .ok (.istore 9, 2) := by decide +kernel
theorem dX8_addPath_78 : decode cX8_addPath 78 = .ok (.iload 6, 2) := by decide +kernel
theorem dX8_addPath_80 : decode cX8_addPath 80 = .ok (.istore 5, 2) := by decide +kernel
theorem dX8_addPath_82 : decode cX8_addPath 82 = .ok (.iload 9, 2) := by decide +kernel
theorem dX8_addPath_84 : decode cX8_addPath 84 = .ok (.istore 6, 2) := by decide +kernel
theorem dX8_addPath_86 : decode cX8_addPath 86 = .ok (.iload 8, 2) := by decide +kernel
theorem dX8_addPath_88 : decode cX8_addPath 88 = .ok (.iload_n 3, 1) := by decide +kernel
theorem dX8_addPath_89 : decode cX8_addPath 89 = .ok (.imul, 1) := by decide +kernel
theorem dX8_addPath_90 : decode cX8_addPath 90 = .ok (.iload 4, 2) := by decide +kernel
theorem dX8_addPath_92 : decode cX8_addPath 92 = .ok (.iadd, 1) := by decide +kernel
theorem dX8_addPath_93 : decode cX8_addPath 93 = .ok (.istore 10, 2) := by decide +kernel
theorem dX8_addPath_95 : decode cX8_addPath 95 = .ok (.iload_n 3, 1) := by decide +kernel
theorem dX8_addPath_96 : decode cX8_addPath 96 = .ok (.istore 4, 2) := by decide +kernel
theorem dX8_addPath_98 : decode cX8_addPath 98 = .ok (.iload 10, 2) := by decide +kernel
theorem dX8_addPath_100 : decode cX8_addPath 100 = .ok (.istore_n 3, 1) := by decide +kernel
theorem dX8_addPath_101 : decode cX8_addPath 101 = .ok (.aload_n 0, 1) := by decide +kernel
theorem dX8_addPath_102 : decode cX8_addPath 102 = .ok (.aload_n 0, 1) := by decide +kernel
theorem dX8_addPath_103 : decode cX8_addPath 103 = .ok (.getfield 9, 3) := by decide +kernel
theorem dX8_addPath_106 : decode cX8_addPath 106 = .ok (.iload 7, 2) := by decide +kernel
theorem dX8_addPath_108 : decode cX8_addPath 108 = .ok (.iconst 2, 1) := by decide +kernel
theorem dX8_addPath_109 : decode cX8_addPath 109 = .ok (.irem, 1) := by decide +kernel
theorem dX8_addPath_110 : decode cX8_addPath 110 = .ok (.ifCond .ne 8, 3) := by decide +kernel
theorem dX8_addPath_113 : decode cX8_addPath 113 = .ok (.iload_n 3, 1) := by decide +kernel
theorem dX8_addPath_114 : decode cX8_addPath 114 = .ok (.ineg, 1) := by decide +kernel
theorem dX8_addPath_115 : decode cX8_addPath 115 = .ok (.goto 4, 3) := by decide +kernel
theorem dX8_addPath_118 : decode cX8_addPath 118 = .ok (.iload_n 3, 1) := by decide +kernel
theorem dX8_addPath_119 : decode cX8_addPath 119 = .ok (.iload 4, 2) := by decide +kernel
theorem dX8_addPath_121 : decode cX8_addPath 121 = .ok (.invokevirtual 59, 3) := by decide +kernel
theorem dX8_addPath_124 : decode cX8_addPath 124 = .ok (.iconst 1, 1) := by decide +kernel
theorem dX8_addPath_125 : decode cX8_addPath 125 = .ok (.invokevirtual 41, 3) := by decide +kernel
theorem dX8_addPath_128 : decode cX8_addPath 128 = .ok (.iinc 7 1, 3) := by decide +kernel
theorem dX8_addPath_131 : decode cX8_addPath 131 = .ok (.goto (-79), 3) := by decide +kernel
theorem dX8_addPath_134 : decode cX8_addPath 134 = .ok (.aload_n 0, 1) := by decide +kernel
theorem dX8_addPath_135 : decode cX8_addPath 135 = .ok (.invokevirtual 45, 3) := by decide +kernel
theorem dX8_addPath_138 : decode cX8_addPath 138 = .ok (.ireturn, 1) := by decide +kernel
theorem kcX8_addPath : Cond.code yX8_addPath cX8_addPath 11 (some .int) ∈ tb := tq q_574 rfl
theorem knX8_addPath : Cond.initialized yX8_addPath.cls ∈ tb := (tq q_6 rfl)
theorem kdX8_addPath : yX8_addPath.cls ≠ "java/lang/invoke/MethodHandle" ∧ yX8_addPath.cls ≠ "java/lang/invoke/VarHandle" ∧ (parseMethodDescriptor yX8_addPath.desc).map (fun d => d.parameters.length) = some 2 := ⟨by decide +kernel, by decide +kernel, by decide +kernel⟩
theorem kiX8_addPath : Cond.instanceMethod yX8_addPath ∈ tb := (tq q_572 rfl)
theorem ksX8_addPath : Cond.selects yX8_addPath.cls yX8_addPath yX8_addPath ∈ tb := (tq q_573 rfl)
theorem tgX8_addPath {x0 : Nat} {x1 : Int32} {x2 : Int32} {h : PH} {r : Int32 × PH} (hf : (fX8_addPath x0 x1 x2).1 h = some r) : ∃ n x, nth h x0 = some (7, n, x) := by
  obtain ⟨_, _, e, _⟩ := pb_some hf
  exact (chk_some e).2
set_option maxHeartbeats 4000000 in
set_option maxRecDepth 100000 in
theorem wX8_addPath_B52 {p : Program} {l : Launch} {e : Env} {s : State} {m : MethodId} {args : Array Value} {below : List Frame} {meth : Method} {c : Code} {G : GG} {ρ : Nat → Nat} {h0 hE hB : PH} {Q : State → Prop} {x0 : Nat} (C : Cx G "PairSymbols$State" cX8_addPath 11 (some .int) "addPath" p s m args meth c) {x3 : Int32} {x4 : Int32} {x5 : Int32} {x6 : Int32} {x7 : Int32} {h : PH} {H : Heap} {locs : List Loc} {cells slots : Nat} {ls : Array Slot} {r : (Int32 × Int32 × Int32 × Int32 × Int32) ⊕ (Unit)} (hf : (fX8_addPath_b52 x0 x3 x4 x5 x6 x7).1 h = some (r, hB)) (hX : Ext hB hE) (hW : Wd G ρ h0.length (sl h0) s.heap h H locs cells slots) (hl : lv_has ls 11 [(0, .ref (ρ x0)), (3, .int x3), (4, .int x4), (5, .int x5), (6, .int x6), (7, .int x7)]) (kc : ∀ y : Int32 × Int32 × Int32 × Int32 × Int32, r = .inl y → ∀ (H : Heap) (locs : List Loc) (c1 s1 : Nat) (ls : Array Slot), Wd G ρ h0.length (sl h0) s.heap hB H locs c1 s1 → lv_has ls 11 [(0, .ref (ρ x0)), (3, .int y.1), (4, .int y.2.1), (5, .int y.2.2.1), (6, .int y.2.2.2.1), (7, .int y.2.2.2.2)] → W p l e (RM 2 44 h0 hE) s m args below meth c H locs c1 s1 Q (F0 m 52 ls [])) (ke : ∀ z : Unit, r = .inr z → ∀ (H : Heap) (locs : List Loc) (c1 s1 : Nat) (ls : Array Slot), Wd G ρ h0.length (sl h0) s.heap hB H locs c1 s1 → lv_has ls 11 [(0, .ref (ρ x0))] → W p l e (RM 2 44 h0 hE) s m args below meth c H locs c1 s1 Q (F0 m 134 ls [])) : W p l e (RM 2 44 h0 hE) s m args below meth c H locs cells slots Q (F0 m 52 ls []) := by
  have hx := C.1
  have hb := C.2.1
  unfold fX8_addPath_b52 at hf
  refine lv_iload hx hb dX8_addPath_52 (lv_at hl 5 rfl) ?_
  refine lv_bipush (v := 64) hx hb dX8_addPath_54 (by decide) ?_
  refine lv_icmp_ge (tgt := 134) hx hb dX8_addPath_56 (by decide) (fun c10 => ?_) (fun c10 => ?_)
  · rw [if_pos c10] at hf
    obtain ⟨rfl, rfl⟩ := pp_some hf
    exact ke _ rfl _ _ _ _ _ hW (lv_sub hl [0] rfl)
  · rw [if_neg c10] at hf
    refine lv_iload hx hb dX8_addPath_59 (lv_at hl 4 rfl) ?_
    refine lv_if_eq (tgt := 134) hx hb dX8_addPath_61 (by decide) (fun c11 => ?_) (fun c11 => ?_)
    · rw [if_pos c11] at hf
      obtain ⟨rfl, rfl⟩ := pp_some hf
      exact ke _ rfl _ _ _ _ _ hW (lv_sub hl [0] rfl)
    · rw [if_neg c11] at hf
      refine lv_iload hx hb dX8_addPath_64 (lv_at hl 3 rfl) ?_
      refine lv_iload hx hb dX8_addPath_66 (lv_at hl 4 rfl) ?_
      by_cases c12 : x6 = 0
      · rw [if_pos c12] at hf
        exact (pf_no hf).elim
      rw [if_neg c12] at hf
      refine lv_idiv hx hb dX8_addPath_68 c12 ?_
      refine lv_istore (lv' := [(8, .int (x5 / x6)), (0, .ref (ρ x0)), (3, .int x3), (4, .int x4), (5, .int x5), (6, .int x6), (7, .int x7)]) hx hb dX8_addPath_69 hl (by decide) rfl (fun ls hl => ?_)
      refine lv_iload hx hb dX8_addPath_71 (lv_at hl 4 rfl) ?_
      refine lv_iload hx hb dX8_addPath_73 (lv_at hl 5 rfl) ?_
      by_cases c13 : x6 = 0
      · rw [if_pos c13] at hf
        exact (pf_no hf).elim
      rw [if_neg c13] at hf
      refine lv_irem hx hb dX8_addPath_75 c13 ?_
      refine lv_istore (lv' := [(9, .int (x5 - x5 / x6 * x6)), (8, .int (x5 / x6)), (0, .ref (ρ x0)), (3, .int x3), (4, .int x4), (5, .int x5), (6, .int x6), (7, .int x7)]) hx hb dX8_addPath_76 hl (by decide) rfl (fun ls hl => ?_)
      refine lv_iload hx hb dX8_addPath_78 (lv_at hl 6 rfl) ?_
      refine lv_istore (lv' := [(5, .int x6), (9, .int (x5 - x5 / x6 * x6)), (8, .int (x5 / x6)), (0, .ref (ρ x0)), (3, .int x3), (4, .int x4), (6, .int x6), (7, .int x7)]) hx hb dX8_addPath_80 hl (by decide) rfl (fun ls hl => ?_)
      refine lv_iload hx hb dX8_addPath_82 (lv_at hl 1 rfl) ?_
      refine lv_istore (lv' := [(6, .int (x5 - x5 / x6 * x6)), (5, .int x6), (9, .int (x5 - x5 / x6 * x6)), (8, .int (x5 / x6)), (0, .ref (ρ x0)), (3, .int x3), (4, .int x4), (7, .int x7)]) hx hb dX8_addPath_84 hl (by decide) rfl (fun ls hl => ?_)
      refine lv_iload hx hb dX8_addPath_86 (lv_at hl 3 rfl) ?_
      refine lv_iload_n hx hb dX8_addPath_88 rfl (lv_at hl 5 rfl) ?_
      refine lv_imul hx hb dX8_addPath_89 ?_
      refine lv_iload hx hb dX8_addPath_90 (lv_at hl 6 rfl) ?_
      refine lv_iadd hx hb dX8_addPath_92 ?_
      refine lv_istore (lv' := [(10, .int (((x5 / x6) * x3) + x4)), (6, .int (x5 - x5 / x6 * x6)), (5, .int x6), (9, .int (x5 - x5 / x6 * x6)), (8, .int (x5 / x6)), (0, .ref (ρ x0)), (3, .int x3), (4, .int x4), (7, .int x7)]) hx hb dX8_addPath_93 hl (by decide) rfl (fun ls hl => ?_)
      refine lv_iload_n hx hb dX8_addPath_95 rfl (lv_at hl 6 rfl) ?_
      refine lv_istore (lv' := [(4, .int x3), (10, .int (((x5 / x6) * x3) + x4)), (6, .int (x5 - x5 / x6 * x6)), (5, .int x6), (9, .int (x5 - x5 / x6 * x6)), (8, .int (x5 / x6)), (0, .ref (ρ x0)), (3, .int x3), (7, .int x7)]) hx hb dX8_addPath_96 hl (by decide) rfl (fun ls hl => ?_)
      refine lv_iload hx hb dX8_addPath_98 (lv_at hl 1 rfl) ?_
      refine lv_istore_n (lv' := [(3, .int (((x5 / x6) * x3) + x4)), (4, .int x3), (10, .int (((x5 / x6) * x3) + x4)), (6, .int (x5 - x5 / x6 * x6)), (5, .int x6), (9, .int (x5 - x5 / x6 * x6)), (8, .int (x5 / x6)), (0, .ref (ρ x0)), (7, .int x7)]) hx hb dX8_addPath_100 rfl hl (by decide) rfl (fun ls hl => ?_)
      refine lv_aload_n hx hb dX8_addPath_101 rfl (lv_at hl 7 rfl) ?_
      refine lv_aload_n hx hb dX8_addPath_102 rfl (lv_at hl 7 rfl) ?_
      obtain ⟨v14, e14, hf⟩ := pb_rd (rd_gA _ _ _) hf
      refine r_gA C hW e14 flX8_9 rfl dX8_addPath_103 ?_
      refine lv_iload hx hb dX8_addPath_106 (lv_at hl 8 rfl) ?_
      refine lv_iconst (v := 2) hx hb dX8_addPath_108 (by decide) ?_
      refine lv_irem hx hb dX8_addPath_109 (by decide) ?_
      refine lv_if_ne (tgt := 118) hx hb dX8_addPath_110 (by decide) (fun c15 => ?_) (fun c15 => ?_)
      · rw [if_neg c15] at hf
        refine lv_iload_n hx hb dX8_addPath_118 rfl (lv_at hl 0 rfl) ?_
        refine lv_iload hx hb dX8_addPath_119 (lv_at hl 1 rfl) ?_
        obtain ⟨v16, h16, e16, hf⟩ := pb_some hf
        obtain ⟨_, _, t17⟩ := tgX3_find e16
        refine r_calli hW (pext e16) (run_V (b := v14) (As := [.int (((x5 / x6) * x3) + x4), .int x3]) (rest := [.ref (ρ x0)]) C hW (metX3_find l G ρ e16) ⟨rfl, rfl⟩ kcX3_find (tq q_575 rfl) kiX3_find ksX3_find knX3_find kdX3_find t17 rfl rfl ⟨Nat.le_of_ble_eq_true rfl, Nat.le_of_ble_eq_true rfl⟩ hl.1 (Nat.le_of_ble_eq_true rfl) (room_of hW (pext e16) ((pext hf).tr hX)) dX8_addPath_121 rfl) (fun H locs c1 s1 hW => ?_)
        refine lv_iconst (v := 1) hx hb dX8_addPath_124 (by decide) ?_
        obtain ⟨_, h18, e18, hf⟩ := pb_some hf
        obtain ⟨_, _, t19⟩ := tgX8_addSymbol e18
        refine r_callv hW (pext e18) (run_V (b := x0) (As := [.int v16, .int (1 : Int32)]) (rest := []) C hW (metX8_addSymbol l G ρ e18) ⟨rfl, rfl⟩ kcX8_addSymbol (tq q_543 rfl) kiX8_addSymbol ksX8_addSymbol knX8_addSymbol kdX8_addSymbol t19 rfl rfl ⟨Nat.le_of_ble_eq_true rfl, Nat.le_of_ble_eq_true rfl⟩ hl.1 (Nat.le_of_ble_eq_true rfl) (room_of hW (pext e18) ((pext hf).tr hX)) dX8_addPath_125 rfl) (fun H locs c1 s1 hW => ?_)
        refine lv_iinc (v := (x7 + 1)) (lv' := [(7, .int (x7 + 1)), (3, .int (((x5 / x6) * x3) + x4)), (4, .int x3), (10, .int (((x5 / x6) * x3) + x4)), (6, .int (x5 - x5 / x6 * x6)), (5, .int x6), (9, .int (x5 - x5 / x6 * x6)), (8, .int (x5 / x6)), (0, .ref (ρ x0))]) hx hb dX8_addPath_128 hl (k := 8) rfl rfl (by decide) rfl (fun ls hl => ?_)
        refine lv_goto (tgt := 52) hx hb dX8_addPath_131 (by decide) ?_
        obtain ⟨rfl, rfl⟩ := pp_some hf
        exact kc _ rfl _ _ _ _ _ hW (lv_sub hl [8, 1, 2, 5, 4, 0] rfl)
      · rw [if_pos c15] at hf
        refine lv_iload_n hx hb dX8_addPath_113 rfl (lv_at hl 0 rfl) ?_
        refine lv_ineg hx hb dX8_addPath_114 ?_
        refine lv_goto (tgt := 119) hx hb dX8_addPath_115 (by decide) ?_
        refine lv_iload hx hb dX8_addPath_119 (lv_at hl 1 rfl) ?_
        obtain ⟨v20, h20, e20, hf⟩ := pb_some hf
        obtain ⟨_, _, t21⟩ := tgX3_find e20
        refine r_calli hW (pext e20) (run_V (b := v14) (As := [.int (-(((x5 / x6) * x3) + x4)), .int x3]) (rest := [.ref (ρ x0)]) C hW (metX3_find l G ρ e20) ⟨rfl, rfl⟩ kcX3_find (tq q_575 rfl) kiX3_find ksX3_find knX3_find kdX3_find t21 rfl rfl ⟨Nat.le_of_ble_eq_true rfl, Nat.le_of_ble_eq_true rfl⟩ hl.1 (Nat.le_of_ble_eq_true rfl) (room_of hW (pext e20) ((pext hf).tr hX)) dX8_addPath_121 rfl) (fun H locs c1 s1 hW => ?_)
        refine lv_iconst (v := 1) hx hb dX8_addPath_124 (by decide) ?_
        obtain ⟨_, h22, e22, hf⟩ := pb_some hf
        obtain ⟨_, _, t23⟩ := tgX8_addSymbol e22
        refine r_callv hW (pext e22) (run_V (b := x0) (As := [.int v20, .int (1 : Int32)]) (rest := []) C hW (metX8_addSymbol l G ρ e22) ⟨rfl, rfl⟩ kcX8_addSymbol (tq q_543 rfl) kiX8_addSymbol ksX8_addSymbol knX8_addSymbol kdX8_addSymbol t23 rfl rfl ⟨Nat.le_of_ble_eq_true rfl, Nat.le_of_ble_eq_true rfl⟩ hl.1 (Nat.le_of_ble_eq_true rfl) (room_of hW (pext e22) ((pext hf).tr hX)) dX8_addPath_125 rfl) (fun H locs c1 s1 hW => ?_)
        refine lv_iinc (v := (x7 + 1)) (lv' := [(7, .int (x7 + 1)), (3, .int (((x5 / x6) * x3) + x4)), (4, .int x3), (10, .int (((x5 / x6) * x3) + x4)), (6, .int (x5 - x5 / x6 * x6)), (5, .int x6), (9, .int (x5 - x5 / x6 * x6)), (8, .int (x5 / x6)), (0, .ref (ρ x0))]) hx hb dX8_addPath_128 hl (k := 8) rfl rfl (by decide) rfl (fun ls hl => ?_)
        refine lv_goto (tgt := 52) hx hb dX8_addPath_131 (by decide) ?_
        obtain ⟨rfl, rfl⟩ := pp_some hf
        exact kc _ rfl _ _ _ _ _ hW (lv_sub hl [8, 1, 2, 5, 4, 0] rfl)
set_option maxHeartbeats 4000000 in
theorem wX8_addPath_L52 {p : Program} {l : Launch} {e : Env} {s : State} {m : MethodId} {args : Array Value} {below : List Frame} {meth : Method} {c : Code} {G : GG} {ρ : Nat → Nat} {h0 hE hB : PH} {Q : State → Prop} {x0 : Nat} (C : Cx G "PairSymbols$State" cX8_addPath 11 (some .int) "addPath" p s m args meth c) {z : (Unit)} (n : Nat) : ∀ (x : Int32 × Int32 × Int32 × Int32 × Int32) {h : PH} {H : Heap} {locs : List Loc} {cells slots : Nat} {ls : Array Slot}, (plo (fX8_addPath_B52 x0) n x).1 h = some (z, hB) → Ext hB hE → Wd G ρ h0.length (sl h0) s.heap h H locs cells slots → lv_has ls 11 [(0, .ref (ρ x0)), (3, .int x.1), (4, .int x.2.1), (5, .int x.2.2.1), (6, .int x.2.2.2.1), (7, .int x.2.2.2.2)] → (ke : ∀ (H : Heap) (locs : List Loc) (c1 s1 : Nat) (ls : Array Slot), Wd G ρ h0.length (sl h0) s.heap hB H locs c1 s1 → lv_has ls 11 [(0, .ref (ρ x0))] → W p l e (RM 2 44 h0 hE) s m args below meth c H locs c1 s1 Q (F0 m 134 ls [])) → W p l e (RM 2 44 h0 hE) s m args below meth c H locs cells slots Q (F0 m 52 ls []) := by
  induction n with
  | zero =>
    intro x h H locs cells slots ls hf
    rw [plo_0] at hf
    exact (pf_no hf).elim
  | succ n ih =>
    intro x h H locs cells slots ls hf hX hW hl ke
    rw [plo_s] at hf
    obtain ⟨r, h1, e1, hf⟩ := pb_some hf
    unfold fX8_addPath_B52 at e1
    rw [frI_eq, frI_eq, frI_eq, frI_eq, frI_eq] at e1
    refine wX8_addPath_B52 C e1 ((pext hf).tr hX) hW hl (fun y hr H locs c1 s1 ls hW hl => ?_) (fun y hr H locs c1 s1 ls hW hl => ?_)
    · subst hr
      exact ih y hf hX hW hl ke
    · subst hr
      obtain ⟨rfl, rfl⟩ := pp_some hf
      exact ke H locs c1 s1 ls hW hl
set_option maxHeartbeats 4000000 in
set_option maxRecDepth 100000 in
theorem metX8_addPath (l : Launch) (G : GG) (ρ : Nat → Nat) {z : Nat} {x0 : Nat} {x1 : Int32} {x2 : Int32} {h hE : PH} {v : Int32} (hf : (fX8_addPath x0 x1 x2).1 h = some (v, hE)) : Met l yX8_addPath (wsY yX8_addPath cX8_addPath 11 (some .int)) (RM 2 44 h hE) (va_Pc [.ref (ρ x0), .int x1, .int x2] (PcB G ρ h z)) (QI G ρ v hE h.length z) (DC h hE) (DS h hE) (Af ρ h.length z) := by
  refine met_start (by decide) (Nat.le_of_ble_eq_true rfl) ?_
  intro p e s m below meth c ls hz C hW hl
  subst hz
  have C : Cx G "PairSymbols$State" cX8_addPath 11 (some .int) "addPath" p s m _ meth c := C
  have hx := C.1
  have hb := C.2.1
  have hX : Ext hE hE := Ext.rf hE
  have hl : lv_has ls 11 [(0, .ref (ρ x0)), (1, .int x1), (2, .int x2)] := hl
  have hW : Wd G ρ h.length (sl h) s.heap h s.heap [] 0 0 := hW
  unfold fX8_addPath at hf
  obtain ⟨_, e0, hf⟩ := pb_rd (rd_chk _ _) hf
  refine lv_iload_n hx hb dX8_addPath_0 rfl (lv_at hl 1 rfl) ?_
  refine lv_iconst (v := 0) hx hb dX8_addPath_1 (by decide) ?_
  refine lv_bipush (v := 99) hx hb dX8_addPath_2 (by decide) ?_
  obtain ⟨v1, h1, e1, hf⟩ := pb_some hf
  refine r_calli hW (pext e1) (run_SN (As := [.int x1, .int (0 : Int32), .int (99 : Int32)]) (rest := []) C hW (metX9_within l G ρ e1) ⟨rfl, rfl⟩ kcX9_within (tq q_542 rfl) kiX9_within knX9_within kdX9_within ⟨Nat.le_of_ble_eq_true rfl, Nat.le_of_ble_eq_true rfl⟩ hl.1 (Nat.le_of_ble_eq_true rfl) (room_of hW (pext e1) ((pext hf).tr hX)) dX8_addPath_4 rfl) (fun H locs c1 s1 hW => ?_)
  refine lv_if_eq (tgt := 20) hx hb dX8_addPath_7 (by decide) (fun c2 => ?_) (fun c2 => ?_)
  · rw [if_pos c2] at hf
    refine lv_bipush (v := -2) hx hb dX8_addPath_20 (by decide) ?_
    obtain ⟨rfl, rfl⟩ := pp_some hf
    exact r_iret C hW dX8_addPath_22
  · rw [if_neg c2] at hf
    refine lv_iload_n hx hb dX8_addPath_10 rfl (lv_at hl 2 rfl) ?_
    refine lv_iconst (v := 1) hx hb dX8_addPath_11 (by decide) ?_
    refine lv_bipush (v := 99) hx hb dX8_addPath_12 (by decide) ?_
    obtain ⟨v3, h3, e3, hf⟩ := pb_some hf
    refine r_calli hW (pext e3) (run_SN (As := [.int x2, .int (1 : Int32), .int (99 : Int32)]) (rest := []) C hW (metX9_within l G ρ e3) ⟨rfl, rfl⟩ kcX9_within (tq q_542 rfl) kiX9_within knX9_within kdX9_within ⟨Nat.le_of_ble_eq_true rfl, Nat.le_of_ble_eq_true rfl⟩ hl.1 (Nat.le_of_ble_eq_true rfl) (room_of hW (pext e3) ((pext hf).tr hX)) dX8_addPath_14 rfl) (fun H locs c1 s1 hW => ?_)
    refine lv_if_ne (tgt := 23) hx hb dX8_addPath_17 (by decide) (fun c4 => ?_) (fun c4 => ?_)
    · rw [if_neg c4] at hf
      refine lv_iconst (v := 0) hx hb dX8_addPath_23 (by decide) ?_
      refine lv_istore_n (lv' := [(3, .int (0 : Int32)), (0, .ref (ρ x0)), (1, .int x1), (2, .int x2)]) hx hb dX8_addPath_24 rfl hl (by decide) rfl (fun ls hl => ?_)
      refine lv_iconst (v := 1) hx hb dX8_addPath_25 (by decide) ?_
      refine lv_istore (lv' := [(4, .int (1 : Int32)), (3, .int (0 : Int32)), (0, .ref (ρ x0)), (1, .int x1), (2, .int x2)]) hx hb dX8_addPath_26 hl (by decide) rfl (fun ls hl => ?_)
      refine lv_iload_n hx hb dX8_addPath_28 rfl (lv_at hl 3 rfl) ?_
      refine lv_istore (lv' := [(5, .int x1), (4, .int (1 : Int32)), (3, .int (0 : Int32)), (0, .ref (ρ x0)), (1, .int x1), (2, .int x2)]) hx hb dX8_addPath_29 hl (by decide) rfl (fun ls hl => ?_)
      refine lv_iload_n hx hb dX8_addPath_31 rfl (lv_at hl 5 rfl) ?_
      refine lv_istore (lv' := [(6, .int x2), (5, .int x1), (4, .int (1 : Int32)), (3, .int (0 : Int32)), (0, .ref (ρ x0)), (1, .int x1), (2, .int x2)]) hx hb dX8_addPath_32 hl (by decide) rfl (fun ls hl => ?_)
      refine lv_aload_n hx hb dX8_addPath_34 rfl (lv_at hl 4 rfl) ?_
      refine lv_aload_n hx hb dX8_addPath_35 rfl (lv_at hl 4 rfl) ?_
      obtain ⟨v5, e5, hf⟩ := pb_rd (rd_gA _ _ _) hf
      refine r_gA C hW e5 flX8_9 rfl dX8_addPath_36 ?_
      refine lv_iload_n hx hb dX8_addPath_39 rfl (lv_at hl 3 rfl) ?_
      refine lv_iload hx hb dX8_addPath_40 (lv_at hl 2 rfl) ?_
      obtain ⟨v6, h6, e6, hf⟩ := pb_some hf
      obtain ⟨_, _, t7⟩ := tgX3_find e6
      refine r_calli hW (pext e6) (run_V (b := v5) (As := [.int (0 : Int32), .int (1 : Int32)]) (rest := [.ref (ρ x0)]) C hW (metX3_find l G ρ e6) ⟨rfl, rfl⟩ kcX3_find (tq q_575 rfl) kiX3_find ksX3_find knX3_find kdX3_find t7 rfl rfl ⟨Nat.le_of_ble_eq_true rfl, Nat.le_of_ble_eq_true rfl⟩ hl.1 (Nat.le_of_ble_eq_true rfl) (room_of hW (pext e6) ((pext hf).tr hX)) dX8_addPath_42 rfl) (fun H locs c1 s1 hW => ?_)
      refine lv_iconst (v := 1) hx hb dX8_addPath_45 (by decide) ?_
      obtain ⟨_, h8, e8, hf⟩ := pb_some hf
      obtain ⟨_, _, t9⟩ := tgX8_addSymbol e8
      refine r_callv hW (pext e8) (run_V (b := x0) (As := [.int v6, .int (1 : Int32)]) (rest := []) C hW (metX8_addSymbol l G ρ e8) ⟨rfl, rfl⟩ kcX8_addSymbol (tq q_543 rfl) kiX8_addSymbol ksX8_addSymbol knX8_addSymbol kdX8_addSymbol t9 rfl rfl ⟨Nat.le_of_ble_eq_true rfl, Nat.le_of_ble_eq_true rfl⟩ hl.1 (Nat.le_of_ble_eq_true rfl) (room_of hW (pext e8) ((pext hf).tr hX)) dX8_addPath_46 rfl) (fun H locs c1 s1 hW => ?_)
      refine lv_iconst (v := 0) hx hb dX8_addPath_49 (by decide) ?_
      refine lv_istore (lv' := [(7, .int (0 : Int32)), (6, .int x2), (5, .int x1), (4, .int (1 : Int32)), (3, .int (0 : Int32)), (0, .ref (ρ x0)), (1, .int x1), (2, .int x2)]) hx hb dX8_addPath_50 hl (by decide) rfl (fun ls hl => ?_)
      obtain ⟨z24, h24, e24, hf⟩ := pb_some hf
      refine wX8_addPath_L52 C fu _ e24 ((pext hf).tr hX) hW (lv_sub hl [5, 4, 3, 2, 1, 0] rfl) (fun H locs c1 s1 ls hW hl => ?_)
      refine lv_aload_n hx hb dX8_addPath_134 rfl (lv_at hl 0 rfl) ?_
      obtain ⟨v25, h25, e25, hf⟩ := pb_some hf
      obtain ⟨_, _, t26⟩ := tgX8_verdict e25
      refine r_calli hW (pext e25) (run_V (b := x0) (As := []) (rest := []) C hW (metX8_verdict l G ρ e25) ⟨rfl, rfl⟩ kcX8_verdict (tq q_547 rfl) kiX8_verdict ksX8_verdict knX8_verdict kdX8_verdict t26 rfl rfl ⟨Nat.le_of_ble_eq_true rfl, Nat.le_of_ble_eq_true rfl⟩ hl.1 (Nat.le_of_ble_eq_true rfl) (room_of hW (pext e25) ((pext hf).tr hX)) dX8_addPath_135 rfl) (fun H locs c1 s1 hW => ?_)
      obtain ⟨rfl, rfl⟩ := pp_some hf
      exact r_iret C hW dX8_addPath_138
    · rw [if_pos c4] at hf
      refine lv_bipush (v := -2) hx hb dX8_addPath_20 (by decide) ?_
      obtain ⟨rfl, rfl⟩ := pp_some hf
      exact r_iret C hW dX8_addPath_22

theorem dX9_walks_0 : decode cX9_walks 0 = .ok (.aload_n 0, 1) := by decide +kernel
theorem dX9_walks_1 : decode cX9_walks 1 = .ok (.getfield 27, 3) := by decide +kernel
theorem dX9_walks_4 : decode cX9_walks 4 = .ok (.aload_n 0, 1) := by decide +kernel
theorem dX9_walks_5 : decode cX9_walks 5 = .ok (.getfield 23, 3) := by decide +kernel
theorem dX9_walks_8 : decode cX9_walks 8 = .ok (.invokevirtual 51, 3) := by decide +kernel
theorem dX9_walks_11 : decode cX9_walks 11 = .ok (.aload_n 0, 1) := by decide +kernel
theorem dX9_walks_12 : decode cX9_walks 12 = .ok (.aload_n 0, 1) := by decide +kernel
theorem dX9_walks_13 : decode cX9_walks 13 = .ok (.getfield 27, 3) := by decide +kernel
theorem dX9_walks_16 : decode cX9_walks 16 = .ok (.iload_n 1, 1) := by decide +kernel
theorem dX9_walks_17 : decode cX9_walks 17 = .ok (.iload_n 2, 1) := by decide +kernel
theorem dX9_walks_18 : decode cX9_walks 18 = .ok (.invokevirtual 195, 3) := by decide +kernel
theorem dX9_walks_21 : decode cX9_walks 21 = .ok (.invokevirtual 59, 3) := by decide +kernel
theorem dX9_walks_24 : decode cX9_walks 24 = .ok (.ireturn, 1) := by decide +kernel
theorem kcX9_walks : Cond.code yX9_walks cX9_walks 3 (some .int) ∈ tb := tq q_570 rfl
theorem knX9_walks : Cond.initialized yX9_walks.cls ∈ tb := (tq q_1 rfl)
theorem kdX9_walks : yX9_walks.cls ≠ "java/lang/invoke/MethodHandle" ∧ yX9_walks.cls ≠ "java/lang/invoke/VarHandle" ∧ (parseMethodDescriptor yX9_walks.desc).map (fun d => d.parameters.length) = some 2 := ⟨by decide +kernel, by decide +kernel, by decide +kernel⟩
theorem kiX9_walks : Cond.instanceMethod yX9_walks ∈ tb := (tq q_568 rfl)
theorem ksX9_walks : Cond.selects yX9_walks.cls yX9_walks yX9_walks ∈ tb := (tq q_569 rfl)
theorem tgX9_walks {x0 : Nat} {x1 : Int32} {x2 : Int32} {h : PH} {r : Int32 × PH} (hf : (fX9_walks x0 x1 x2).1 h = some r) : ∃ n x, nth h x0 = some (8, n, x) := by
  obtain ⟨_, _, e, _⟩ := pb_some hf
  exact (chk_some e).2
set_option maxHeartbeats 4000000 in
set_option maxRecDepth 100000 in
theorem metX9_walks (l : Launch) (G : GG) (ρ : Nat → Nat) {z : Nat} {x0 : Nat} {x1 : Int32} {x2 : Int32} {h hE : PH} {v : Int32} (hf : (fX9_walks x0 x1 x2).1 h = some (v, hE)) : Met l yX9_walks (wsY yX9_walks cX9_walks 3 (some .int)) (RM 4 143 h hE) (va_Pc [.ref (ρ x0), .int x1, .int x2] (PcB G ρ h z)) (QI G ρ v hE h.length z) (DC h hE) (DS h hE) (Af ρ h.length z) := by
  refine met_start (by decide) (Nat.le_of_ble_eq_true rfl) ?_
  intro p e s m below meth c ls hz C hW hl
  subst hz
  have C : Cx G "PairSymbols" cX9_walks 3 (some .int) "walks" p s m _ meth c := C
  have hx := C.1
  have hb := C.2.1
  have hX : Ext hE hE := Ext.rf hE
  have hl : lv_has ls 3 [(0, .ref (ρ x0)), (1, .int x1), (2, .int x2)] := hl
  have hW : Wd G ρ h.length (sl h) s.heap h s.heap [] 0 0 := hW
  unfold fX9_walks at hf
  obtain ⟨_, e0, hf⟩ := pb_rd (rd_chk _ _) hf
  refine lv_aload_n hx hb dX9_walks_0 rfl (lv_at hl 0 rfl) ?_
  obtain ⟨v1, e1, hf⟩ := pb_rd (rd_gA _ _ _) hf
  refine r_gA C hW e1 flX9_27 rfl dX9_walks_1 ?_
  refine lv_aload_n hx hb dX9_walks_4 rfl (lv_at hl 0 rfl) ?_
  obtain ⟨v2, e2, hf⟩ := pb_rd (rd_gA _ _ _) hf
  refine r_gA C hW e2 flX9_23 rfl dX9_walks_5 ?_
  obtain ⟨_, h3, e3, hf⟩ := pb_some hf
  obtain ⟨_, _, t4⟩ := tgX8_copyFrom e3
  refine r_callv hW (pext e3) (run_V (b := v1) (As := [.ref (ρ v2)]) (rest := []) C hW (metX8_copyFrom l G ρ e3) ⟨rfl, rfl⟩ kcX8_copyFrom (tq q_318 rfl) kiX8_copyFrom ksX8_copyFrom knX8_copyFrom kdX8_copyFrom t4 rfl rfl ⟨Nat.le_of_ble_eq_true rfl, Nat.le_of_ble_eq_true rfl⟩ hl.1 (Nat.le_of_ble_eq_true rfl) (room_of hW (pext e3) ((pext hf).tr hX)) dX9_walks_8 rfl) (fun H locs c1 s1 hW => ?_)
  refine lv_aload_n hx hb dX9_walks_11 rfl (lv_at hl 0 rfl) ?_
  refine lv_aload_n hx hb dX9_walks_12 rfl (lv_at hl 0 rfl) ?_
  obtain ⟨v5, e5, hf⟩ := pb_rd (rd_gA _ _ _) hf
  refine r_gA C hW e5 flX9_27 rfl dX9_walks_13 ?_
  refine lv_iload_n hx hb dX9_walks_16 rfl (lv_at hl 1 rfl) ?_
  refine lv_iload_n hx hb dX9_walks_17 rfl (lv_at hl 2 rfl) ?_
  obtain ⟨v6, h6, e6, hf⟩ := pb_some hf
  obtain ⟨_, _, t7⟩ := tgX8_addPath e6
  refine r_calli hW (pext e6) (run_V (b := v5) (As := [.int x1, .int x2]) (rest := [.ref (ρ x0)]) C hW (metX8_addPath l G ρ e6) ⟨rfl, rfl⟩ kcX8_addPath (tq q_571 rfl) kiX8_addPath ksX8_addPath knX8_addPath kdX8_addPath t7 rfl rfl ⟨Nat.le_of_ble_eq_true rfl, Nat.le_of_ble_eq_true rfl⟩ hl.1 (Nat.le_of_ble_eq_true rfl) (room_of hW (pext e6) ((pext hf).tr hX)) dX9_walks_18 rfl) (fun H locs c1 s1 hW => ?_)
  obtain ⟨v8, h8, e8, hf⟩ := pb_some hf
  obtain ⟨_, _, t9⟩ := tgX9_settle e8
  refine r_calli hW (pext e8) (run_V (b := x0) (As := [.int v6]) (rest := []) C hW (metX9_settle l G ρ e8) ⟨rfl, rfl⟩ kcX9_settle (tq q_339 rfl) kiX9_settle ksX9_settle knX9_settle kdX9_settle t9 rfl rfl ⟨Nat.le_of_ble_eq_true rfl, Nat.le_of_ble_eq_true rfl⟩ hl.1 (Nat.le_of_ble_eq_true rfl) (room_of hW (pext e8) ((pext hf).tr hX)) dX9_walks_21 rfl) (fun H locs c1 s1 hW => ?_)
  obtain ⟨rfl, rfl⟩ := pp_some hf
  exact r_iret C hW dX9_walks_24

theorem dX9_sum_0 : decode cX9_sum 0 = .ok (.aload_n 0, 1) := by decide +kernel
theorem dX9_sum_1 : decode cX9_sum 1 = .ok (.getfield 23, 3) := by decide +kernel
theorem dX9_sum_4 : decode cX9_sum 4 = .ok (.getfield 62, 3) := by decide +kernel
theorem dX9_sum_7 : decode cX9_sum 7 = .ok (.iload_n 1, 1) := by decide +kernel
theorem dX9_sum_8 : decode cX9_sum 8 = .ok (.invokevirtual 126, 3) := by decide +kernel
theorem dX9_sum_11 : decode cX9_sum 11 = .ok (.ifCond .eq 12, 3) := by decide +kernel
theorem dX9_sum_14 : decode cX9_sum 14 = .ok (.iload_n 2, 1) := by decide +kernel
theorem dX9_sum_15 : decode cX9_sum 15 = .ok (.iconst 0, 1) := by decide +kernel
theorem dX9_sum_16 : decode cX9_sum 16 = .ok (.iconst 1, 1) := by decide +kernel
theorem dX9_sum_17 : decode cX9_sum 17 = .ok (.invokestatic 99, 3) := by decide +kernel
theorem dX9_sum_20 : decode cX9_sum 20 = .ok (.ifCond .ne 14, 3) := by decide +kernel
theorem dX9_sum_23 : decode cX9_sum 23 = .ok (.aload_n 0, 1) := by decide +kernel
theorem dX9_sum_24 : decode cX9_sum 24 = .ok (.bipush (-2), 2) := by decide +kernel
theorem dX9_sum_26 : decode cX9_sum 26 = .ok (.invokevirtual 74, 3) := by decide +kernel
theorem dX9_sum_29 : decode cX9_sum 29 = .ok (.pop, 1) := by decide +kernel
theorem dX9_sum_30 : decode cX9_sum 30 = .ok (.ldc2_w 156, 3) := by decide +kernel
theorem dX9_sum_33 : decode cX9_sum 33 = .ok (.lreturn, 1) := by decide +kernel
theorem dX9_sum_34 : decode cX9_sum 34 = .ok (.iload_n 2, 1) := by decide +kernel
theorem dX9_sum_35 : decode cX9_sum 35 = .ok (.ifCond .ne 15, 3) := by decide +kernel
theorem dX9_sum_38 : decode cX9_sum 38 = .ok (.aload_n 0, 1) := by decide +kernel
theorem dX9_sum_39 : decode cX9_sum 39 = .ok (.getfield 23, 3) := by decide +kernel
theorem dX9_sum_42 : decode cX9_sum 42 = .ok (.getfield 198, 3) := by decide +kernel
theorem dX9_sum_45 : decode cX9_sum 45 = .ok (.iload_n 1, 1) := by decide +kernel
theorem dX9_sum_46 : decode cX9_sum 46 = .ok (.laload, 1) := by decide +kernel
theorem dX9_sum_47 : decode cX9_sum 47 = .ok (.goto 4, 3) := by decide +kernel
theorem dX9_sum_50 : decode cX9_sum 50 = .ok (.lconst 1, 1) := by decide +kernel
theorem dX9_sum_51 : decode cX9_sum 51 = .ok (.lreturn, 1) := by decide +kernel
theorem kcX9_sum : Cond.code yX9_sum cX9_sum 3 (some .long) ∈ tb := tq q_579 rfl
theorem knX9_sum : Cond.initialized yX9_sum.cls ∈ tb := (tq q_1 rfl)
theorem kdX9_sum : yX9_sum.cls ≠ "java/lang/invoke/MethodHandle" ∧ yX9_sum.cls ≠ "java/lang/invoke/VarHandle" ∧ (parseMethodDescriptor yX9_sum.desc).map (fun d => d.parameters.length) = some 2 := ⟨by decide +kernel, by decide +kernel, by decide +kernel⟩
theorem kiX9_sum : Cond.instanceMethod yX9_sum ∈ tb := (tq q_577 rfl)
theorem ksX9_sum : Cond.selects yX9_sum.cls yX9_sum yX9_sum ∈ tb := (tq q_578 rfl)
theorem tgX9_sum {x0 : Nat} {x1 : Int32} {x2 : Int32} {h : PH} {r : Int64 × PH} (hf : (fX9_sum x0 x1 x2).1 h = some r) : ∃ n x, nth h x0 = some (8, n, x) := by
  obtain ⟨_, _, e, _⟩ := pb_some hf
  exact (chk_some e).2
set_option maxHeartbeats 4000000 in
set_option maxRecDepth 100000 in
theorem metX9_sum (l : Launch) (G : GG) (ρ : Nat → Nat) {z : Nat} {x0 : Nat} {x1 : Int32} {x2 : Int32} {h hE : PH} {v : Int64} (hf : (fX9_sum x0 x1 x2).1 h = some (v, hE)) : Met l yX9_sum (wsY yX9_sum cX9_sum 3 (some .long)) (RM 1 22 h hE) (va_Pc [.ref (ρ x0), .int x1, .int x2] (PcB G ρ h z)) (QL G ρ v hE h.length z) (DC h hE) (DS h hE) (Af ρ h.length z) := by
  refine met_start (by decide) (Nat.le_of_ble_eq_true rfl) ?_
  intro p e s m below meth c ls hz C hW hl
  subst hz
  have C : Cx G "PairSymbols" cX9_sum 3 (some .long) "sum" p s m _ meth c := C
  have hx := C.1
  have hb := C.2.1
  have hX : Ext hE hE := Ext.rf hE
  have hl : lv_has ls 3 [(0, .ref (ρ x0)), (1, .int x1), (2, .int x2)] := hl
  have hW : Wd G ρ h.length (sl h) s.heap h s.heap [] 0 0 := hW
  unfold fX9_sum at hf
  obtain ⟨_, e0, hf⟩ := pb_rd (rd_chk _ _) hf
  refine lv_aload_n hx hb dX9_sum_0 rfl (lv_at hl 0 rfl) ?_
  obtain ⟨v1, e1, hf⟩ := pb_rd (rd_gA _ _ _) hf
  refine r_gA C hW e1 flX9_23 rfl dX9_sum_1 ?_
  obtain ⟨v2, e2, hf⟩ := pb_rd (rd_gA _ _ _) hf
  refine r_gA C hW e2 flX9_62 rfl dX9_sum_4 ?_
  refine lv_iload_n hx hb dX9_sum_7 rfl (lv_at hl 1 rfl) ?_
  obtain ⟨v3, h3, e3, hf⟩ := pb_some hf
  obtain ⟨_, _, t4⟩ := tgX3_hasCoordinate e3
  refine r_calli hW (pext e3) (run_V (b := v2) (As := [.int x1]) (rest := []) C hW (metX3_hasCoordinate l G ρ e3) ⟨rfl, rfl⟩ kcX3_hasCoordinate (tq q_385 rfl) kiX3_hasCoordinate ksX3_hasCoordinate knX3_hasCoordinate kdX3_hasCoordinate t4 rfl rfl ⟨Nat.le_of_ble_eq_true rfl, Nat.le_of_ble_eq_true rfl⟩ hl.1 (Nat.le_of_ble_eq_true rfl) (room_of hW (pext e3) ((pext hf).tr hX)) dX9_sum_8 rfl) (fun H locs c1 s1 hW => ?_)
  refine lv_if_eq (tgt := 23) hx hb dX9_sum_11 (by decide) (fun c5 => ?_) (fun c5 => ?_)
  · rw [if_pos c5] at hf
    refine lv_aload_n hx hb dX9_sum_23 rfl (lv_at hl 0 rfl) ?_
    refine lv_bipush (v := -2) hx hb dX9_sum_24 (by decide) ?_
    obtain ⟨v6, h6, e6, hf⟩ := pb_some hf
    obtain ⟨_, _, t7⟩ := tgX9_refuse e6
    refine r_calli hW (pext e6) (run_V (b := x0) (As := [.int (-2 : Int32)]) (rest := []) C hW (metX9_refuse l G ρ e6) ⟨rfl, rfl⟩ kcX9_refuse (tq q_343 rfl) kiX9_refuse ksX9_refuse knX9_refuse kdX9_refuse t7 rfl rfl ⟨Nat.le_of_ble_eq_true rfl, Nat.le_of_ble_eq_true rfl⟩ hl.1 (Nat.le_of_ble_eq_true rfl) (room_of hW (pext e6) ((pext hf).tr hX)) dX9_sum_26 rfl) (fun H locs c1 s1 hW => ?_)
    refine lv_pop hx hb dX9_sum_29 rfl ?_
    refine r_ldc2 (v := -9223372036854775808) C (tq q_449 rfl) dX9_sum_30 ?_
    obtain ⟨rfl, rfl⟩ := pp_some hf
    exact r_lret C hW dX9_sum_33
  · rw [if_neg c5] at hf
    refine lv_iload_n hx hb dX9_sum_14 rfl (lv_at hl 2 rfl) ?_
    refine lv_iconst (v := 0) hx hb dX9_sum_15 (by decide) ?_
    refine lv_iconst (v := 1) hx hb dX9_sum_16 (by decide) ?_
    obtain ⟨v8, h8, e8, hf⟩ := pb_some hf
    refine r_calli hW (pext e8) (run_S (As := [.int x2, .int (0 : Int32), .int (1 : Int32)]) (rest := []) C hW (metX9_within l G ρ e8) ⟨rfl, rfl⟩ kcX9_within (tq q_329 rfl) kiX9_within knX9_within kdX9_within ⟨Nat.le_of_ble_eq_true rfl, Nat.le_of_ble_eq_true rfl⟩ hl.1 (Nat.le_of_ble_eq_true rfl) (room_of hW (pext e8) ((pext hf).tr hX)) dX9_sum_17 rfl) (fun H locs c1 s1 hW => ?_)
    refine lv_if_ne (tgt := 34) hx hb dX9_sum_20 (by decide) (fun c9 => ?_) (fun c9 => ?_)
    · rw [if_neg c9] at hf
      refine lv_iload_n hx hb dX9_sum_34 rfl (lv_at hl 2 rfl) ?_
      refine lv_if_ne (tgt := 50) hx hb dX9_sum_35 (by decide) (fun c10 => ?_) (fun c10 => ?_)
      · rw [if_neg c10] at hf
        refine lv_lconst (v := 1) hx hb dX9_sum_50 (by decide) ?_
        obtain ⟨rfl, rfl⟩ := pp_some hf
        exact r_lret C hW dX9_sum_51
      · rw [if_pos c10] at hf
        refine lv_aload_n hx hb dX9_sum_38 rfl (lv_at hl 0 rfl) ?_
        obtain ⟨v11, e11, hf⟩ := pb_rd (rd_gA _ _ _) hf
        refine r_gA C hW e11 flX9_23 rfl dX9_sum_39 ?_
        obtain ⟨v12, e12, hf⟩ := pb_rd (rd_gA _ _ _) hf
        refine r_gA C hW e12 flX9_198 rfl dX9_sum_42 ?_
        refine lv_iload_n hx hb dX9_sum_45 rfl (lv_at hl 1 rfl) ?_
        obtain ⟨v13, e13, hf⟩ := pb_rd (rd_lJ _ _ _) hf
        refine r_lald C hW e13 dX9_sum_46 ?_
        refine lv_goto (tgt := 51) hx hb dX9_sum_47 (by decide) ?_
        obtain ⟨rfl, rfl⟩ := pp_some hf
        exact r_lret C hW dX9_sum_51
    · rw [if_pos c9] at hf
      refine lv_aload_n hx hb dX9_sum_23 rfl (lv_at hl 0 rfl) ?_
      refine lv_bipush (v := -2) hx hb dX9_sum_24 (by decide) ?_
      obtain ⟨v14, h14, e14, hf⟩ := pb_some hf
      obtain ⟨_, _, t15⟩ := tgX9_refuse e14
      refine r_calli hW (pext e14) (run_V (b := x0) (As := [.int (-2 : Int32)]) (rest := []) C hW (metX9_refuse l G ρ e14) ⟨rfl, rfl⟩ kcX9_refuse (tq q_343 rfl) kiX9_refuse ksX9_refuse knX9_refuse kdX9_refuse t15 rfl rfl ⟨Nat.le_of_ble_eq_true rfl, Nat.le_of_ble_eq_true rfl⟩ hl.1 (Nat.le_of_ble_eq_true rfl) (room_of hW (pext e14) ((pext hf).tr hX)) dX9_sum_26 rfl) (fun H locs c1 s1 hW => ?_)
      refine lv_pop hx hb dX9_sum_29 rfl ?_
      refine r_ldc2 (v := -9223372036854775808) C (tq q_449 rfl) dX9_sum_30 ?_
      obtain ⟨rfl, rfl⟩ := pp_some hf
      exact r_lret C hW dX9_sum_33

theorem dX8_boundaryAt_0 : decode cX8_boundaryAt 0 = .ok (.lconst 0, 1) := by decide +kernel
theorem dX8_boundaryAt_1 : decode cX8_boundaryAt 1 = .ok (.lstore_n 2, 1) := by decide +kernel
theorem dX8_boundaryAt_2 : decode cX8_boundaryAt 2 = .ok (.iconst 0, 1) := by decide +kernel
theorem dX8_boundaryAt_3 : decode cX8_boundaryAt 3 = .ok (.istore 4, 2) := by decide +kernel
theorem dX8_boundaryAt_5 : decode cX8_boundaryAt 5 = .ok (.iload 4, 2) := by decide +kernel
theorem dX8_boundaryAt_7 : decode cX8_boundaryAt 7 = .ok (.aload_n 0, 1) := by decide +kernel
theorem dX8_boundaryAt_8 : decode cX8_boundaryAt 8 = .ok (.getfield 9, 3) := by decide +kernel
theorem dX8_boundaryAt_11 : decode cX8_boundaryAt 11 = .ok (.getfield 63, 3) := by decide +kernel
theorem dX8_boundaryAt_14 : decode cX8_boundaryAt 14 = .ok (.if_icmp .ge 31, 3) := by decide +kernel
theorem dX8_boundaryAt_17 : decode cX8_boundaryAt 17 = .ok (.lload_n 2, 1) := by decide +kernel
theorem dX8_boundaryAt_18 : decode cX8_boundaryAt 18 = .ok (.aload_n 0, 1) := by decide +kernel
theorem dX8_boundaryAt_19 : decode cX8_boundaryAt 19 = .ok (.getfield 15, 3) := by decide +kernel
theorem dX8_boundaryAt_22 : decode cX8_boundaryAt 22 = .ok (.iload 4, 2) := by decide +kernel
theorem dX8_boundaryAt_24 : decode cX8_boundaryAt 24 = .ok (.laload, 1) := by decide +kernel
theorem dX8_boundaryAt_25 : decode cX8_boundaryAt 25 = .ok (.aload_n 0, 1) := by decide +kernel
theorem dX8_boundaryAt_26 : decode cX8_boundaryAt 26 = .ok (.getfield 9, 3) := by decide +kernel
theorem dX8_boundaryAt_29 : decode cX8_boundaryAt 29 = .ok (.iload 4, 2) := by decide +kernel
theorem dX8_boundaryAt_31 : decode cX8_boundaryAt 31 = .ok (.iload_n 1, 1) := by decide +kernel
theorem dX8_boundaryAt_32 : decode cX8_boundaryAt 32 = .ok (.invokevirtual 75, 3) := by decide +kernel
theorem dX8_boundaryAt_35 : decode cX8_boundaryAt 35 = .ok (.i2l, 1) := by decide +kernel
theorem dX8_boundaryAt_36 : decode cX8_boundaryAt 36 = .ok (.lmul, 1) := by decide +kernel
theorem dX8_boundaryAt_37 : decode cX8_boundaryAt 37 = .ok (.ladd, 1) := by decide +kernel
theorem dX8_boundaryAt_38 : decode cX8_boundaryAt 38 = .ok (.lstore_n 2, 1) := by decide +kernel
theorem dX8_boundaryAt_39 : decode cX8_boundaryAt 39 = .ok (.iinc 4 1, 3) := by decide +kernel
theorem dX8_boundaryAt_42 : decode cX8_boundaryAt 42 = .ok (.goto (-37), 3) := by decide +kernel
theorem dX8_boundaryAt_45 : decode cX8_boundaryAt 45 = .ok (.lload_n 2, 1) := by decide +kernel
theorem dX8_boundaryAt_46 : decode cX8_boundaryAt 46 = .ok (.lreturn, 1) := by decide +kernel
theorem kcX8_boundaryAt : Cond.code yX8_boundaryAt cX8_boundaryAt 5 (some .long) ∈ tb := tq q_587 rfl
theorem knX8_boundaryAt : Cond.initialized yX8_boundaryAt.cls ∈ tb := (tq q_6 rfl)
theorem kdX8_boundaryAt : yX8_boundaryAt.cls ≠ "java/lang/invoke/MethodHandle" ∧ yX8_boundaryAt.cls ≠ "java/lang/invoke/VarHandle" ∧ (parseMethodDescriptor yX8_boundaryAt.desc).map (fun d => d.parameters.length) = some 1 := ⟨by decide +kernel, by decide +kernel, by decide +kernel⟩
theorem kiX8_boundaryAt : Cond.instanceMethod yX8_boundaryAt ∈ tb := (tq q_585 rfl)
theorem ksX8_boundaryAt : Cond.selects yX8_boundaryAt.cls yX8_boundaryAt yX8_boundaryAt ∈ tb := (tq q_586 rfl)
theorem tgX8_boundaryAt {x0 : Nat} {x1 : Int32} {h : PH} {r : Int64 × PH} (hf : (fX8_boundaryAt x0 x1).1 h = some r) : ∃ n x, nth h x0 = some (7, n, x) := by
  obtain ⟨_, _, e, _⟩ := pb_some hf
  exact (chk_some e).2
set_option maxHeartbeats 4000000 in
set_option maxRecDepth 100000 in
theorem wX8_boundaryAt_B5 {p : Program} {l : Launch} {e : Env} {s : State} {m : MethodId} {args : Array Value} {below : List Frame} {meth : Method} {c : Code} {G : GG} {ρ : Nat → Nat} {h0 hE hB : PH} {Q : State → Prop} {x0 : Nat} {x1 : Int32} (C : Cx G "PairSymbols$State" cX8_boundaryAt 5 (some .long) "boundaryAt" p s m args meth c) {x2 : Int64} {x4 : Int32} {h : PH} {H : Heap} {locs : List Loc} {cells slots : Nat} {ls : Array Slot} {r : (Int64 × Int32) ⊕ (Int64)} (hf : (fX8_boundaryAt_b5 x0 x1 x2 x4).1 h = some (r, hB)) (hX : Ext hB hE) (hW : Wd G ρ h0.length (sl h0) s.heap h H locs cells slots) (hl : lv_has ls 5 [(0, .ref (ρ x0)), (1, .int x1), (2, .long x2), (4, .int x4)]) (kc : ∀ y : Int64 × Int32, r = .inl y → ∀ (H : Heap) (locs : List Loc) (c1 s1 : Nat) (ls : Array Slot), Wd G ρ h0.length (sl h0) s.heap hB H locs c1 s1 → lv_has ls 5 [(0, .ref (ρ x0)), (1, .int x1), (2, .long y.1), (4, .int y.2)] → W p l e (RM 1 25 h0 hE) s m args below meth c H locs c1 s1 Q (F0 m 5 ls [])) (ke : ∀ z : Int64, r = .inr z → ∀ (H : Heap) (locs : List Loc) (c1 s1 : Nat) (ls : Array Slot), Wd G ρ h0.length (sl h0) s.heap hB H locs c1 s1 → lv_has ls 5 [(2, .long z)] → W p l e (RM 1 25 h0 hE) s m args below meth c H locs c1 s1 Q (F0 m 45 ls [])) : W p l e (RM 1 25 h0 hE) s m args below meth c H locs cells slots Q (F0 m 5 ls []) := by
  have hx := C.1
  have hb := C.2.1
  unfold fX8_boundaryAt_b5 at hf
  refine lv_iload hx hb dX8_boundaryAt_5 (lv_at hl 3 rfl) ?_
  refine lv_aload_n hx hb dX8_boundaryAt_7 rfl (lv_at hl 0 rfl) ?_
  obtain ⟨v1, e1, hf⟩ := pb_rd (rd_gA _ _ _) hf
  refine r_gA C hW e1 flX8_9 rfl dX8_boundaryAt_8 ?_
  obtain ⟨v2, e2, hf⟩ := pb_rd (rd_gI _ _ _) hf
  refine r_gI C hW e2 flX8_63 rfl dX8_boundaryAt_11 ?_
  refine lv_icmp_ge (tgt := 45) hx hb dX8_boundaryAt_14 (by decide) (fun c3 => ?_) (fun c3 => ?_)
  · rw [if_pos c3] at hf
    obtain ⟨rfl, rfl⟩ := pp_some hf
    exact ke _ rfl _ _ _ _ _ hW (lv_sub hl [2] rfl)
  · rw [if_neg c3] at hf
    refine lv_lload_n hx hb dX8_boundaryAt_17 rfl (lv_at hl 2 rfl) ?_
    refine lv_aload_n hx hb dX8_boundaryAt_18 rfl (lv_at hl 0 rfl) ?_
    obtain ⟨v4, e4, hf⟩ := pb_rd (rd_gA _ _ _) hf
    refine r_gA C hW e4 flX8_15 rfl dX8_boundaryAt_19 ?_
    refine lv_iload hx hb dX8_boundaryAt_22 (lv_at hl 3 rfl) ?_
    obtain ⟨v5, e5, hf⟩ := pb_rd (rd_lJ _ _ _) hf
    refine r_lald C hW e5 dX8_boundaryAt_24 ?_
    refine lv_aload_n hx hb dX8_boundaryAt_25 rfl (lv_at hl 0 rfl) ?_
    obtain ⟨v6, e6, hf⟩ := pb_rd (rd_gA _ _ _) hf
    refine r_gA C hW e6 flX8_9 rfl dX8_boundaryAt_26 ?_
    refine lv_iload hx hb dX8_boundaryAt_29 (lv_at hl 3 rfl) ?_
    refine lv_iload_n hx hb dX8_boundaryAt_31 rfl (lv_at hl 1 rfl) ?_
    obtain ⟨v7, h7, e7, hf⟩ := pb_some hf
    obtain ⟨_, _, t8⟩ := tgX3_edge e7
    refine r_calli hW (pext e7) (run_V (b := v6) (As := [.int x4, .int x1]) (rest := [.long v5, .long x2]) C hW (metX3_edge l G ρ e7) ⟨rfl, rfl⟩ kcX3_edge (tq q_588 rfl) kiX3_edge ksX3_edge knX3_edge kdX3_edge t8 rfl rfl ⟨Nat.le_of_ble_eq_true rfl, Nat.le_of_ble_eq_true rfl⟩ hl.1 (Nat.le_of_ble_eq_true rfl) (room_of hW (pext e7) ((pext hf).tr hX)) dX8_boundaryAt_32 rfl) (fun H locs c1 s1 hW => ?_)
    refine lv_i2l (v := v7.toInt64) hx hb dX8_boundaryAt_35 rfl ?_
    refine lv_lmul hx hb dX8_boundaryAt_36 ?_
    refine lv_ladd hx hb dX8_boundaryAt_37 ?_
    refine lv_lstore_n (lv' := [(2, .long (x2 + (v5 * v7.toInt64))), (0, .ref (ρ x0)), (1, .int x1), (4, .int x4)]) hx hb dX8_boundaryAt_38 rfl hl (by decide) rfl (fun ls hl => ?_)
    refine lv_iinc (v := (x4 + 1)) (lv' := [(4, .int (x4 + 1)), (2, .long (x2 + (v5 * v7.toInt64))), (0, .ref (ρ x0)), (1, .int x1)]) hx hb dX8_boundaryAt_39 hl (k := 3) rfl rfl (by decide) rfl (fun ls hl => ?_)
    refine lv_goto (tgt := 5) hx hb dX8_boundaryAt_42 (by decide) ?_
    obtain ⟨rfl, rfl⟩ := pp_some hf
    exact kc _ rfl _ _ _ _ _ hW (lv_sub hl [2, 3, 1, 0] rfl)
set_option maxHeartbeats 4000000 in
theorem wX8_boundaryAt_L5 {p : Program} {l : Launch} {e : Env} {s : State} {m : MethodId} {args : Array Value} {below : List Frame} {meth : Method} {c : Code} {G : GG} {ρ : Nat → Nat} {h0 hE hB : PH} {Q : State → Prop} {x0 : Nat} {x1 : Int32} (C : Cx G "PairSymbols$State" cX8_boundaryAt 5 (some .long) "boundaryAt" p s m args meth c) {z : (Int64)} (n : Nat) : ∀ (x : Int64 × Int32) {h : PH} {H : Heap} {locs : List Loc} {cells slots : Nat} {ls : Array Slot}, (plo (fX8_boundaryAt_B5 x0 x1) n x).1 h = some (z, hB) → Ext hB hE → Wd G ρ h0.length (sl h0) s.heap h H locs cells slots → lv_has ls 5 [(0, .ref (ρ x0)), (1, .int x1), (2, .long x.1), (4, .int x.2)] → (ke : ∀ (H : Heap) (locs : List Loc) (c1 s1 : Nat) (ls : Array Slot), Wd G ρ h0.length (sl h0) s.heap hB H locs c1 s1 → lv_has ls 5 [(2, .long z)] → W p l e (RM 1 25 h0 hE) s m args below meth c H locs c1 s1 Q (F0 m 45 ls [])) → W p l e (RM 1 25 h0 hE) s m args below meth c H locs cells slots Q (F0 m 5 ls []) := by
  induction n with
  | zero =>
    intro x h H locs cells slots ls hf
    rw [plo_0] at hf
    exact (pf_no hf).elim
  | succ n ih =>
    intro x h H locs cells slots ls hf hX hW hl ke
    rw [plo_s] at hf
    obtain ⟨r, h1, e1, hf⟩ := pb_some hf
    unfold fX8_boundaryAt_B5 at e1
    rw [frJ_eq, frI_eq] at e1
    refine wX8_boundaryAt_B5 C e1 ((pext hf).tr hX) hW hl (fun y hr H locs c1 s1 ls hW hl => ?_) (fun y hr H locs c1 s1 ls hW hl => ?_)
    · subst hr
      exact ih y hf hX hW hl ke
    · subst hr
      obtain ⟨rfl, rfl⟩ := pp_some hf
      exact ke H locs c1 s1 ls hW hl
set_option maxHeartbeats 4000000 in
set_option maxRecDepth 100000 in
theorem metX8_boundaryAt (l : Launch) (G : GG) (ρ : Nat → Nat) {z : Nat} {x0 : Nat} {x1 : Int32} {h hE : PH} {v : Int64} (hf : (fX8_boundaryAt x0 x1).1 h = some (v, hE)) : Met l yX8_boundaryAt (wsY yX8_boundaryAt cX8_boundaryAt 5 (some .long)) (RM 1 25 h hE) (va_Pc [.ref (ρ x0), .int x1] (PcB G ρ h z)) (QL G ρ v hE h.length z) (DC h hE) (DS h hE) (Af ρ h.length z) := by
  refine met_start (by decide) (Nat.le_of_ble_eq_true rfl) ?_
  intro p e s m below meth c ls hz C hW hl
  subst hz
  have C : Cx G "PairSymbols$State" cX8_boundaryAt 5 (some .long) "boundaryAt" p s m _ meth c := C
  have hx := C.1
  have hb := C.2.1
  have hX : Ext hE hE := Ext.rf hE
  have hl : lv_has ls 5 [(0, .ref (ρ x0)), (1, .int x1)] := hl
  have hW : Wd G ρ h.length (sl h) s.heap h s.heap [] 0 0 := hW
  unfold fX8_boundaryAt at hf
  obtain ⟨_, e0, hf⟩ := pb_rd (rd_chk _ _) hf
  refine lv_lconst (v := 0) hx hb dX8_boundaryAt_0 (by decide) ?_
  refine lv_lstore_n (lv' := [(2, .long (0 : Int64)), (0, .ref (ρ x0)), (1, .int x1)]) hx hb dX8_boundaryAt_1 rfl hl (by decide) rfl (fun ls hl => ?_)
  refine lv_iconst (v := 0) hx hb dX8_boundaryAt_2 (by decide) ?_
  refine lv_istore (lv' := [(4, .int (0 : Int32)), (2, .long (0 : Int64)), (0, .ref (ρ x0)), (1, .int x1)]) hx hb dX8_boundaryAt_3 hl (by decide) rfl (fun ls hl => ?_)
  obtain ⟨z9, h9, e9, hf⟩ := pb_some hf
  refine wX8_boundaryAt_L5 C fu _ e9 ((pext hf).tr hX) hW (lv_sub hl [2, 3, 1, 0] rfl) (fun H locs c1 s1 ls hW hl => ?_)
  refine lv_lload_n hx hb dX8_boundaryAt_45 rfl (lv_at hl 0 rfl) ?_
  obtain ⟨rfl, rfl⟩ := pp_some hf
  exact r_lret C hW dX8_boundaryAt_46

theorem dX9_boundary_0 : decode cX9_boundary 0 = .ok (.iload_n 1, 1) := by decide +kernel
theorem dX9_boundary_1 : decode cX9_boundary 1 = .ok (.iconst 0, 1) := by decide +kernel
theorem dX9_boundary_2 : decode cX9_boundary 2 = .ok (.aload_n 0, 1) := by decide +kernel
theorem dX9_boundary_3 : decode cX9_boundary 3 = .ok (.getfield 23, 3) := by decide +kernel
theorem dX9_boundary_6 : decode cX9_boundary 6 = .ok (.getfield 62, 3) := by decide +kernel
theorem dX9_boundary_9 : decode cX9_boundary 9 = .ok (.getfield 110, 3) := by decide +kernel
theorem dX9_boundary_12 : decode cX9_boundary 12 = .ok (.iconst 1, 1) := by decide +kernel
theorem dX9_boundary_13 : decode cX9_boundary 13 = .ok (.isub, 1) := by decide +kernel
theorem dX9_boundary_14 : decode cX9_boundary 14 = .ok (.invokestatic 99, 3) := by decide +kernel
theorem dX9_boundary_17 : decode cX9_boundary 17 = .ok (.ifCond .eq 12, 3) := by decide +kernel
theorem dX9_boundary_20 : decode cX9_boundary 20 = .ok (.iload_n 2, 1) := by decide +kernel
theorem dX9_boundary_21 : decode cX9_boundary 21 = .ok (.iconst 0, 1) := by decide +kernel
theorem dX9_boundary_22 : decode cX9_boundary 22 = .ok (.iconst 1, 1) := by decide +kernel
theorem dX9_boundary_23 : decode cX9_boundary 23 = .ok (.invokestatic 99, 3) := by decide +kernel
theorem dX9_boundary_26 : decode cX9_boundary 26 = .ok (.ifCond .ne 14, 3) := by decide +kernel
theorem dX9_boundary_29 : decode cX9_boundary 29 = .ok (.aload_n 0, 1) := by decide +kernel
theorem dX9_boundary_30 : decode cX9_boundary 30 = .ok (.bipush (-2), 2) := by decide +kernel
theorem dX9_boundary_32 : decode cX9_boundary 32 = .ok (.invokevirtual 74, 3) := by decide +kernel
theorem dX9_boundary_35 : decode cX9_boundary 35 = .ok (.pop, 1) := by decide +kernel
theorem dX9_boundary_36 : decode cX9_boundary 36 = .ok (.ldc2_w 156, 3) := by decide +kernel
theorem dX9_boundary_39 : decode cX9_boundary 39 = .ok (.lreturn, 1) := by decide +kernel
theorem dX9_boundary_40 : decode cX9_boundary 40 = .ok (.iload_n 2, 1) := by decide +kernel
theorem dX9_boundary_41 : decode cX9_boundary 41 = .ok (.ifCond .ne 14, 3) := by decide +kernel
theorem dX9_boundary_44 : decode cX9_boundary 44 = .ok (.aload_n 0, 1) := by decide +kernel
theorem dX9_boundary_45 : decode cX9_boundary 45 = .ok (.getfield 23, 3) := by decide +kernel
theorem dX9_boundary_48 : decode cX9_boundary 48 = .ok (.iload_n 1, 1) := by decide +kernel
theorem dX9_boundary_49 : decode cX9_boundary 49 = .ok (.invokevirtual 202, 3) := by decide +kernel
theorem dX9_boundary_52 : decode cX9_boundary 52 = .ok (.goto 4, 3) := by decide +kernel
theorem dX9_boundary_55 : decode cX9_boundary 55 = .ok (.lconst 1, 1) := by decide +kernel
theorem dX9_boundary_56 : decode cX9_boundary 56 = .ok (.lreturn, 1) := by decide +kernel
theorem kcX9_boundary : Cond.code yX9_boundary cX9_boundary 3 (some .long) ∈ tb := tq q_583 rfl
theorem knX9_boundary : Cond.initialized yX9_boundary.cls ∈ tb := (tq q_1 rfl)
theorem kdX9_boundary : yX9_boundary.cls ≠ "java/lang/invoke/MethodHandle" ∧ yX9_boundary.cls ≠ "java/lang/invoke/VarHandle" ∧ (parseMethodDescriptor yX9_boundary.desc).map (fun d => d.parameters.length) = some 2 := ⟨by decide +kernel, by decide +kernel, by decide +kernel⟩
theorem kiX9_boundary : Cond.instanceMethod yX9_boundary ∈ tb := (tq q_581 rfl)
theorem ksX9_boundary : Cond.selects yX9_boundary.cls yX9_boundary yX9_boundary ∈ tb := (tq q_582 rfl)
theorem tgX9_boundary {x0 : Nat} {x1 : Int32} {x2 : Int32} {h : PH} {r : Int64 × PH} (hf : (fX9_boundary x0 x1 x2).1 h = some r) : ∃ n x, nth h x0 = some (8, n, x) := by
  obtain ⟨_, _, e, _⟩ := pb_some hf
  exact (chk_some e).2
set_option maxHeartbeats 4000000 in
set_option maxRecDepth 100000 in
theorem metX9_boundary (l : Launch) (G : GG) (ρ : Nat → Nat) {z : Nat} {x0 : Nat} {x1 : Int32} {x2 : Int32} {h hE : PH} {v : Int64} (hf : (fX9_boundary x0 x1 x2).1 h = some (v, hE)) : Met l yX9_boundary (wsY yX9_boundary cX9_boundary 3 (some .long)) (RM 2 49 h hE) (va_Pc [.ref (ρ x0), .int x1, .int x2] (PcB G ρ h z)) (QL G ρ v hE h.length z) (DC h hE) (DS h hE) (Af ρ h.length z) := by
  refine met_start (by decide) (Nat.le_of_ble_eq_true rfl) ?_
  intro p e s m below meth c ls hz C hW hl
  subst hz
  have C : Cx G "PairSymbols" cX9_boundary 3 (some .long) "boundary" p s m _ meth c := C
  have hx := C.1
  have hb := C.2.1
  have hX : Ext hE hE := Ext.rf hE
  have hl : lv_has ls 3 [(0, .ref (ρ x0)), (1, .int x1), (2, .int x2)] := hl
  have hW : Wd G ρ h.length (sl h) s.heap h s.heap [] 0 0 := hW
  unfold fX9_boundary at hf
  obtain ⟨_, e0, hf⟩ := pb_rd (rd_chk _ _) hf
  refine lv_iload_n hx hb dX9_boundary_0 rfl (lv_at hl 1 rfl) ?_
  refine lv_iconst (v := 0) hx hb dX9_boundary_1 (by decide) ?_
  refine lv_aload_n hx hb dX9_boundary_2 rfl (lv_at hl 0 rfl) ?_
  obtain ⟨v1, e1, hf⟩ := pb_rd (rd_gA _ _ _) hf
  refine r_gA C hW e1 flX9_23 rfl dX9_boundary_3 ?_
  obtain ⟨v2, e2, hf⟩ := pb_rd (rd_gA _ _ _) hf
  refine r_gA C hW e2 flX9_62 rfl dX9_boundary_6 ?_
  obtain ⟨v3, e3, hf⟩ := pb_rd (rd_gI _ _ _) hf
  refine r_gI C hW e3 flX9_110 rfl dX9_boundary_9 ?_
  refine lv_iconst (v := 1) hx hb dX9_boundary_12 (by decide) ?_
  refine lv_isub hx hb dX9_boundary_13 ?_
  obtain ⟨v4, h4, e4, hf⟩ := pb_some hf
  refine r_calli hW (pext e4) (run_S (As := [.int x1, .int (0 : Int32), .int (v3 - (1 : Int32))]) (rest := []) C hW (metX9_within l G ρ e4) ⟨rfl, rfl⟩ kcX9_within (tq q_329 rfl) kiX9_within knX9_within kdX9_within ⟨Nat.le_of_ble_eq_true rfl, Nat.le_of_ble_eq_true rfl⟩ hl.1 (Nat.le_of_ble_eq_true rfl) (room_of hW (pext e4) ((pext hf).tr hX)) dX9_boundary_14 rfl) (fun H locs c1 s1 hW => ?_)
  refine lv_if_eq (tgt := 29) hx hb dX9_boundary_17 (by decide) (fun c5 => ?_) (fun c5 => ?_)
  · rw [if_pos c5] at hf
    refine lv_aload_n hx hb dX9_boundary_29 rfl (lv_at hl 0 rfl) ?_
    refine lv_bipush (v := -2) hx hb dX9_boundary_30 (by decide) ?_
    obtain ⟨v6, h6, e6, hf⟩ := pb_some hf
    obtain ⟨_, _, t7⟩ := tgX9_refuse e6
    refine r_calli hW (pext e6) (run_V (b := x0) (As := [.int (-2 : Int32)]) (rest := []) C hW (metX9_refuse l G ρ e6) ⟨rfl, rfl⟩ kcX9_refuse (tq q_343 rfl) kiX9_refuse ksX9_refuse knX9_refuse kdX9_refuse t7 rfl rfl ⟨Nat.le_of_ble_eq_true rfl, Nat.le_of_ble_eq_true rfl⟩ hl.1 (Nat.le_of_ble_eq_true rfl) (room_of hW (pext e6) ((pext hf).tr hX)) dX9_boundary_32 rfl) (fun H locs c1 s1 hW => ?_)
    refine lv_pop hx hb dX9_boundary_35 rfl ?_
    refine r_ldc2 (v := -9223372036854775808) C (tq q_449 rfl) dX9_boundary_36 ?_
    obtain ⟨rfl, rfl⟩ := pp_some hf
    exact r_lret C hW dX9_boundary_39
  · rw [if_neg c5] at hf
    refine lv_iload_n hx hb dX9_boundary_20 rfl (lv_at hl 2 rfl) ?_
    refine lv_iconst (v := 0) hx hb dX9_boundary_21 (by decide) ?_
    refine lv_iconst (v := 1) hx hb dX9_boundary_22 (by decide) ?_
    obtain ⟨v8, h8, e8, hf⟩ := pb_some hf
    refine r_calli hW (pext e8) (run_S (As := [.int x2, .int (0 : Int32), .int (1 : Int32)]) (rest := []) C hW (metX9_within l G ρ e8) ⟨rfl, rfl⟩ kcX9_within (tq q_329 rfl) kiX9_within knX9_within kdX9_within ⟨Nat.le_of_ble_eq_true rfl, Nat.le_of_ble_eq_true rfl⟩ hl.1 (Nat.le_of_ble_eq_true rfl) (room_of hW (pext e8) ((pext hf).tr hX)) dX9_boundary_23 rfl) (fun H locs c1 s1 hW => ?_)
    refine lv_if_ne (tgt := 40) hx hb dX9_boundary_26 (by decide) (fun c9 => ?_) (fun c9 => ?_)
    · rw [if_neg c9] at hf
      refine lv_iload_n hx hb dX9_boundary_40 rfl (lv_at hl 2 rfl) ?_
      refine lv_if_ne (tgt := 55) hx hb dX9_boundary_41 (by decide) (fun c10 => ?_) (fun c10 => ?_)
      · rw [if_neg c10] at hf
        refine lv_lconst (v := 1) hx hb dX9_boundary_55 (by decide) ?_
        obtain ⟨rfl, rfl⟩ := pp_some hf
        exact r_lret C hW dX9_boundary_56
      · rw [if_pos c10] at hf
        refine lv_aload_n hx hb dX9_boundary_44 rfl (lv_at hl 0 rfl) ?_
        obtain ⟨v11, e11, hf⟩ := pb_rd (rd_gA _ _ _) hf
        refine r_gA C hW e11 flX9_23 rfl dX9_boundary_45 ?_
        refine lv_iload_n hx hb dX9_boundary_48 rfl (lv_at hl 1 rfl) ?_
        obtain ⟨v12, h12, e12, hf⟩ := pb_some hf
        obtain ⟨_, _, t13⟩ := tgX8_boundaryAt e12
        refine r_calll hW (pext e12) (run_V (b := v11) (As := [.int x1]) (rest := []) C hW (metX8_boundaryAt l G ρ e12) ⟨rfl, rfl⟩ kcX8_boundaryAt (tq q_584 rfl) kiX8_boundaryAt ksX8_boundaryAt knX8_boundaryAt kdX8_boundaryAt t13 rfl rfl ⟨Nat.le_of_ble_eq_true rfl, Nat.le_of_ble_eq_true rfl⟩ hl.1 (Nat.le_of_ble_eq_true rfl) (room_of hW (pext e12) ((pext hf).tr hX)) dX9_boundary_49 rfl) (fun H locs c1 s1 hW => ?_)
        refine lv_goto (tgt := 56) hx hb dX9_boundary_52 (by decide) ?_
        obtain ⟨rfl, rfl⟩ := pp_some hf
        exact r_lret C hW dX9_boundary_56
    · rw [if_pos c9] at hf
      refine lv_aload_n hx hb dX9_boundary_29 rfl (lv_at hl 0 rfl) ?_
      refine lv_bipush (v := -2) hx hb dX9_boundary_30 (by decide) ?_
      obtain ⟨v14, h14, e14, hf⟩ := pb_some hf
      obtain ⟨_, _, t15⟩ := tgX9_refuse e14
      refine r_calli hW (pext e14) (run_V (b := x0) (As := [.int (-2 : Int32)]) (rest := []) C hW (metX9_refuse l G ρ e14) ⟨rfl, rfl⟩ kcX9_refuse (tq q_343 rfl) kiX9_refuse ksX9_refuse knX9_refuse kdX9_refuse t15 rfl rfl ⟨Nat.le_of_ble_eq_true rfl, Nat.le_of_ble_eq_true rfl⟩ hl.1 (Nat.le_of_ble_eq_true rfl) (room_of hW (pext e14) ((pext hf).tr hX)) dX9_boundary_32 rfl) (fun H locs c1 s1 hW => ?_)
      refine lv_pop hx hb dX9_boundary_35 rfl ?_
      refine r_ldc2 (v := -9223372036854775808) C (tq q_449 rfl) dX9_boundary_36 ?_
      obtain ⟨rfl, rfl⟩ := pp_some hf
      exact r_lret C hW dX9_boundary_39

theorem dX9_cuspidal_0 : decode cX9_cuspidal 0 = .ok (.iconst 0, 1) := by decide +kernel
theorem dX9_cuspidal_1 : decode cX9_cuspidal 1 = .ok (.istore_n 1, 1) := by decide +kernel
theorem dX9_cuspidal_2 : decode cX9_cuspidal 2 = .ok (.iload_n 1, 1) := by decide +kernel
theorem dX9_cuspidal_3 : decode cX9_cuspidal 3 = .ok (.aload_n 0, 1) := by decide +kernel
theorem dX9_cuspidal_4 : decode cX9_cuspidal 4 = .ok (.getfield 23, 3) := by decide +kernel
theorem dX9_cuspidal_7 : decode cX9_cuspidal 7 = .ok (.getfield 62, 3) := by decide +kernel
theorem dX9_cuspidal_10 : decode cX9_cuspidal 10 = .ok (.getfield 110, 3) := by decide +kernel
theorem dX9_cuspidal_13 : decode cX9_cuspidal 13 = .ok (.if_icmp .ge 24, 3) := by decide +kernel
theorem dX9_cuspidal_16 : decode cX9_cuspidal 16 = .ok (.aload_n 0, 1) := by decide +kernel
theorem dX9_cuspidal_17 : decode cX9_cuspidal 17 = .ok (.getfield 23, 3) := by decide +kernel
theorem dX9_cuspidal_20 : decode cX9_cuspidal 20 = .ok (.iload_n 1, 1) := by decide +kernel
theorem dX9_cuspidal_21 : decode cX9_cuspidal 21 = .ok (.invokevirtual 202, 3) := by decide +kernel
theorem dX9_cuspidal_24 : decode cX9_cuspidal 24 = .ok (.lconst 0, 1) := by decide +kernel
theorem dX9_cuspidal_25 : decode cX9_cuspidal 25 = .ok (.lcmp, 1) := by decide +kernel
theorem dX9_cuspidal_26 : decode cX9_cuspidal 26 = .ok (.ifCond .eq 5, 3) := by decide +kernel
theorem dX9_cuspidal_29 : decode cX9_cuspidal 29 = .ok (.iconst 0, 1) := by decide +kernel
theorem dX9_cuspidal_30 : decode cX9_cuspidal 30 = .ok (.ireturn, 1) := by decide +kernel
theorem dX9_cuspidal_31 : decode cX9_cuspidal 31 = .ok (.iinc 1 1, 3) := by decide +kernel
theorem dX9_cuspidal_34 : decode cX9_cuspidal 34 = .ok (.goto (-32), 3) := by decide +kernel
theorem dX9_cuspidal_37 : decode cX9_cuspidal 37 = .ok (.iconst 1, 1) := by decide +kernel
theorem dX9_cuspidal_38 : decode cX9_cuspidal 38 = .ok (.ireturn, 1) := by decide +kernel
theorem kcX9_cuspidal : Cond.code yX9_cuspidal cX9_cuspidal 2 (some .int) ∈ tb := tq q_592 rfl
theorem knX9_cuspidal : Cond.initialized yX9_cuspidal.cls ∈ tb := (tq q_1 rfl)
theorem kdX9_cuspidal : yX9_cuspidal.cls ≠ "java/lang/invoke/MethodHandle" ∧ yX9_cuspidal.cls ≠ "java/lang/invoke/VarHandle" ∧ (parseMethodDescriptor yX9_cuspidal.desc).map (fun d => d.parameters.length) = some 0 := ⟨by decide +kernel, by decide +kernel, by decide +kernel⟩
theorem kiX9_cuspidal : Cond.instanceMethod yX9_cuspidal ∈ tb := (tq q_590 rfl)
theorem ksX9_cuspidal : Cond.selects yX9_cuspidal.cls yX9_cuspidal yX9_cuspidal ∈ tb := (tq q_591 rfl)
theorem tgX9_cuspidal {x0 : Nat} {h : PH} {r : Int32 × PH} (hf : (fX9_cuspidal x0).1 h = some r) : ∃ n x, nth h x0 = some (8, n, x) := by
  obtain ⟨_, _, e, _⟩ := pb_some hf
  exact (chk_some e).2
set_option maxHeartbeats 4000000 in
set_option maxRecDepth 100000 in
theorem wX9_cuspidal_B2 {p : Program} {l : Launch} {e : Env} {s : State} {m : MethodId} {args : Array Value} {below : List Frame} {meth : Method} {c : Code} {G : GG} {ρ : Nat → Nat} {h0 hE hB : PH} {Q : State → Prop} {x0 : Nat} (C : Cx G "PairSymbols" cX9_cuspidal 2 (some .int) "cuspidal" p s m args meth c) {x1 : Int32} {h : PH} {H : Heap} {locs : List Loc} {cells slots : Nat} {ls : Array Slot} {r : (Int32) ⊕ (Int32 ⊕ (Unit))} (hf : (fX9_cuspidal_b2 x0 x1).1 h = some (r, hB)) (hX : Ext hB hE) (hW : Wd G ρ h0.length (sl h0) s.heap h H locs cells slots) (hl : lv_has ls 2 [(0, .ref (ρ x0)), (1, .int x1)]) (kc : ∀ y : Int32, r = .inl y → ∀ (H : Heap) (locs : List Loc) (c1 s1 : Nat) (ls : Array Slot), Wd G ρ h0.length (sl h0) s.heap hB H locs c1 s1 → lv_has ls 2 [(0, .ref (ρ x0)), (1, .int y)] → W p l e (RM 2 49 h0 hE) s m args below meth c H locs c1 s1 Q (F0 m 2 ls [])) (kr : ∀ v : Int32, r = .inr (.inl v) → ∀ (H : Heap) (locs : List Loc) (c1 s1 : Nat) (ls : Array Slot) (pc : Nat), Wd G ρ h0.length (sl h0) s.heap hB H locs c1 s1 → decode cX9_cuspidal pc = .ok (.ireturn, 1) → W p l e (RM 2 49 h0 hE) s m args below meth c H locs c1 s1 Q (F0 m pc ls [.int v])) (ke : ∀ z : Unit, r = .inr (.inr z) → ∀ (H : Heap) (locs : List Loc) (c1 s1 : Nat) (ls : Array Slot), Wd G ρ h0.length (sl h0) s.heap hB H locs c1 s1 → lv_has ls 2 [] → W p l e (RM 2 49 h0 hE) s m args below meth c H locs c1 s1 Q (F0 m 37 ls [])) : W p l e (RM 2 49 h0 hE) s m args below meth c H locs cells slots Q (F0 m 2 ls []) := by
  have hx := C.1
  have hb := C.2.1
  unfold fX9_cuspidal_b2 at hf
  refine lv_iload_n hx hb dX9_cuspidal_2 rfl (lv_at hl 1 rfl) ?_
  refine lv_aload_n hx hb dX9_cuspidal_3 rfl (lv_at hl 0 rfl) ?_
  obtain ⟨v1, e1, hf⟩ := pb_rd (rd_gA _ _ _) hf
  refine r_gA C hW e1 flX9_23 rfl dX9_cuspidal_4 ?_
  obtain ⟨v2, e2, hf⟩ := pb_rd (rd_gA _ _ _) hf
  refine r_gA C hW e2 flX9_62 rfl dX9_cuspidal_7 ?_
  obtain ⟨v3, e3, hf⟩ := pb_rd (rd_gI _ _ _) hf
  refine r_gI C hW e3 flX9_110 rfl dX9_cuspidal_10 ?_
  refine lv_icmp_ge (tgt := 37) hx hb dX9_cuspidal_13 (by decide) (fun c4 => ?_) (fun c4 => ?_)
  · rw [if_pos c4] at hf
    obtain ⟨rfl, rfl⟩ := pp_some hf
    exact ke _ rfl _ _ _ _ _ hW (lv_sub hl [] rfl)
  · rw [if_neg c4] at hf
    refine lv_aload_n hx hb dX9_cuspidal_16 rfl (lv_at hl 0 rfl) ?_
    obtain ⟨v5, e5, hf⟩ := pb_rd (rd_gA _ _ _) hf
    refine r_gA C hW e5 flX9_23 rfl dX9_cuspidal_17 ?_
    refine lv_iload_n hx hb dX9_cuspidal_20 rfl (lv_at hl 1 rfl) ?_
    obtain ⟨v6, h6, e6, hf⟩ := pb_some hf
    obtain ⟨_, _, t7⟩ := tgX8_boundaryAt e6
    refine r_calll hW (pext e6) (run_V (b := v5) (As := [.int x1]) (rest := []) C hW (metX8_boundaryAt l G ρ e6) ⟨rfl, rfl⟩ kcX8_boundaryAt (tq q_584 rfl) kiX8_boundaryAt ksX8_boundaryAt knX8_boundaryAt kdX8_boundaryAt t7 rfl rfl ⟨Nat.le_of_ble_eq_true rfl, Nat.le_of_ble_eq_true rfl⟩ hl.1 (Nat.le_of_ble_eq_true rfl) (room_of hW (pext e6) ((pext hf).tr hX)) dX9_cuspidal_21 rfl) (fun H locs c1 s1 hW => ?_)
    refine lv_lconst (v := 0) hx hb dX9_cuspidal_24 (by decide) ?_
    refine W.lcmp hx hb dX9_cuspidal_25 ?_
    refine lv_if_eq (tgt := 31) hx hb dX9_cuspidal_26 (by decide) (fun c8 => ?_) (fun c8 => ?_)
    · rw [if_pos c8] at hf
      refine lv_iinc (v := (x1 + 1)) (lv' := [(1, .int (x1 + 1)), (0, .ref (ρ x0))]) hx hb dX9_cuspidal_31 hl (k := 1) rfl rfl (by decide) rfl (fun ls hl => ?_)
      refine lv_goto (tgt := 2) hx hb dX9_cuspidal_34 (by decide) ?_
      obtain ⟨rfl, rfl⟩ := pp_some hf
      exact kc _ rfl _ _ _ _ _ hW (lv_sub hl [1, 0] rfl)
    · rw [if_neg c8] at hf
      refine lv_iconst (v := 0) hx hb dX9_cuspidal_29 (by decide) ?_
      obtain ⟨rfl, rfl⟩ := pp_some hf
      exact kr _ rfl _ _ _ _ _ _ hW dX9_cuspidal_30
set_option maxHeartbeats 4000000 in
theorem wX9_cuspidal_L2 {p : Program} {l : Launch} {e : Env} {s : State} {m : MethodId} {args : Array Value} {below : List Frame} {meth : Method} {c : Code} {G : GG} {ρ : Nat → Nat} {h0 hE hB : PH} {Q : State → Prop} {x0 : Nat} (C : Cx G "PairSymbols" cX9_cuspidal 2 (some .int) "cuspidal" p s m args meth c) {z : (Int32 ⊕ (Unit))} (n : Nat) : ∀ (x : Int32) {h : PH} {H : Heap} {locs : List Loc} {cells slots : Nat} {ls : Array Slot}, (plo (fX9_cuspidal_B2 x0) n x).1 h = some (z, hB) → Ext hB hE → Wd G ρ h0.length (sl h0) s.heap h H locs cells slots → lv_has ls 2 [(0, .ref (ρ x0)), (1, .int x)] → (kr : ∀ v : Int32, z = .inl v → ∀ (H : Heap) (locs : List Loc) (c1 s1 : Nat) (ls : Array Slot) (pc : Nat), Wd G ρ h0.length (sl h0) s.heap hB H locs c1 s1 → decode cX9_cuspidal pc = .ok (.ireturn, 1) → W p l e (RM 2 49 h0 hE) s m args below meth c H locs c1 s1 Q (F0 m pc ls [.int v])) → (ke : ∀ y : Unit, z = .inr y → ∀ (H : Heap) (locs : List Loc) (c1 s1 : Nat) (ls : Array Slot), Wd G ρ h0.length (sl h0) s.heap hB H locs c1 s1 → lv_has ls 2 [] → W p l e (RM 2 49 h0 hE) s m args below meth c H locs c1 s1 Q (F0 m 37 ls [])) → W p l e (RM 2 49 h0 hE) s m args below meth c H locs cells slots Q (F0 m 2 ls []) := by
  induction n with
  | zero =>
    intro x h H locs cells slots ls hf
    rw [plo_0] at hf
    exact (pf_no hf).elim
  | succ n ih =>
    intro x h H locs cells slots ls hf hX hW hl kr ke
    rw [plo_s] at hf
    obtain ⟨r, h1, e1, hf⟩ := pb_some hf
    unfold fX9_cuspidal_B2 at e1
    rw [frI_eq] at e1
    refine wX9_cuspidal_B2 C e1 ((pext hf).tr hX) hW hl (fun y hr H locs c1 s1 ls hW hl => ?_) (fun v hr H locs c1 s1 ls pc hW hd => ?_) (fun y hr H locs c1 s1 ls hW hl => ?_)
    · subst hr
      exact ih y hf hX hW hl kr ke
    · subst hr
      obtain ⟨rfl, rfl⟩ := pp_some hf
      exact kr v rfl H locs c1 s1 ls pc hW hd
    · subst hr
      obtain ⟨rfl, rfl⟩ := pp_some hf
      exact ke y rfl H locs c1 s1 ls hW hl
set_option maxHeartbeats 4000000 in
set_option maxRecDepth 100000 in
theorem metX9_cuspidal (l : Launch) (G : GG) (ρ : Nat → Nat) {z : Nat} {x0 : Nat} {h hE : PH} {v : Int32} (hf : (fX9_cuspidal x0).1 h = some (v, hE)) : Met l yX9_cuspidal (wsY yX9_cuspidal cX9_cuspidal 2 (some .int)) (RM 2 49 h hE) (va_Pc [.ref (ρ x0)] (PcB G ρ h z)) (QI G ρ v hE h.length z) (DC h hE) (DS h hE) (Af ρ h.length z) := by
  refine met_start (by decide) (Nat.le_of_ble_eq_true rfl) ?_
  intro p e s m below meth c ls hz C hW hl
  subst hz
  have C : Cx G "PairSymbols" cX9_cuspidal 2 (some .int) "cuspidal" p s m _ meth c := C
  have hx := C.1
  have hb := C.2.1
  have hX : Ext hE hE := Ext.rf hE
  have hl : lv_has ls 2 [(0, .ref (ρ x0))] := hl
  have hW : Wd G ρ h.length (sl h) s.heap h s.heap [] 0 0 := hW
  unfold fX9_cuspidal at hf
  obtain ⟨_, e0, hf⟩ := pb_rd (rd_chk _ _) hf
  refine lv_iconst (v := 0) hx hb dX9_cuspidal_0 (by decide) ?_
  refine lv_istore_n (lv' := [(1, .int (0 : Int32)), (0, .ref (ρ x0))]) hx hb dX9_cuspidal_1 rfl hl (by decide) rfl (fun ls hl => ?_)
  obtain ⟨z9, h9, e9, hf⟩ := pb_some hf
  refine wX9_cuspidal_L2 C fu _ e9 ((pext hf).tr hX) hW (lv_sub hl [1, 0] rfl) (fun v9 hz H locs c1 s1 ls pc hW hd => ?_) (fun z10 hz H locs c1 s1 ls hW hl => ?_)
  · subst hz
    obtain ⟨rfl, rfl⟩ := pp_some hf
    exact r_iret C hW hd
  · subst hz
    try dsimp only at hf
    refine lv_iconst (v := 1) hx hb dX9_cuspidal_37 (by decide) ?_
    obtain ⟨rfl, rfl⟩ := pp_some hf
    exact r_iret C hW dX9_cuspidal_38

theorem dX7_append_0 : decode cX7_append 0 = .ok (.aload_n 0, 1) := by decide +kernel
theorem dX7_append_1 : decode cX7_append 1 = .ok (.getfield 25, 3) := by decide +kernel
theorem dX7_append_4 : decode cX7_append 4 = .ok (.bipush 120, 2) := by decide +kernel
theorem dX7_append_6 : decode cX7_append 6 = .ok (.if_icmp .lt 5, 3) := by decide +kernel
theorem dX7_append_9 : decode cX7_append 9 = .ok (.iconst 0, 1) := by decide +kernel
theorem dX7_append_10 : decode cX7_append 10 = .ok (.ireturn, 1) := by decide +kernel
theorem dX7_append_11 : decode cX7_append 11 = .ok (.aload_n 0, 1) := by decide +kernel
theorem dX7_append_12 : decode cX7_append 12 = .ok (.getfield 9, 3) := by decide +kernel
theorem dX7_append_15 : decode cX7_append 15 = .ok (.aload_n 0, 1) := by decide +kernel
theorem dX7_append_16 : decode cX7_append 16 = .ok (.getfield 25, 3) := by decide +kernel
theorem dX7_append_19 : decode cX7_append 19 = .ok (.iload_n 1, 1) := by decide +kernel
theorem dX7_append_20 : decode cX7_append 20 = .ok (.i2b, 1) := by decide +kernel
theorem dX7_append_21 : decode cX7_append 21 = .ok (.bastore, 1) := by decide +kernel
theorem dX7_append_22 : decode cX7_append 22 = .ok (.aload_n 0, 1) := by decide +kernel
theorem dX7_append_23 : decode cX7_append 23 = .ok (.dup, 1) := by decide +kernel
theorem dX7_append_24 : decode cX7_append 24 = .ok (.getfield 25, 3) := by decide +kernel
theorem dX7_append_27 : decode cX7_append 27 = .ok (.iconst 1, 1) := by decide +kernel
theorem dX7_append_28 : decode cX7_append 28 = .ok (.iadd, 1) := by decide +kernel
theorem dX7_append_29 : decode cX7_append 29 = .ok (.putfield 25, 3) := by decide +kernel
theorem dX7_append_32 : decode cX7_append 32 = .ok (.iconst 1, 1) := by decide +kernel
theorem dX7_append_33 : decode cX7_append 33 = .ok (.ireturn, 1) := by decide +kernel
theorem kcX7_append : Cond.code yX7_append cX7_append 2 (some .boolean) ∈ tb := tq q_600 rfl
theorem knX7_append : Cond.initialized yX7_append.cls ∈ tb := (tq q_8 rfl)
theorem kdX7_append : yX7_append.cls ≠ "java/lang/invoke/MethodHandle" ∧ yX7_append.cls ≠ "java/lang/invoke/VarHandle" ∧ (parseMethodDescriptor yX7_append.desc).map (fun d => d.parameters.length) = some 1 := ⟨by decide +kernel, by decide +kernel, by decide +kernel⟩
theorem kiX7_append : Cond.instanceMethod yX7_append ∈ tb := (tq q_598 rfl)
theorem ksX7_append : Cond.selects yX7_append.cls yX7_append yX7_append ∈ tb := (tq q_599 rfl)
theorem tgX7_append {x0 : Nat} {x1 : Int32} {h : PH} {r : Int32 × PH} (hf : (fX7_append x0 x1).1 h = some r) : ∃ n x, nth h x0 = some (6, n, x) := by
  obtain ⟨_, _, e, _⟩ := pb_some hf
  exact (chk_some e).2
set_option maxHeartbeats 4000000 in
set_option maxRecDepth 100000 in
theorem metX7_append (l : Launch) (G : GG) (ρ : Nat → Nat) {z : Nat} {x0 : Nat} {x1 : Int32} {h hE : PH} {v : Int32} (hf : (fX7_append x0 x1).1 h = some (v, hE)) : Met l yX7_append (wsY yX7_append cX7_append 2 (some .boolean)) (RM 0 0 h hE) (va_Pc [.ref (ρ x0), .int x1] (PcB G ρ h z)) (QI G ρ v hE h.length z) (DC h hE) (DS h hE) (Af ρ h.length z) := by
  refine met_start (by decide) (Nat.le_of_ble_eq_true rfl) ?_
  intro p e s m below meth c ls hz C hW hl
  subst hz
  have C : Cx G "PairSymbols$Script" cX7_append 2 (some .boolean) "append" p s m _ meth c := C
  have hx := C.1
  have hb := C.2.1
  have hX : Ext hE hE := Ext.rf hE
  have hl : lv_has ls 2 [(0, .ref (ρ x0)), (1, .int x1)] := hl
  have hW : Wd G ρ h.length (sl h) s.heap h s.heap [] 0 0 := hW
  unfold fX7_append at hf
  obtain ⟨_, e0, hf⟩ := pb_rd (rd_chk _ _) hf
  refine lv_aload_n hx hb dX7_append_0 rfl (lv_at hl 0 rfl) ?_
  obtain ⟨v1, e1, hf⟩ := pb_rd (rd_gI _ _ _) hf
  refine r_gI C hW e1 flX7_25 rfl dX7_append_1 ?_
  refine lv_bipush (v := 120) hx hb dX7_append_4 (by decide) ?_
  refine lv_icmp_lt (tgt := 11) hx hb dX7_append_6 (by decide) (fun c2 => ?_) (fun c2 => ?_)
  · rw [if_pos c2] at hf
    refine lv_aload_n hx hb dX7_append_11 rfl (lv_at hl 0 rfl) ?_
    obtain ⟨v3, e3, hf⟩ := pb_rd (rd_gA _ _ _) hf
    refine r_gA C hW e3 flX7_9 rfl dX7_append_12 ?_
    refine lv_aload_n hx hb dX7_append_15 rfl (lv_at hl 0 rfl) ?_
    obtain ⟨v4, e4, hf⟩ := pb_rd (rd_gI _ _ _) hf
    refine r_gI C hW e4 flX7_25 rfl dX7_append_16 ?_
    refine lv_iload_n hx hb dX7_append_19 rfl (lv_at hl 1 rfl) ?_
    refine lv_i2b (v := x1.toInt8.toInt32) hx hb dX7_append_20 rfl ?_
    obtain ⟨_, h5, e5, hf⟩ := pb_some hf
    refine r_bast C hW e5 (pk_nb _) dX7_append_21 (fun H locs hW => ?_)
    refine lv_aload_n hx hb dX7_append_22 rfl (lv_at hl 0 rfl) ?_
    refine lv_dup hx hb dX7_append_23 rfl ?_
    obtain ⟨v6, e6, hf⟩ := pb_rd (rd_gI _ _ _) hf
    refine r_gI C hW e6 flX7_25 rfl dX7_append_24 ?_
    refine lv_iconst (v := 1) hx hb dX7_append_27 (by decide) ?_
    refine lv_iadd hx hb dX7_append_28 ?_
    obtain ⟨_, h7, e7, hf⟩ := pb_some hf
    refine r_sI C hW e7 flX7_25 (Or.inl rfl) rfl dX7_append_29 (fun H locs hW => ?_)
    refine lv_iconst (v := 1) hx hb dX7_append_32 (by decide) ?_
    obtain ⟨rfl, rfl⟩ := pp_some hf
    exact r_zret C hW rfl dX7_append_33
  · rw [if_neg c2] at hf
    refine lv_iconst (v := 0) hx hb dX7_append_9 (by decide) ?_
    obtain ⟨rfl, rfl⟩ := pp_some hf
    exact r_zret C hW rfl dX7_append_10

theorem dX9_type_0 : decode cX9_type 0 = .ok (.iload_n 1, 1) := by decide +kernel
theorem dX9_type_1 : decode cX9_type 1 = .ok (.iconst 0, 1) := by decide +kernel
theorem dX9_type_2 : decode cX9_type 2 = .ok (.bipush 127, 2) := by decide +kernel
theorem dX9_type_4 : decode cX9_type 4 = .ok (.invokestatic 99, 3) := by decide +kernel
theorem dX9_type_7 : decode cX9_type 7 = .ok (.ifCond .ne 10, 3) := by decide +kernel
theorem dX9_type_10 : decode cX9_type 10 = .ok (.aload_n 0, 1) := by decide +kernel
theorem dX9_type_11 : decode cX9_type 11 = .ok (.bipush (-2), 2) := by decide +kernel
theorem dX9_type_13 : decode cX9_type 13 = .ok (.invokevirtual 74, 3) := by decide +kernel
theorem dX9_type_16 : decode cX9_type 16 = .ok (.ireturn, 1) := by decide +kernel
theorem dX9_type_17 : decode cX9_type 17 = .ok (.aload_n 0, 1) := by decide +kernel
theorem dX9_type_18 : decode cX9_type 18 = .ok (.getfield 40, 3) := by decide +kernel
theorem dX9_type_21 : decode cX9_type 21 = .ok (.iload_n 1, 1) := by decide +kernel
theorem dX9_type_22 : decode cX9_type 22 = .ok (.invokevirtual 206, 3) := by decide +kernel
theorem dX9_type_25 : decode cX9_type 25 = .ok (.ifCond .ne 10, 3) := by decide +kernel
theorem dX9_type_28 : decode cX9_type 28 = .ok (.aload_n 0, 1) := by decide +kernel
theorem dX9_type_29 : decode cX9_type 29 = .ok (.bipush (-4), 2) := by decide +kernel
theorem dX9_type_31 : decode cX9_type 31 = .ok (.invokevirtual 74, 3) := by decide +kernel
theorem dX9_type_34 : decode cX9_type 34 = .ok (.ireturn, 1) := by decide +kernel
theorem dX9_type_35 : decode cX9_type 35 = .ok (.aload_n 0, 1) := by decide +kernel
theorem dX9_type_36 : decode cX9_type 36 = .ok (.getfield 40, 3) := by decide +kernel
theorem dX9_type_39 : decode cX9_type 39 = .ok (.getfield 209, 3) := by decide +kernel
theorem dX9_type_42 : decode cX9_type 42 = .ok (.ireturn, 1) := by decide +kernel
theorem kcX9_type : Cond.code yX9_type cX9_type 2 (some .int) ∈ tb := tq q_596 rfl
theorem knX9_type : Cond.initialized yX9_type.cls ∈ tb := (tq q_1 rfl)
theorem kdX9_type : yX9_type.cls ≠ "java/lang/invoke/MethodHandle" ∧ yX9_type.cls ≠ "java/lang/invoke/VarHandle" ∧ (parseMethodDescriptor yX9_type.desc).map (fun d => d.parameters.length) = some 1 := ⟨by decide +kernel, by decide +kernel, by decide +kernel⟩
theorem kiX9_type : Cond.instanceMethod yX9_type ∈ tb := (tq q_594 rfl)
theorem ksX9_type : Cond.selects yX9_type.cls yX9_type yX9_type ∈ tb := (tq q_595 rfl)
theorem tgX9_type {x0 : Nat} {x1 : Int32} {h : PH} {r : Int32 × PH} (hf : (fX9_type x0 x1).1 h = some r) : ∃ n x, nth h x0 = some (8, n, x) := by
  obtain ⟨_, _, e, _⟩ := pb_some hf
  exact (chk_some e).2
set_option maxHeartbeats 4000000 in
set_option maxRecDepth 100000 in
theorem metX9_type (l : Launch) (G : GG) (ρ : Nat → Nat) {z : Nat} {x0 : Nat} {x1 : Int32} {h hE : PH} {v : Int32} (hf : (fX9_type x0 x1).1 h = some (v, hE)) : Met l yX9_type (wsY yX9_type cX9_type 2 (some .int)) (RM 1 22 h hE) (va_Pc [.ref (ρ x0), .int x1] (PcB G ρ h z)) (QI G ρ v hE h.length z) (DC h hE) (DS h hE) (Af ρ h.length z) := by
  refine met_start (by decide) (Nat.le_of_ble_eq_true rfl) ?_
  intro p e s m below meth c ls hz C hW hl
  subst hz
  have C : Cx G "PairSymbols" cX9_type 2 (some .int) "type" p s m _ meth c := C
  have hx := C.1
  have hb := C.2.1
  have hX : Ext hE hE := Ext.rf hE
  have hl : lv_has ls 2 [(0, .ref (ρ x0)), (1, .int x1)] := hl
  have hW : Wd G ρ h.length (sl h) s.heap h s.heap [] 0 0 := hW
  unfold fX9_type at hf
  obtain ⟨_, e0, hf⟩ := pb_rd (rd_chk _ _) hf
  refine lv_iload_n hx hb dX9_type_0 rfl (lv_at hl 1 rfl) ?_
  refine lv_iconst (v := 0) hx hb dX9_type_1 (by decide) ?_
  refine lv_bipush (v := 127) hx hb dX9_type_2 (by decide) ?_
  obtain ⟨v1, h1, e1, hf⟩ := pb_some hf
  refine r_calli hW (pext e1) (run_S (As := [.int x1, .int (0 : Int32), .int (127 : Int32)]) (rest := []) C hW (metX9_within l G ρ e1) ⟨rfl, rfl⟩ kcX9_within (tq q_329 rfl) kiX9_within knX9_within kdX9_within ⟨Nat.le_of_ble_eq_true rfl, Nat.le_of_ble_eq_true rfl⟩ hl.1 (Nat.le_of_ble_eq_true rfl) (room_of hW (pext e1) ((pext hf).tr hX)) dX9_type_4 rfl) (fun H locs c1 s1 hW => ?_)
  refine lv_if_ne (tgt := 17) hx hb dX9_type_7 (by decide) (fun c2 => ?_) (fun c2 => ?_)
  · rw [if_neg c2] at hf
    refine lv_aload_n hx hb dX9_type_17 rfl (lv_at hl 0 rfl) ?_
    obtain ⟨v3, e3, hf⟩ := pb_rd (rd_gA _ _ _) hf
    refine r_gA C hW e3 flX9_40 rfl dX9_type_18 ?_
    refine lv_iload_n hx hb dX9_type_21 rfl (lv_at hl 1 rfl) ?_
    obtain ⟨v4, h4, e4, hf⟩ := pb_some hf
    obtain ⟨_, _, t5⟩ := tgX7_append e4
    refine r_calli hW (pext e4) (run_V (b := v3) (As := [.int x1]) (rest := []) C hW (metX7_append l G ρ e4) ⟨rfl, rfl⟩ kcX7_append (tq q_597 rfl) kiX7_append ksX7_append knX7_append kdX7_append t5 rfl rfl ⟨Nat.le_of_ble_eq_true rfl, Nat.le_of_ble_eq_true rfl⟩ hl.1 (Nat.le_of_ble_eq_true rfl) (room_of hW (pext e4) ((pext hf).tr hX)) dX9_type_22 rfl) (fun H locs c1 s1 hW => ?_)
    refine lv_if_ne (tgt := 35) hx hb dX9_type_25 (by decide) (fun c6 => ?_) (fun c6 => ?_)
    · rw [if_neg c6] at hf
      refine lv_aload_n hx hb dX9_type_35 rfl (lv_at hl 0 rfl) ?_
      obtain ⟨v7, e7, hf⟩ := pb_rd (rd_gA _ _ _) hf
      refine r_gA C hW e7 flX9_40 rfl dX9_type_36 ?_
      obtain ⟨v8, e8, hf⟩ := pb_rd (rd_gI _ _ _) hf
      refine r_gI C hW e8 flX9_209 rfl dX9_type_39 ?_
      obtain ⟨rfl, rfl⟩ := pp_some hf
      exact r_iret C hW dX9_type_42
    · rw [if_pos c6] at hf
      refine lv_aload_n hx hb dX9_type_28 rfl (lv_at hl 0 rfl) ?_
      refine lv_bipush (v := -4) hx hb dX9_type_29 (by decide) ?_
      obtain ⟨v9, h9, e9, hf⟩ := pb_some hf
      obtain ⟨_, _, t10⟩ := tgX9_refuse e9
      refine r_calli hW (pext e9) (run_V (b := x0) (As := [.int (-4 : Int32)]) (rest := []) C hW (metX9_refuse l G ρ e9) ⟨rfl, rfl⟩ kcX9_refuse (tq q_343 rfl) kiX9_refuse ksX9_refuse knX9_refuse kdX9_refuse t10 rfl rfl ⟨Nat.le_of_ble_eq_true rfl, Nat.le_of_ble_eq_true rfl⟩ hl.1 (Nat.le_of_ble_eq_true rfl) (room_of hW (pext e9) ((pext hf).tr hX)) dX9_type_31 rfl) (fun H locs c1 s1 hW => ?_)
      obtain ⟨rfl, rfl⟩ := pp_some hf
      exact r_iret C hW dX9_type_34
  · rw [if_pos c2] at hf
    refine lv_aload_n hx hb dX9_type_10 rfl (lv_at hl 0 rfl) ?_
    refine lv_bipush (v := -2) hx hb dX9_type_11 (by decide) ?_
    obtain ⟨v11, h11, e11, hf⟩ := pb_some hf
    obtain ⟨_, _, t12⟩ := tgX9_refuse e11
    refine r_calli hW (pext e11) (run_V (b := x0) (As := [.int (-2 : Int32)]) (rest := []) C hW (metX9_refuse l G ρ e11) ⟨rfl, rfl⟩ kcX9_refuse (tq q_343 rfl) kiX9_refuse ksX9_refuse knX9_refuse kdX9_refuse t12 rfl rfl ⟨Nat.le_of_ble_eq_true rfl, Nat.le_of_ble_eq_true rfl⟩ hl.1 (Nat.le_of_ble_eq_true rfl) (room_of hW (pext e11) ((pext hf).tr hX)) dX9_type_13 rfl) (fun H locs c1 s1 hW => ?_)
    obtain ⟨rfl, rfl⟩ := pp_some hf
    exact r_iret C hW dX9_type_16

theorem dX9_clear_0 : decode cX9_clear 0 = .ok (.aload_n 0, 1) := by decide +kernel
theorem dX9_clear_1 : decode cX9_clear 1 = .ok (.getfield 40, 3) := by decide +kernel
theorem dX9_clear_4 : decode cX9_clear 4 = .ok (.getfield 209, 3) := by decide +kernel
theorem dX9_clear_7 : decode cX9_clear 7 = .ok (.istore_n 1, 1) := by decide +kernel
theorem dX9_clear_8 : decode cX9_clear 8 = .ok (.aload_n 0, 1) := by decide +kernel
theorem dX9_clear_9 : decode cX9_clear 9 = .ok (.getfield 40, 3) := by decide +kernel
theorem dX9_clear_12 : decode cX9_clear 12 = .ok (.iconst 0, 1) := by decide +kernel
theorem dX9_clear_13 : decode cX9_clear 13 = .ok (.putfield 209, 3) := by decide +kernel
theorem dX9_clear_16 : decode cX9_clear 16 = .ok (.iload_n 1, 1) := by decide +kernel
theorem dX9_clear_17 : decode cX9_clear 17 = .ok (.ireturn, 1) := by decide +kernel
theorem kcX9_clear : Cond.code yX9_clear cX9_clear 2 (some .int) ∈ tb := tq q_604 rfl
theorem knX9_clear : Cond.initialized yX9_clear.cls ∈ tb := (tq q_1 rfl)
theorem kdX9_clear : yX9_clear.cls ≠ "java/lang/invoke/MethodHandle" ∧ yX9_clear.cls ≠ "java/lang/invoke/VarHandle" ∧ (parseMethodDescriptor yX9_clear.desc).map (fun d => d.parameters.length) = some 0 := ⟨by decide +kernel, by decide +kernel, by decide +kernel⟩
theorem kiX9_clear : Cond.instanceMethod yX9_clear ∈ tb := (tq q_602 rfl)
theorem ksX9_clear : Cond.selects yX9_clear.cls yX9_clear yX9_clear ∈ tb := (tq q_603 rfl)
theorem tgX9_clear {x0 : Nat} {h : PH} {r : Int32 × PH} (hf : (fX9_clear x0).1 h = some r) : ∃ n x, nth h x0 = some (8, n, x) := by
  obtain ⟨_, _, e, _⟩ := pb_some hf
  exact (chk_some e).2
set_option maxHeartbeats 4000000 in
set_option maxRecDepth 100000 in
theorem metX9_clear (l : Launch) (G : GG) (ρ : Nat → Nat) {z : Nat} {x0 : Nat} {h hE : PH} {v : Int32} (hf : (fX9_clear x0).1 h = some (v, hE)) : Met l yX9_clear (wsY yX9_clear cX9_clear 2 (some .int)) (RM 0 0 h hE) (va_Pc [.ref (ρ x0)] (PcB G ρ h z)) (QI G ρ v hE h.length z) (DC h hE) (DS h hE) (Af ρ h.length z) := by
  refine met_start (by decide) (Nat.le_of_ble_eq_true rfl) ?_
  intro p e s m below meth c ls hz C hW hl
  subst hz
  have C : Cx G "PairSymbols" cX9_clear 2 (some .int) "clea\x72" p s m _ meth c := C
  have hx := C.1
  have hb := C.2.1
  have hX : Ext hE hE := Ext.rf hE
  have hl : lv_has ls 2 [(0, .ref (ρ x0))] := hl
  have hW : Wd G ρ h.length (sl h) s.heap h s.heap [] 0 0 := hW
  unfold fX9_clear at hf
  obtain ⟨_, e0, hf⟩ := pb_rd (rd_chk _ _) hf
  refine lv_aload_n hx hb dX9_clear_0 rfl (lv_at hl 0 rfl) ?_
  obtain ⟨v1, e1, hf⟩ := pb_rd (rd_gA _ _ _) hf
  refine r_gA C hW e1 flX9_40 rfl dX9_clear_1 ?_
  obtain ⟨v2, e2, hf⟩ := pb_rd (rd_gI _ _ _) hf
  refine r_gI C hW e2 flX9_209 rfl dX9_clear_4 ?_
  refine lv_istore_n (lv' := [(1, .int v2), (0, .ref (ρ x0))]) hx hb dX9_clear_7 rfl hl (by decide) rfl (fun ls hl => ?_)
  refine lv_aload_n hx hb dX9_clear_8 rfl (lv_at hl 1 rfl) ?_
  obtain ⟨v3, e3, hf⟩ := pb_rd (rd_gA _ _ _) hf
  refine r_gA C hW e3 flX9_40 rfl dX9_clear_9 ?_
  refine lv_iconst (v := 0) hx hb dX9_clear_12 (by decide) ?_
  obtain ⟨_, h4, e4, hf⟩ := pb_some hf
  refine r_sI C hW e4 flX9_209 (Or.inl rfl) rfl dX9_clear_13 (fun H locs hW => ?_)
  refine lv_iload_n hx hb dX9_clear_16 rfl (lv_at hl 0 rfl) ?_
  obtain ⟨rfl, rfl⟩ := pp_some hf
  exact r_iret C hW dX9_clear_17

theorem dX7_byteHere_0 : decode cX7_byteHere 0 = .ok (.aload_n 0, 1) := by decide +kernel
theorem dX7_byteHere_1 : decode cX7_byteHere 1 = .ok (.getfield 32, 3) := by decide +kernel
theorem dX7_byteHere_4 : decode cX7_byteHere 4 = .ok (.aload_n 0, 1) := by decide +kernel
theorem dX7_byteHere_5 : decode cX7_byteHere 5 = .ok (.getfield 25, 3) := by decide +kernel
theorem dX7_byteHere_8 : decode cX7_byteHere 8 = .ok (.if_icmp .ge 24, 3) := by decide +kernel
theorem dX7_byteHere_11 : decode cX7_byteHere 11 = .ok (.aload_n 0, 1) := by decide +kernel
theorem dX7_byteHere_12 : decode cX7_byteHere 12 = .ok (.getfield 32, 3) := by decide +kernel
theorem dX7_byteHere_15 : decode cX7_byteHere 15 = .ok (.bipush 120, 2) := by decide +kernel
theorem dX7_byteHere_17 : decode cX7_byteHere 17 = .ok (.if_icmp .ge 15, 3) := by decide +kernel
theorem dX7_byteHere_20 : decode cX7_byteHere 20 = .ok (.aload_n 0, 1) := by decide +kernel
theorem dX7_byteHere_21 : decode cX7_byteHere 21 = .ok (.getfield 9, 3) := by decide +kernel
theorem dX7_byteHere_24 : decode cX7_byteHere 24 = .ok (.aload_n 0, 1) := by decide +kernel
theorem dX7_byteHere_25 : decode cX7_byteHere 25 = .ok (.getfield 32, 3) := by decide +kernel
theorem dX7_byteHere_28 : decode cX7_byteHere 28 = .ok (.baload, 1) := by decide +kernel
theorem dX7_byteHere_29 : decode cX7_byteHere 29 = .ok (.goto 4, 3) := by decide +kernel
theorem dX7_byteHere_32 : decode cX7_byteHere 32 = .ok (.iconst (-1), 1) := by decide +kernel
theorem dX7_byteHere_33 : decode cX7_byteHere 33 = .ok (.ireturn, 1) := by decide +kernel
theorem kcX7_byteHere : Cond.code yX7_byteHere cX7_byteHere 1 (some .int) ∈ tb := tq q_620 rfl
theorem knX7_byteHere : Cond.initialized yX7_byteHere.cls ∈ tb := (tq q_8 rfl)
theorem kdX7_byteHere : yX7_byteHere.cls ≠ "java/lang/invoke/MethodHandle" ∧ yX7_byteHere.cls ≠ "java/lang/invoke/VarHandle" ∧ (parseMethodDescriptor yX7_byteHere.desc).map (fun d => d.parameters.length) = some 0 := ⟨by decide +kernel, by decide +kernel, by decide +kernel⟩
theorem kiX7_byteHere : Cond.instanceMethod yX7_byteHere ∈ tb := (tq q_619 rfl)
theorem ksX7_byteHere : Cond.selects yX7_byteHere.cls yX7_byteHere yX7_byteHere ∈ tb := (tq z_19 rfl)
theorem tgX7_byteHere {x0 : Nat} {h : PH} {r : Int32 × PH} (hf : (fX7_byteHere x0).1 h = some r) : ∃ n x, nth h x0 = some (6, n, x) := by
  obtain ⟨_, _, e, _⟩ := pb_some hf
  exact (chk_some e).2
set_option maxHeartbeats 4000000 in
set_option maxRecDepth 100000 in
theorem metX7_byteHere (l : Launch) (G : GG) (ρ : Nat → Nat) {z : Nat} {x0 : Nat} {h hE : PH} {v : Int32} (hf : (fX7_byteHere x0).1 h = some (v, hE)) : Met l yX7_byteHere (wsY yX7_byteHere cX7_byteHere 1 (some .int)) (RM 0 0 h hE) (va_Pc [.ref (ρ x0)] (PcB G ρ h z)) (QI G ρ v hE h.length z) (DC h hE) (DS h hE) (Af ρ h.length z) := by
  refine met_start (by decide) (Nat.le_of_ble_eq_true rfl) ?_
  intro p e s m below meth c ls hz C hW hl
  subst hz
  have C : Cx G "PairSymbols$Script" cX7_byteHere 1 (some .int) "byteHere" p s m _ meth c := C
  have hx := C.1
  have hb := C.2.1
  have hX : Ext hE hE := Ext.rf hE
  have hl : lv_has ls 1 [(0, .ref (ρ x0))] := hl
  have hW : Wd G ρ h.length (sl h) s.heap h s.heap [] 0 0 := hW
  unfold fX7_byteHere at hf
  obtain ⟨_, e0, hf⟩ := pb_rd (rd_chk _ _) hf
  refine lv_aload_n hx hb dX7_byteHere_0 rfl (lv_at hl 0 rfl) ?_
  obtain ⟨v1, e1, hf⟩ := pb_rd (rd_gI _ _ _) hf
  refine r_gI C hW e1 flX7_32 rfl dX7_byteHere_1 ?_
  refine lv_aload_n hx hb dX7_byteHere_4 rfl (lv_at hl 0 rfl) ?_
  obtain ⟨v2, e2, hf⟩ := pb_rd (rd_gI _ _ _) hf
  refine r_gI C hW e2 flX7_25 rfl dX7_byteHere_5 ?_
  refine lv_icmp_ge (tgt := 32) hx hb dX7_byteHere_8 (by decide) (fun c3 => ?_) (fun c3 => ?_)
  · rw [if_pos c3] at hf
    refine lv_iconst (v := -1) hx hb dX7_byteHere_32 (by decide) ?_
    obtain ⟨rfl, rfl⟩ := pp_some hf
    exact r_iret C hW dX7_byteHere_33
  · rw [if_neg c3] at hf
    refine lv_aload_n hx hb dX7_byteHere_11 rfl (lv_at hl 0 rfl) ?_
    obtain ⟨v4, e4, hf⟩ := pb_rd (rd_gI _ _ _) hf
    refine r_gI C hW e4 flX7_32 rfl dX7_byteHere_12 ?_
    refine lv_bipush (v := 120) hx hb dX7_byteHere_15 (by decide) ?_
    refine lv_icmp_ge (tgt := 32) hx hb dX7_byteHere_17 (by decide) (fun c5 => ?_) (fun c5 => ?_)
    · rw [if_pos c5] at hf
      refine lv_iconst (v := -1) hx hb dX7_byteHere_32 (by decide) ?_
      obtain ⟨rfl, rfl⟩ := pp_some hf
      exact r_iret C hW dX7_byteHere_33
    · rw [if_neg c5] at hf
      refine lv_aload_n hx hb dX7_byteHere_20 rfl (lv_at hl 0 rfl) ?_
      obtain ⟨v6, e6, hf⟩ := pb_rd (rd_gA _ _ _) hf
      refine r_gA C hW e6 flX7_9 rfl dX7_byteHere_21 ?_
      refine lv_aload_n hx hb dX7_byteHere_24 rfl (lv_at hl 0 rfl) ?_
      obtain ⟨v7, e7, hf⟩ := pb_rd (rd_gI _ _ _) hf
      refine r_gI C hW e7 flX7_32 rfl dX7_byteHere_25 ?_
      obtain ⟨v8, e8, hf⟩ := pb_rd (rd_lI _ _ _) hf
      refine r_bald C hW e8 dX7_byteHere_28 ?_
      refine lv_goto (tgt := 33) hx hb dX7_byteHere_29 (by decide) ?_
      obtain ⟨rfl, rfl⟩ := pp_some hf
      exact r_iret C hW dX7_byteHere_33

theorem dX7_skipBlanks_0 : decode cX7_skipBlanks 0 = .ok (.aload_n 0, 1) := by decide +kernel
theorem dX7_skipBlanks_1 : decode cX7_skipBlanks 1 = .ok (.getfield 32, 3) := by decide +kernel
theorem dX7_skipBlanks_4 : decode cX7_skipBlanks 4 = .ok (.aload_n 0, 1) := by decide +kernel
theorem dX7_skipBlanks_5 : decode cX7_skipBlanks 5 = .ok (.getfield 25, 3) := by decide +kernel
theorem dX7_skipBlanks_8 : decode cX7_skipBlanks 8 = .ok (.if_icmp .ge 25, 3) := by decide +kernel
theorem dX7_skipBlanks_11 : decode cX7_skipBlanks 11 = .ok (.aload_n 0, 1) := by decide +kernel
theorem dX7_skipBlanks_12 : decode cX7_skipBlanks 12 = .ok (.invokevirtual 42, 3) := by decide +kernel
theorem dX7_skipBlanks_15 : decode cX7_skipBlanks 15 = .ok (.bipush 32, 2) := by decide +kernel
theorem dX7_skipBlanks_17 : decode cX7_skipBlanks 17 = .ok (.if_icmp .ne 16, 3) := by decide +kernel
theorem dX7_skipBlanks_20 : decode cX7_skipBlanks 20 = .ok (.aload_n 0, 1) := by decide +kernel
theorem dX7_skipBlanks_21 : decode cX7_skipBlanks 21 = .ok (.dup, 1) := by decide +kernel
theorem dX7_skipBlanks_22 : decode cX7_skipBlanks 22 = .ok (.getfield 32, 3) := by decide +kernel
theorem dX7_skipBlanks_25 : decode cX7_skipBlanks 25 = .ok (.iconst 1, 1) := by decide +kernel
theorem dX7_skipBlanks_26 : decode cX7_skipBlanks 26 = .ok (.iadd, 1) := by decide +kernel
theorem dX7_skipBlanks_27 : decode cX7_skipBlanks 27 = .ok (.putfield 32, 3) := by decide +kernel
theorem dX7_skipBlanks_30 : decode cX7_skipBlanks 30 = .ok (.goto (-30), 3) := by decide +kernel
theorem dX7_skipBlanks_33 : decode cX7_skipBlanks 33 = .ok (.return_, 1) := by decide +kernel
theorem kcX7_skipBlanks : Cond.code yX7_skipBlanks cX7_skipBlanks 1 none ∈ tb := tq q_616 rfl
theorem knX7_skipBlanks : Cond.initialized yX7_skipBlanks.cls ∈ tb := (tq q_8 rfl)
theorem kdX7_skipBlanks : yX7_skipBlanks.cls ≠ "java/lang/invoke/MethodHandle" ∧ yX7_skipBlanks.cls ≠ "java/lang/invoke/VarHandle" ∧ (parseMethodDescriptor yX7_skipBlanks.desc).map (fun d => d.parameters.length) = some 0 := ⟨by decide +kernel, by decide +kernel, by decide +kernel⟩
theorem kiX7_skipBlanks : Cond.instanceMethod yX7_skipBlanks ∈ tb := (tq q_615 rfl)
theorem ksX7_skipBlanks : Cond.selects yX7_skipBlanks.cls yX7_skipBlanks yX7_skipBlanks ∈ tb := (tq z_18 rfl)
theorem tgX7_skipBlanks {x0 : Nat} {h : PH} {r : Unit × PH} (hf : (fX7_skipBlanks x0).1 h = some r) : ∃ n x, nth h x0 = some (6, n, x) := by
  obtain ⟨_, _, e, _⟩ := pb_some hf
  exact (chk_some e).2
set_option maxHeartbeats 4000000 in
set_option maxRecDepth 100000 in
theorem wX7_skipBlanks_B0 {p : Program} {l : Launch} {e : Env} {s : State} {m : MethodId} {args : Array Value} {below : List Frame} {meth : Method} {c : Code} {G : GG} {ρ : Nat → Nat} {h0 hE hB : PH} {Q : State → Prop} {x0 : Nat} (C : Cx G "PairSymbols$Script" cX7_skipBlanks 1 none "skipBlanks" p s m args meth c)  {h : PH} {H : Heap} {locs : List Loc} {cells slots : Nat} {ls : Array Slot} {r : (Unit) ⊕ (Unit)} (hf : (fX7_skipBlanks_b0 x0 ).1 h = some (r, hB)) (hX : Ext hB hE) (hW : Wd G ρ h0.length (sl h0) s.heap h H locs cells slots) (hl : lv_has ls 1 [(0, .ref (ρ x0))]) (kc : ∀ y : Unit, r = .inl y → ∀ (H : Heap) (locs : List Loc) (c1 s1 : Nat) (ls : Array Slot), Wd G ρ h0.length (sl h0) s.heap hB H locs c1 s1 → lv_has ls 1 [(0, .ref (ρ x0))] → W p l e (RM 1 20 h0 hE) s m args below meth c H locs c1 s1 Q (F0 m 0 ls [])) (ke : ∀ z : Unit, r = .inr z → ∀ (H : Heap) (locs : List Loc) (c1 s1 : Nat) (ls : Array Slot), Wd G ρ h0.length (sl h0) s.heap hB H locs c1 s1 → lv_has ls 1 [] → W p l e (RM 1 20 h0 hE) s m args below meth c H locs c1 s1 Q (F0 m 33 ls [])) : W p l e (RM 1 20 h0 hE) s m args below meth c H locs cells slots Q (F0 m 0 ls []) := by
  have hx := C.1
  have hb := C.2.1
  unfold fX7_skipBlanks_b0 at hf
  refine lv_aload_n hx hb dX7_skipBlanks_0 rfl (lv_at hl 0 rfl) ?_
  obtain ⟨v1, e1, hf⟩ := pb_rd (rd_gI _ _ _) hf
  refine r_gI C hW e1 flX7_32 rfl dX7_skipBlanks_1 ?_
  refine lv_aload_n hx hb dX7_skipBlanks_4 rfl (lv_at hl 0 rfl) ?_
  obtain ⟨v2, e2, hf⟩ := pb_rd (rd_gI _ _ _) hf
  refine r_gI C hW e2 flX7_25 rfl dX7_skipBlanks_5 ?_
  refine lv_icmp_ge (tgt := 33) hx hb dX7_skipBlanks_8 (by decide) (fun c3 => ?_) (fun c3 => ?_)
  · rw [if_pos c3] at hf
    obtain ⟨rfl, rfl⟩ := pp_some hf
    exact ke _ rfl _ _ _ _ _ hW (lv_sub hl [] rfl)
  · rw [if_neg c3] at hf
    refine lv_aload_n hx hb dX7_skipBlanks_11 rfl (lv_at hl 0 rfl) ?_
    obtain ⟨v4, h4, e4, hf⟩ := pb_some hf
    obtain ⟨_, _, t5⟩ := tgX7_byteHere e4
    refine r_calli hW (pext e4) (run_V (b := x0) (As := []) (rest := []) C hW (metX7_byteHere l G ρ e4) ⟨rfl, rfl⟩ kcX7_byteHere (tq q_617 rfl) kiX7_byteHere ksX7_byteHere knX7_byteHere kdX7_byteHere t5 rfl rfl ⟨Nat.le_of_ble_eq_true rfl, Nat.le_of_ble_eq_true rfl⟩ hl.1 (Nat.le_of_ble_eq_true rfl) (room_of hW (pext e4) ((pext hf).tr hX)) dX7_skipBlanks_12 rfl) (fun H locs c1 s1 hW => ?_)
    refine lv_bipush (v := 32) hx hb dX7_skipBlanks_15 (by decide) ?_
    refine lv_icmp_ne (tgt := 33) hx hb dX7_skipBlanks_17 (by decide) (fun c6 => ?_) (fun c6 => ?_)
    · rw [if_neg c6] at hf
      obtain ⟨rfl, rfl⟩ := pp_some hf
      exact ke _ rfl _ _ _ _ _ hW (lv_sub hl [] rfl)
    · rw [if_pos c6] at hf
      refine lv_aload_n hx hb dX7_skipBlanks_20 rfl (lv_at hl 0 rfl) ?_
      refine lv_dup hx hb dX7_skipBlanks_21 rfl ?_
      obtain ⟨v7, e7, hf⟩ := pb_rd (rd_gI _ _ _) hf
      refine r_gI C hW e7 flX7_32 rfl dX7_skipBlanks_22 ?_
      refine lv_iconst (v := 1) hx hb dX7_skipBlanks_25 (by decide) ?_
      refine lv_iadd hx hb dX7_skipBlanks_26 ?_
      obtain ⟨_, h8, e8, hf⟩ := pb_some hf
      refine r_sI C hW e8 flX7_32 (Or.inl rfl) rfl dX7_skipBlanks_27 (fun H locs hW => ?_)
      refine lv_goto (tgt := 0) hx hb dX7_skipBlanks_30 (by decide) ?_
      obtain ⟨rfl, rfl⟩ := pp_some hf
      exact kc _ rfl _ _ _ _ _ hW (lv_sub hl [0] rfl)
set_option maxHeartbeats 4000000 in
theorem wX7_skipBlanks_L0 {p : Program} {l : Launch} {e : Env} {s : State} {m : MethodId} {args : Array Value} {below : List Frame} {meth : Method} {c : Code} {G : GG} {ρ : Nat → Nat} {h0 hE hB : PH} {Q : State → Prop} {x0 : Nat} (C : Cx G "PairSymbols$Script" cX7_skipBlanks 1 none "skipBlanks" p s m args meth c) {z : (Unit)} (n : Nat) : ∀ (x : Unit) {h : PH} {H : Heap} {locs : List Loc} {cells slots : Nat} {ls : Array Slot}, (plo (fX7_skipBlanks_B0 x0) n x).1 h = some (z, hB) → Ext hB hE → Wd G ρ h0.length (sl h0) s.heap h H locs cells slots → lv_has ls 1 [(0, .ref (ρ x0))] → (ke : ∀ (H : Heap) (locs : List Loc) (c1 s1 : Nat) (ls : Array Slot), Wd G ρ h0.length (sl h0) s.heap hB H locs c1 s1 → lv_has ls 1 [] → W p l e (RM 1 20 h0 hE) s m args below meth c H locs c1 s1 Q (F0 m 33 ls [])) → W p l e (RM 1 20 h0 hE) s m args below meth c H locs cells slots Q (F0 m 0 ls []) := by
  induction n with
  | zero =>
    intro x h H locs cells slots ls hf
    rw [plo_0] at hf
    exact (pf_no hf).elim
  | succ n ih =>
    intro x h H locs cells slots ls hf hX hW hl ke
    rw [plo_s] at hf
    obtain ⟨r, h1, e1, hf⟩ := pb_some hf
    refine wX7_skipBlanks_B0 C e1 ((pext hf).tr hX) hW hl (fun y hr H locs c1 s1 ls hW hl => ?_) (fun y hr H locs c1 s1 ls hW hl => ?_)
    · subst hr
      exact ih y hf hX hW hl ke
    · subst hr
      obtain ⟨rfl, rfl⟩ := pp_some hf
      exact ke H locs c1 s1 ls hW hl
set_option maxHeartbeats 4000000 in
set_option maxRecDepth 100000 in
theorem metX7_skipBlanks (l : Launch) (G : GG) (ρ : Nat → Nat) {z : Nat} {x0 : Nat} {h hE : PH} {v : Unit} (hf : (fX7_skipBlanks x0).1 h = some (v, hE)) : Met l yX7_skipBlanks (wsY yX7_skipBlanks cX7_skipBlanks 1 none) (RM 1 20 h hE) (va_Pc [.ref (ρ x0)] (PcB G ρ h z)) (QV G ρ hE h.length z) (DC h hE) (DS h hE) (Af ρ h.length z) := by
  refine met_start (by decide) (Nat.le_of_ble_eq_true rfl) ?_
  intro p e s m below meth c ls hz C hW hl
  subst hz
  have C : Cx G "PairSymbols$Script" cX7_skipBlanks 1 none "skipBlanks" p s m _ meth c := C
  have hx := C.1
  have hb := C.2.1
  have hX : Ext hE hE := Ext.rf hE
  have hl : lv_has ls 1 [(0, .ref (ρ x0))] := hl
  have hW : Wd G ρ h.length (sl h) s.heap h s.heap [] 0 0 := hW
  unfold fX7_skipBlanks at hf
  obtain ⟨_, e0, hf⟩ := pb_rd (rd_chk _ _) hf
  obtain ⟨z9, h9, e9, hf⟩ := pb_some hf
  refine wX7_skipBlanks_L0 C fu _ e9 ((pext hf).tr hX) hW (lv_sub hl [0] rfl) (fun H locs c1 s1 ls hW hl => ?_)
  obtain ⟨rfl, rfl⟩ := pp_some hf
  exact r_vret C hW dX7_skipBlanks_33

theorem dX7_numbersOf_0 : decode cX7_numbersOf 0 = .ok (.iload_n 0, 1) := by decide +kernel
theorem dX7_numbersOf_1 : decode cX7_numbersOf 1 = .ok (.lookupswitch 61 #[(43, 53), (110, 51), (116, 55), (119, 57), (122, 59)], 51) := by decide +kernel
theorem dX7_numbersOf_52 : decode cX7_numbersOf 52 = .ok (.iconst 1, 1) := by decide +kernel
theorem dX7_numbersOf_53 : decode cX7_numbersOf 53 = .ok (.ireturn, 1) := by decide +kernel
theorem dX7_numbersOf_54 : decode cX7_numbersOf 54 = .ok (.iconst 2, 1) := by decide +kernel
theorem dX7_numbersOf_55 : decode cX7_numbersOf 55 = .ok (.ireturn, 1) := by decide +kernel
theorem dX7_numbersOf_56 : decode cX7_numbersOf 56 = .ok (.iconst 1, 1) := by decide +kernel
theorem dX7_numbersOf_57 : decode cX7_numbersOf 57 = .ok (.ireturn, 1) := by decide +kernel
theorem dX7_numbersOf_58 : decode cX7_numbersOf 58 = .ok (.iconst 2, 1) := by decide +kernel
theorem dX7_numbersOf_59 : decode cX7_numbersOf 59 = .ok (.ireturn, 1) := by decide +kernel
theorem dX7_numbersOf_60 : decode cX7_numbersOf 60 = .ok (.iconst 0, 1) := by decide +kernel
theorem dX7_numbersOf_61 : decode cX7_numbersOf 61 = .ok (.ireturn, 1) := by decide +kernel
theorem dX7_numbersOf_62 : decode cX7_numbersOf 62 = .ok (.iconst (-1), 1) := by decide +kernel
theorem dX7_numbersOf_63 : decode cX7_numbersOf 63 = .ok (.ireturn, 1) := by decide +kernel
theorem kcX7_numbersOf : Cond.code yX7_numbersOf cX7_numbersOf 1 (some .int) ∈ tb := tq q_627 rfl
theorem knX7_numbersOf : Cond.initialized yX7_numbersOf.cls ∈ tb := (tq q_8 rfl)
theorem kdX7_numbersOf : yX7_numbersOf.cls ≠ "java/lang/invoke/MethodHandle" ∧ yX7_numbersOf.cls ≠ "java/lang/invoke/VarHandle" ∧ (parseMethodDescriptor yX7_numbersOf.desc).map (fun d => d.parameters.length) = some 1 := ⟨by decide +kernel, by decide +kernel, by decide +kernel⟩
theorem kiX7_numbersOf : Cond.static yX7_numbersOf ∈ tb := (tq q_626 rfl)
set_option maxHeartbeats 4000000 in
set_option maxRecDepth 100000 in
theorem metX7_numbersOf (l : Launch) (G : GG) (ρ : Nat → Nat) {z : Nat} {x0 : Int32} {h hE : PH} {v : Int32} (hf : (fX7_numbersOf x0).1 h = some (v, hE)) : Met l yX7_numbersOf (wsY yX7_numbersOf cX7_numbersOf 1 (some .int)) (RM 0 0 h hE) (va_Pc [.int x0] (PcB G ρ h z)) (QI G ρ v hE h.length z) (DC h hE) (DS h hE) (Af ρ h.length z) := by
  refine met_start (by decide) (Nat.le_of_ble_eq_true rfl) ?_
  intro p e s m below meth c ls hz C hW hl
  subst hz
  have C : Cx G "PairSymbols$Script" cX7_numbersOf 1 (some .int) "numbersOf" p s m _ meth c := C
  have hx := C.1
  have hb := C.2.1
  have hX : Ext hE hE := Ext.rf hE
  have hl : lv_has ls 1 [(0, .int x0)] := hl
  have hW : Wd G ρ h.length (sl h) s.heap h s.heap [] 0 0 := hW
  unfold fX7_numbersOf at hf
  refine lv_iload_n hx hb dX7_numbersOf_0 rfl (lv_at hl 0 rfl) ?_
  by_cases c1 : x0 = 43
  · rw [if_pos c1] at hf
    refine lv_lookup (off := 53) (tgt := 54) hx hb dX7_numbersOf_1 (by decide) (by rw [c1]; decide) (by decide) ?_
    refine lv_iconst (v := 2) hx hb dX7_numbersOf_54 (by decide) ?_
    obtain ⟨rfl, rfl⟩ := pp_some hf
    exact r_iret C hW dX7_numbersOf_55
  rw [if_neg c1] at hf
  by_cases c2 : x0 = 110
  · rw [if_pos c2] at hf
    refine lv_lookup (off := 51) (tgt := 52) hx hb dX7_numbersOf_1 (by decide) (by rw [c2]; decide) (by decide) ?_
    refine lv_iconst (v := 1) hx hb dX7_numbersOf_52 (by decide) ?_
    obtain ⟨rfl, rfl⟩ := pp_some hf
    exact r_iret C hW dX7_numbersOf_53
  rw [if_neg c2] at hf
  by_cases c3 : x0 = 116
  · rw [if_pos c3] at hf
    refine lv_lookup (off := 55) (tgt := 56) hx hb dX7_numbersOf_1 (by decide) (by rw [c3]; decide) (by decide) ?_
    refine lv_iconst (v := 1) hx hb dX7_numbersOf_56 (by decide) ?_
    obtain ⟨rfl, rfl⟩ := pp_some hf
    exact r_iret C hW dX7_numbersOf_57
  rw [if_neg c3] at hf
  by_cases c4 : x0 = 119
  · rw [if_pos c4] at hf
    refine lv_lookup (off := 57) (tgt := 58) hx hb dX7_numbersOf_1 (by decide) (by rw [c4]; decide) (by decide) ?_
    refine lv_iconst (v := 2) hx hb dX7_numbersOf_58 (by decide) ?_
    obtain ⟨rfl, rfl⟩ := pp_some hf
    exact r_iret C hW dX7_numbersOf_59
  rw [if_neg c4] at hf
  by_cases c5 : x0 = 122
  · rw [if_pos c5] at hf
    refine lv_lookup (off := 59) (tgt := 60) hx hb dX7_numbersOf_1 (by decide) (by rw [c5]; decide) (by decide) ?_
    refine lv_iconst (v := 0) hx hb dX7_numbersOf_60 (by decide) ?_
    obtain ⟨rfl, rfl⟩ := pp_some hf
    exact r_iret C hW dX7_numbersOf_61
  rw [if_neg c5] at hf
  refine lv_lookup (off := 61) (tgt := 62) hx hb dX7_numbersOf_1 (by decide) (by show Op.lookupswitch.offset [(43, 53), (110, 51), (116, 55), (119, 57), (122, 59)] 61 _ = _; rw [lv_osw c1 (by decide), lv_osw c2 (by decide), lv_osw c3 (by decide), lv_osw c4 (by decide), lv_osw c5 (by decide)]; rfl) (by decide) ?_
  refine lv_iconst (v := -1) hx hb dX7_numbersOf_62 (by decide) ?_
  obtain ⟨rfl, rfl⟩ := pp_some hf
  exact r_iret C hW dX7_numbersOf_63

theorem dX7_digitHere_0 : decode cX7_digitHere 0 = .ok (.aload_n 0, 1) := by decide +kernel
theorem dX7_digitHere_1 : decode cX7_digitHere 1 = .ok (.invokevirtual 42, 3) := by decide +kernel
theorem dX7_digitHere_4 : decode cX7_digitHere 4 = .ok (.bipush 48, 2) := by decide +kernel
theorem dX7_digitHere_6 : decode cX7_digitHere 6 = .ok (.bipush 57, 2) := by decide +kernel
theorem dX7_digitHere_8 : decode cX7_digitHere 8 = .ok (.invokestatic 60, 3) := by decide +kernel
theorem dX7_digitHere_11 : decode cX7_digitHere 11 = .ok (.ireturn, 1) := by decide +kernel
theorem kcX7_digitHere : Cond.code yX7_digitHere cX7_digitHere 1 (some .boolean) ∈ tb := tq q_635 rfl
theorem knX7_digitHere : Cond.initialized yX7_digitHere.cls ∈ tb := (tq q_8 rfl)
theorem kdX7_digitHere : yX7_digitHere.cls ≠ "java/lang/invoke/MethodHandle" ∧ yX7_digitHere.cls ≠ "java/lang/invoke/VarHandle" ∧ (parseMethodDescriptor yX7_digitHere.desc).map (fun d => d.parameters.length) = some 0 := ⟨by decide +kernel, by decide +kernel, by decide +kernel⟩
theorem kiX7_digitHere : Cond.instanceMethod yX7_digitHere ∈ tb := (tq q_634 rfl)
theorem ksX7_digitHere : Cond.selects yX7_digitHere.cls yX7_digitHere yX7_digitHere ∈ tb := (tq z_22 rfl)
theorem tgX7_digitHere {x0 : Nat} {h : PH} {r : Int32 × PH} (hf : (fX7_digitHere x0).1 h = some r) : ∃ n x, nth h x0 = some (6, n, x) := by
  obtain ⟨_, _, e, _⟩ := pb_some hf
  exact (chk_some e).2
set_option maxHeartbeats 4000000 in
set_option maxRecDepth 100000 in
theorem metX7_digitHere (l : Launch) (G : GG) (ρ : Nat → Nat) {z : Nat} {x0 : Nat} {h hE : PH} {v : Int32} (hf : (fX7_digitHere x0).1 h = some (v, hE)) : Met l yX7_digitHere (wsY yX7_digitHere cX7_digitHere 1 (some .boolean)) (RM 1 22 h hE) (va_Pc [.ref (ρ x0)] (PcB G ρ h z)) (QI G ρ v hE h.length z) (DC h hE) (DS h hE) (Af ρ h.length z) := by
  refine met_start (by decide) (Nat.le_of_ble_eq_true rfl) ?_
  intro p e s m below meth c ls hz C hW hl
  subst hz
  have C : Cx G "PairSymbols$Script" cX7_digitHere 1 (some .boolean) "digitHere" p s m _ meth c := C
  have hx := C.1
  have hb := C.2.1
  have hX : Ext hE hE := Ext.rf hE
  have hl : lv_has ls 1 [(0, .ref (ρ x0))] := hl
  have hW : Wd G ρ h.length (sl h) s.heap h s.heap [] 0 0 := hW
  unfold fX7_digitHere at hf
  obtain ⟨_, e0, hf⟩ := pb_rd (rd_chk _ _) hf
  refine lv_aload_n hx hb dX7_digitHere_0 rfl (lv_at hl 0 rfl) ?_
  obtain ⟨v1, h1, e1, hf⟩ := pb_some hf
  obtain ⟨_, _, t2⟩ := tgX7_byteHere e1
  refine r_calli hW (pext e1) (run_V (b := x0) (As := []) (rest := []) C hW (metX7_byteHere l G ρ e1) ⟨rfl, rfl⟩ kcX7_byteHere (tq q_617 rfl) kiX7_byteHere ksX7_byteHere knX7_byteHere kdX7_byteHere t2 rfl rfl ⟨Nat.le_of_ble_eq_true rfl, Nat.le_of_ble_eq_true rfl⟩ hl.1 (Nat.le_of_ble_eq_true rfl) (room_of hW (pext e1) ((pext hf).tr hX)) dX7_digitHere_1 rfl) (fun H locs c1 s1 hW => ?_)
  refine lv_bipush (v := 48) hx hb dX7_digitHere_4 (by decide) ?_
  refine lv_bipush (v := 57) hx hb dX7_digitHere_6 (by decide) ?_
  obtain ⟨v3, h3, e3, hf⟩ := pb_some hf
  refine r_calli hW (pext e3) (run_SN (As := [.int v1, .int (48 : Int32), .int (57 : Int32)]) (rest := []) C hW (metX9_within l G ρ e3) ⟨rfl, rfl⟩ kcX9_within (tq q_636 rfl) kiX9_within knX9_within kdX9_within ⟨Nat.le_of_ble_eq_true rfl, Nat.le_of_ble_eq_true rfl⟩ hl.1 (Nat.le_of_ble_eq_true rfl) (room_of hW (pext e3) ((pext hf).tr hX)) dX7_digitHere_8 rfl) (fun H locs c1 s1 hW => ?_)
  obtain ⟨hz, hf⟩ := pz_some hf
  obtain ⟨rfl, rfl⟩ := pp_some hf
  exact r_zret C hW (pz_nar hz) dX7_digitHere_11

theorem dX7_parseNumber_0 : decode cX7_parseNumber 0 = .ok (.aload_n 0, 1) := by decide +kernel
theorem dX7_parseNumber_1 : decode cX7_parseNumber 1 = .ok (.invokevirtual 35, 3) := by decide +kernel
theorem dX7_parseNumber_4 : decode cX7_parseNumber 4 = .ok (.iload_n 1, 1) := by decide +kernel
theorem dX7_parseNumber_5 : decode cX7_parseNumber 5 = .ok (.ifCond .eq 16, 3) := by decide +kernel
theorem dX7_parseNumber_8 : decode cX7_parseNumber 8 = .ok (.aload_n 0, 1) := by decide +kernel
theorem dX7_parseNumber_9 : decode cX7_parseNumber 9 = .ok (.invokevirtual 42, 3) := by decide +kernel
theorem dX7_parseNumber_12 : decode cX7_parseNumber 12 = .ok (.bipush 45, 2) := by decide +kernel
theorem dX7_parseNumber_14 : decode cX7_parseNumber 14 = .ok (.if_icmp .ne 7, 3) := by decide +kernel
theorem dX7_parseNumber_17 : decode cX7_parseNumber 17 = .ok (.iconst 1, 1) := by decide +kernel
theorem dX7_parseNumber_18 : decode cX7_parseNumber 18 = .ok (.goto 4, 3) := by decide +kernel
theorem dX7_parseNumber_21 : decode cX7_parseNumber 21 = .ok (.iconst 0, 1) := by decide +kernel
theorem dX7_parseNumber_22 : decode cX7_parseNumber 22 = .ok (.istore_n 2, 1) := by decide +kernel
theorem dX7_parseNumber_23 : decode cX7_parseNumber 23 = .ok (.iload_n 2, 1) := by decide +kernel
theorem dX7_parseNumber_24 : decode cX7_parseNumber 24 = .ok (.ifCond .eq 13, 3) := by decide +kernel
theorem dX7_parseNumber_27 : decode cX7_parseNumber 27 = .ok (.aload_n 0, 1) := by decide +kernel
theorem dX7_parseNumber_28 : decode cX7_parseNumber 28 = .ok (.dup, 1) := by decide +kernel
theorem dX7_parseNumber_29 : decode cX7_parseNumber 29 = .ok (.getfield 32, 3) := by decide +kernel
theorem dX7_parseNumber_32 : decode cX7_parseNumber 32 = .ok (.iconst 1, 1) := by decide +kernel
theorem dX7_parseNumber_33 : decode cX7_parseNumber 33 = .ok (.iadd, 1) := by decide +kernel
theorem dX7_parseNumber_34 : decode cX7_parseNumber 34 = .ok (.putfield 32, 3) := by decide +kernel
theorem dX7_parseNumber_37 : decode cX7_parseNumber 37 = .ok (.iconst 0, 1) := by decide +kernel
theorem dX7_parseNumber_38 : decode cX7_parseNumber 38 = .ok (.istore_n 3, 1) := by decide +kernel
theorem dX7_parseNumber_39 : decode cX7_parseNumber 39 = .ok (.iconst 0, 1) := by decide +kernel
theorem dX7_parseNumber_40 : decode cX7_parseNumber 40 = .ok (.istore 4, 2) := by decide +kernel
theorem dX7_parseNumber_42 : decode cX7_parseNumber 42 = .ok (.iload 4, 2) := by decide +kernel
theorem dX7_parseNumber_44 : decode cX7_parseNumber 44 = .ok (.iconst 3, 1) := by decide +kernel
theorem dX7_parseNumber_45 : decode cX7_parseNumber 45 = .ok (.if_icmp .ge 39, 3) := by decide +kernel
theorem dX7_parseNumber_48 : decode cX7_parseNumber 48 = .ok (.aload_n 0, 1) := by decide +kernel
theorem dX7_parseNumber_49 : decode cX7_parseNumber 49 = .ok (.invokevirtual 57, 3) := by decide +kernel
theorem dX7_parseNumber_52 : decode cX7_parseNumber 52 = .ok (.ifCond .eq 32, 3) := by decide +kernel
theorem dX7_parseNumber_55 : decode cX7_parseNumber 55 = .ok (.bipush 10, 2) := by decide +kernel
theorem dX7_parseNumber_57 : decode cX7_parseNumber 57 = .ok (.iload_n 3, 1) := by decide +kernel
theorem dX7_parseNumber_58 : decode cX7_parseNumber 58 = .ok (.imul, 1) := by decide +kernel
theorem dX7_parseNumber_59 : decode cX7_parseNumber 59 = .ok (.aload_n 0, 1) := by decide +kernel
theorem dX7_parseNumber_60 : decode cX7_parseNumber 60 = .ok (.invokevirtual 42, 3) := by decide +kernel
theorem dX7_parseNumber_63 : decode cX7_parseNumber 63 = .ok (.iadd, 1) := by decide +kernel
theorem dX7_parseNumber_64 : decode cX7_parseNumber 64 = .ok (.bipush 48, 2) := by decide +kernel
theorem dX7_parseNumber_66 : decode cX7_parseNumber 66 = .ok (.isub, 1) := by decide +kernel
theorem dX7_parseNumber_67 : decode cX7_parseNumber 67 = .ok (.istore_n 3, 1) := by decide +kernel
theorem dX7_parseNumber_68 : decode cX7_parseNumber 68 = .ok (.iinc 4 1, 3) := by decide +kernel
theorem dX7_parseNumber_71 : decode cX7_parseNumber 71 = .ok (.aload_n 0, 1) := by decide +kernel
theorem dX7_parseNumber_72 : decode cX7_parseNumber 72 = .ok (.dup, 1) := by decide +kernel
theorem dX7_parseNumber_73 : decode cX7_parseNumber 73 = .ok (.getfield 32, 3) := by decide +kernel
theorem dX7_parseNumber_76 : decode cX7_parseNumber 76 = .ok (.iconst 1, 1) := by decide +kernel
theorem dX7_parseNumber_77 : decode cX7_parseNumber 77 = .ok (.iadd, 1) := by decide +kernel
theorem dX7_parseNumber_78 : decode cX7_parseNumber 78 = .ok (.putfield 32, 3) := by decide +kernel
theorem dX7_parseNumber_81 : decode cX7_parseNumber 81 = .ok (.goto (-39), 3) := by decide +kernel
theorem dX7_parseNumber_84 : decode cX7_parseNumber 84 = .ok (.aload_n 0, 1) := by decide +kernel
theorem dX7_parseNumber_85 : decode cX7_parseNumber 85 = .ok (.iload_n 2, 1) := by decide +kernel
theorem dX7_parseNumber_86 : decode cX7_parseNumber 86 = .ok (.ifCond .eq 8, 3) := by decide +kernel
theorem dX7_parseNumber_89 : decode cX7_parseNumber 89 = .ok (.iload_n 3, 1) := by decide +kernel
theorem dX7_parseNumber_90 : decode cX7_parseNumber 90 = .ok (.ineg, 1) := by decide +kernel
theorem dX7_parseNumber_91 : decode cX7_parseNumber 91 = .ok (.goto 4, 3) := by decide +kernel
theorem dX7_parseNumber_94 : decode cX7_parseNumber 94 = .ok (.iload_n 3, 1) := by decide +kernel
theorem dX7_parseNumber_95 : decode cX7_parseNumber 95 = .ok (.putfield 54, 3) := by decide +kernel
theorem dX7_parseNumber_98 : decode cX7_parseNumber 98 = .ok (.iload 4, 2) := by decide +kernel
theorem dX7_parseNumber_100 : decode cX7_parseNumber 100 = .ok (.ifCond .le 14, 3) := by decide +kernel
theorem dX7_parseNumber_103 : decode cX7_parseNumber 103 = .ok (.aload_n 0, 1) := by decide +kernel
theorem dX7_parseNumber_104 : decode cX7_parseNumber 104 = .ok (.invokevirtual 57, 3) := by decide +kernel
theorem dX7_parseNumber_107 : decode cX7_parseNumber 107 = .ok (.ifCond .ne 7, 3) := by decide +kernel
theorem dX7_parseNumber_110 : decode cX7_parseNumber 110 = .ok (.iconst 1, 1) := by decide +kernel
theorem dX7_parseNumber_111 : decode cX7_parseNumber 111 = .ok (.goto 4, 3) := by decide +kernel
theorem dX7_parseNumber_114 : decode cX7_parseNumber 114 = .ok (.iconst 0, 1) := by decide +kernel
theorem dX7_parseNumber_115 : decode cX7_parseNumber 115 = .ok (.ireturn, 1) := by decide +kernel
theorem kcX7_parseNumber : Cond.code yX7_parseNumber cX7_parseNumber 5 (some .boolean) ∈ tb := tq q_631 rfl
theorem knX7_parseNumber : Cond.initialized yX7_parseNumber.cls ∈ tb := (tq q_8 rfl)
theorem kdX7_parseNumber : yX7_parseNumber.cls ≠ "java/lang/invoke/MethodHandle" ∧ yX7_parseNumber.cls ≠ "java/lang/invoke/VarHandle" ∧ (parseMethodDescriptor yX7_parseNumber.desc).map (fun d => d.parameters.length) = some 1 := ⟨by decide +kernel, by decide +kernel, by decide +kernel⟩
theorem kiX7_parseNumber : Cond.instanceMethod yX7_parseNumber ∈ tb := (tq q_630 rfl)
theorem ksX7_parseNumber : Cond.selects yX7_parseNumber.cls yX7_parseNumber yX7_parseNumber ∈ tb := (tq z_21 rfl)
theorem tgX7_parseNumber {x0 : Nat} {x1 : Int32} {h : PH} {r : Int32 × PH} (hf : (fX7_parseNumber x0 x1).1 h = some r) : ∃ n x, nth h x0 = some (6, n, x) := by
  obtain ⟨_, _, e, _⟩ := pb_some hf
  exact (chk_some e).2
set_option maxHeartbeats 4000000 in
set_option maxRecDepth 100000 in
theorem wX7_parseNumber_B42 {p : Program} {l : Launch} {e : Env} {s : State} {m : MethodId} {args : Array Value} {below : List Frame} {meth : Method} {c : Code} {G : GG} {ρ : Nat → Nat} {h0 hE hB : PH} {Q : State → Prop} {x0 : Nat} {x2 : Int32} (C : Cx G "PairSymbols$Script" cX7_parseNumber 5 (some .boolean) "parseNumbe\x72" p s m args meth c) {x3 : Int32} {x4 : Int32} {h : PH} {H : Heap} {locs : List Loc} {cells slots : Nat} {ls : Array Slot} {r : (Int32 × Int32) ⊕ (Int32 × Int32)} (hf : (fX7_parseNumber_b42 x0 x2 x3 x4).1 h = some (r, hB)) (hX : Ext hB hE) (hW : Wd G ρ h0.length (sl h0) s.heap h H locs cells slots) (hl : lv_has ls 5 [(0, .ref (ρ x0)), (2, .int x2), (3, .int x3), (4, .int x4)]) (kc : ∀ y : Int32 × Int32, r = .inl y → ∀ (H : Heap) (locs : List Loc) (c1 s1 : Nat) (ls : Array Slot), Wd G ρ h0.length (sl h0) s.heap hB H locs c1 s1 → lv_has ls 5 [(0, .ref (ρ x0)), (2, .int x2), (3, .int y.1), (4, .int y.2)] → W p l e (RM 2 42 h0 hE) s m args below meth c H locs c1 s1 Q (F0 m 42 ls [])) (ke : ∀ z : Int32 × Int32, r = .inr z → ∀ (H : Heap) (locs : List Loc) (c1 s1 : Nat) (ls : Array Slot), Wd G ρ h0.length (sl h0) s.heap hB H locs c1 s1 → lv_has ls 5 [(0, .ref (ρ x0)), (2, .int x2), (3, .int z.1), (4, .int z.2)] → W p l e (RM 2 42 h0 hE) s m args below meth c H locs c1 s1 Q (F0 m 84 ls [])) : W p l e (RM 2 42 h0 hE) s m args below meth c H locs cells slots Q (F0 m 42 ls []) := by
  have hx := C.1
  have hb := C.2.1
  unfold fX7_parseNumber_b42 at hf
  refine lv_iload hx hb dX7_parseNumber_42 (lv_at hl 3 rfl) ?_
  refine lv_iconst (v := 3) hx hb dX7_parseNumber_44 (by decide) ?_
  refine lv_icmp_ge (tgt := 84) hx hb dX7_parseNumber_45 (by decide) (fun c5 => ?_) (fun c5 => ?_)
  · rw [if_pos c5] at hf
    obtain ⟨rfl, rfl⟩ := pp_some hf
    exact ke _ rfl _ _ _ _ _ hW (lv_sub hl [0, 1, 2, 3] rfl)
  · rw [if_neg c5] at hf
    refine lv_aload_n hx hb dX7_parseNumber_48 rfl (lv_at hl 0 rfl) ?_
    obtain ⟨v6, h6, e6, hf⟩ := pb_some hf
    obtain ⟨_, _, t7⟩ := tgX7_digitHere e6
    refine r_calli hW (pext e6) (run_V (b := x0) (As := []) (rest := []) C hW (metX7_digitHere l G ρ e6) ⟨rfl, rfl⟩ kcX7_digitHere (tq q_632 rfl) kiX7_digitHere ksX7_digitHere knX7_digitHere kdX7_digitHere t7 rfl rfl ⟨Nat.le_of_ble_eq_true rfl, Nat.le_of_ble_eq_true rfl⟩ hl.1 (Nat.le_of_ble_eq_true rfl) (room_of hW (pext e6) ((pext hf).tr hX)) dX7_parseNumber_49 rfl) (fun H locs c1 s1 hW => ?_)
    refine lv_if_eq (tgt := 84) hx hb dX7_parseNumber_52 (by decide) (fun c8 => ?_) (fun c8 => ?_)
    · rw [if_pos c8] at hf
      obtain ⟨rfl, rfl⟩ := pp_some hf
      exact ke _ rfl _ _ _ _ _ hW (lv_sub hl [0, 1, 2, 3] rfl)
    · rw [if_neg c8] at hf
      refine lv_bipush (v := 10) hx hb dX7_parseNumber_55 (by decide) ?_
      refine lv_iload_n hx hb dX7_parseNumber_57 rfl (lv_at hl 2 rfl) ?_
      refine lv_imul hx hb dX7_parseNumber_58 ?_
      refine lv_aload_n hx hb dX7_parseNumber_59 rfl (lv_at hl 0 rfl) ?_
      obtain ⟨v9, h9, e9, hf⟩ := pb_some hf
      obtain ⟨_, _, t10⟩ := tgX7_byteHere e9
      refine r_calli hW (pext e9) (run_V (b := x0) (As := []) (rest := [.int ((10 : Int32) * x3)]) C hW (metX7_byteHere l G ρ e9) ⟨rfl, rfl⟩ kcX7_byteHere (tq q_617 rfl) kiX7_byteHere ksX7_byteHere knX7_byteHere kdX7_byteHere t10 rfl rfl ⟨Nat.le_of_ble_eq_true rfl, Nat.le_of_ble_eq_true rfl⟩ hl.1 (Nat.le_of_ble_eq_true rfl) (room_of hW (pext e9) ((pext hf).tr hX)) dX7_parseNumber_60 rfl) (fun H locs c1 s1 hW => ?_)
      refine lv_iadd hx hb dX7_parseNumber_63 ?_
      refine lv_bipush (v := 48) hx hb dX7_parseNumber_64 (by decide) ?_
      refine lv_isub hx hb dX7_parseNumber_66 ?_
      refine lv_istore_n (lv' := [(3, .int ((((10 : Int32) * x3) + v9) - (48 : Int32))), (0, .ref (ρ x0)), (2, .int x2), (4, .int x4)]) hx hb dX7_parseNumber_67 rfl hl (by decide) rfl (fun ls hl => ?_)
      refine lv_iinc (v := (x4 + 1)) (lv' := [(4, .int (x4 + 1)), (3, .int ((((10 : Int32) * x3) + v9) - (48 : Int32))), (0, .ref (ρ x0)), (2, .int x2)]) hx hb dX7_parseNumber_68 hl (k := 3) rfl rfl (by decide) rfl (fun ls hl => ?_)
      refine lv_aload_n hx hb dX7_parseNumber_71 rfl (lv_at hl 2 rfl) ?_
      refine lv_dup hx hb dX7_parseNumber_72 rfl ?_
      obtain ⟨v11, e11, hf⟩ := pb_rd (rd_gI _ _ _) hf
      refine r_gI C hW e11 flX7_32 rfl dX7_parseNumber_73 ?_
      refine lv_iconst (v := 1) hx hb dX7_parseNumber_76 (by decide) ?_
      refine lv_iadd hx hb dX7_parseNumber_77 ?_
      obtain ⟨_, h12, e12, hf⟩ := pb_some hf
      refine r_sI C hW e12 flX7_32 (Or.inl rfl) rfl dX7_parseNumber_78 (fun H locs hW => ?_)
      refine lv_goto (tgt := 42) hx hb dX7_parseNumber_81 (by decide) ?_
      obtain ⟨rfl, rfl⟩ := pp_some hf
      exact kc _ rfl _ _ _ _ _ hW (lv_sub hl [2, 3, 1, 0] rfl)
set_option maxHeartbeats 4000000 in
theorem wX7_parseNumber_L42 {p : Program} {l : Launch} {e : Env} {s : State} {m : MethodId} {args : Array Value} {below : List Frame} {meth : Method} {c : Code} {G : GG} {ρ : Nat → Nat} {h0 hE hB : PH} {Q : State → Prop} {x0 : Nat} {x2 : Int32} (C : Cx G "PairSymbols$Script" cX7_parseNumber 5 (some .boolean) "parseNumbe\x72" p s m args meth c) {z : (Int32 × Int32)} (n : Nat) : ∀ (x : Int32 × Int32) {h : PH} {H : Heap} {locs : List Loc} {cells slots : Nat} {ls : Array Slot}, (plo (fX7_parseNumber_B42 x0 x2) n x).1 h = some (z, hB) → Ext hB hE → Wd G ρ h0.length (sl h0) s.heap h H locs cells slots → lv_has ls 5 [(0, .ref (ρ x0)), (2, .int x2), (3, .int x.1), (4, .int x.2)] → (ke : ∀ (H : Heap) (locs : List Loc) (c1 s1 : Nat) (ls : Array Slot), Wd G ρ h0.length (sl h0) s.heap hB H locs c1 s1 → lv_has ls 5 [(0, .ref (ρ x0)), (2, .int x2), (3, .int z.1), (4, .int z.2)] → W p l e (RM 2 42 h0 hE) s m args below meth c H locs c1 s1 Q (F0 m 84 ls [])) → W p l e (RM 2 42 h0 hE) s m args below meth c H locs cells slots Q (F0 m 42 ls []) := by
  induction n with
  | zero =>
    intro x h H locs cells slots ls hf
    rw [plo_0] at hf
    exact (pf_no hf).elim
  | succ n ih =>
    intro x h H locs cells slots ls hf hX hW hl ke
    rw [plo_s] at hf
    obtain ⟨r, h1, e1, hf⟩ := pb_some hf
    unfold fX7_parseNumber_B42 at e1
    rw [frI_eq, frI_eq] at e1
    refine wX7_parseNumber_B42 C e1 ((pext hf).tr hX) hW hl (fun y hr H locs c1 s1 ls hW hl => ?_) (fun y hr H locs c1 s1 ls hW hl => ?_)
    · subst hr
      exact ih y hf hX hW hl ke
    · subst hr
      obtain ⟨rfl, rfl⟩ := pp_some hf
      exact ke H locs c1 s1 ls hW hl
set_option maxHeartbeats 4000000 in
set_option maxRecDepth 100000 in
theorem metX7_parseNumber (l : Launch) (G : GG) (ρ : Nat → Nat) {z : Nat} {x0 : Nat} {x1 : Int32} {h hE : PH} {v : Int32} (hf : (fX7_parseNumber x0 x1).1 h = some (v, hE)) : Met l yX7_parseNumber (wsY yX7_parseNumber cX7_parseNumber 5 (some .boolean)) (RM 2 42 h hE) (va_Pc [.ref (ρ x0), .int x1] (PcB G ρ h z)) (QI G ρ v hE h.length z) (DC h hE) (DS h hE) (Af ρ h.length z) := by
  refine met_start (by decide) (Nat.le_of_ble_eq_true rfl) ?_
  intro p e s m below meth c ls hz C hW hl
  subst hz
  have C : Cx G "PairSymbols$Script" cX7_parseNumber 5 (some .boolean) "parseNumbe\x72" p s m _ meth c := C
  have hx := C.1
  have hb := C.2.1
  have hX : Ext hE hE := Ext.rf hE
  have hl : lv_has ls 5 [(0, .ref (ρ x0)), (1, .int x1)] := hl
  have hW : Wd G ρ h.length (sl h) s.heap h s.heap [] 0 0 := hW
  unfold fX7_parseNumber at hf
  obtain ⟨_, e0, hf⟩ := pb_rd (rd_chk _ _) hf
  refine lv_aload_n hx hb dX7_parseNumber_0 rfl (lv_at hl 0 rfl) ?_
  obtain ⟨_, h1, e1, hf⟩ := pb_some hf
  obtain ⟨_, _, t2⟩ := tgX7_skipBlanks e1
  refine r_callv hW (pext e1) (run_V (b := x0) (As := []) (rest := []) C hW (metX7_skipBlanks l G ρ e1) ⟨rfl, rfl⟩ kcX7_skipBlanks (tq q_613 rfl) kiX7_skipBlanks ksX7_skipBlanks knX7_skipBlanks kdX7_skipBlanks t2 rfl rfl ⟨Nat.le_of_ble_eq_true rfl, Nat.le_of_ble_eq_true rfl⟩ hl.1 (Nat.le_of_ble_eq_true rfl) (room_of hW (pext e1) ((pext hf).tr hX)) dX7_parseNumber_1 rfl) (fun H locs c1 s1 hW => ?_)
  refine lv_iload_n hx hb dX7_parseNumber_4 rfl (lv_at hl 1 rfl) ?_
  refine lv_if_eq (tgt := 21) hx hb dX7_parseNumber_5 (by decide) (fun c3 => ?_) (fun c3 => ?_)
  · rw [if_pos c3] at hf
    refine lv_iconst (v := 0) hx hb dX7_parseNumber_21 (by decide) ?_
    refine lv_istore_n (lv' := [(2, .int (0 : Int32)), (0, .ref (ρ x0)), (1, .int x1)]) hx hb dX7_parseNumber_22 rfl hl (by decide) rfl (fun ls hl => ?_)
    refine lv_iload_n hx hb dX7_parseNumber_23 rfl (lv_at hl 0 rfl) ?_
    refine lv_if_eq (tgt := 37) hx hb dX7_parseNumber_24 (by decide) (fun _ => ?_) (fun q => absurd q (by decide))
    refine lv_iconst (v := 0) hx hb dX7_parseNumber_37 (by decide) ?_
    refine lv_istore_n (lv' := [(3, .int (0 : Int32)), (2, .int (0 : Int32)), (0, .ref (ρ x0)), (1, .int x1)]) hx hb dX7_parseNumber_38 rfl hl (by decide) rfl (fun ls hl => ?_)
    refine lv_iconst (v := 0) hx hb dX7_parseNumber_39 (by decide) ?_
    refine lv_istore (lv' := [(4, .int (0 : Int32)), (3, .int (0 : Int32)), (2, .int (0 : Int32)), (0, .ref (ρ x0)), (1, .int x1)]) hx hb dX7_parseNumber_40 hl (by decide) rfl (fun ls hl => ?_)
    obtain ⟨z13, h13, e13, hf⟩ := pb_some hf
    refine wX7_parseNumber_L42 C fu _ e13 ((pext hf).tr hX) hW (lv_sub hl [3, 2, 1, 0] rfl) (fun H locs c1 s1 ls hW hl => ?_)
    refine lv_aload_n hx hb dX7_parseNumber_84 rfl (lv_at hl 0 rfl) ?_
    refine lv_iload_n hx hb dX7_parseNumber_85 rfl (lv_at hl 1 rfl) ?_
    refine lv_if_eq (tgt := 94) hx hb dX7_parseNumber_86 (by decide) (fun _ => ?_) (fun q => absurd q (by decide))
    refine lv_iload_n hx hb dX7_parseNumber_94 rfl (lv_at hl 2 rfl) ?_
    obtain ⟨_, h15, e15, hf⟩ := pb_some hf
    refine r_sI C hW e15 flX7_54 (Or.inl rfl) rfl dX7_parseNumber_95 (fun H locs hW => ?_)
    refine lv_iload hx hb dX7_parseNumber_98 (lv_at hl 3 rfl) ?_
    refine lv_if_le (tgt := 114) hx hb dX7_parseNumber_100 (by decide) (fun c16 => ?_) (fun c16 => ?_)
    · rw [if_pos c16] at hf
      refine lv_iconst (v := 0) hx hb dX7_parseNumber_114 (by decide) ?_
      obtain ⟨rfl, rfl⟩ := pp_some hf
      exact r_zret C hW rfl dX7_parseNumber_115
    · rw [if_neg c16] at hf
      refine lv_aload_n hx hb dX7_parseNumber_103 rfl (lv_at hl 0 rfl) ?_
      obtain ⟨v17, h17, e17, hf⟩ := pb_some hf
      obtain ⟨_, _, t18⟩ := tgX7_digitHere e17
      refine r_calli hW (pext e17) (run_V (b := x0) (As := []) (rest := []) C hW (metX7_digitHere l G ρ e17) ⟨rfl, rfl⟩ kcX7_digitHere (tq q_632 rfl) kiX7_digitHere ksX7_digitHere knX7_digitHere kdX7_digitHere t18 rfl rfl ⟨Nat.le_of_ble_eq_true rfl, Nat.le_of_ble_eq_true rfl⟩ hl.1 (Nat.le_of_ble_eq_true rfl) (room_of hW (pext e17) ((pext hf).tr hX)) dX7_parseNumber_104 rfl) (fun H locs c1 s1 hW => ?_)
      refine lv_if_ne (tgt := 114) hx hb dX7_parseNumber_107 (by decide) (fun c19 => ?_) (fun c19 => ?_)
      · rw [if_neg c19] at hf
        refine lv_iconst (v := 0) hx hb dX7_parseNumber_114 (by decide) ?_
        obtain ⟨rfl, rfl⟩ := pp_some hf
        exact r_zret C hW rfl dX7_parseNumber_115
      · rw [if_pos c19] at hf
        refine lv_iconst (v := 1) hx hb dX7_parseNumber_110 (by decide) ?_
        refine lv_goto (tgt := 115) hx hb dX7_parseNumber_111 (by decide) ?_
        obtain ⟨rfl, rfl⟩ := pp_some hf
        exact r_zret C hW rfl dX7_parseNumber_115
  · rw [if_neg c3] at hf
    refine lv_aload_n hx hb dX7_parseNumber_8 rfl (lv_at hl 0 rfl) ?_
    obtain ⟨v20, h20, e20, hf⟩ := pb_some hf
    obtain ⟨_, _, t21⟩ := tgX7_byteHere e20
    refine r_calli hW (pext e20) (run_V (b := x0) (As := []) (rest := []) C hW (metX7_byteHere l G ρ e20) ⟨rfl, rfl⟩ kcX7_byteHere (tq q_617 rfl) kiX7_byteHere ksX7_byteHere knX7_byteHere kdX7_byteHere t21 rfl rfl ⟨Nat.le_of_ble_eq_true rfl, Nat.le_of_ble_eq_true rfl⟩ hl.1 (Nat.le_of_ble_eq_true rfl) (room_of hW (pext e20) ((pext hf).tr hX)) dX7_parseNumber_9 rfl) (fun H locs c1 s1 hW => ?_)
    refine lv_bipush (v := 45) hx hb dX7_parseNumber_12 (by decide) ?_
    refine lv_icmp_ne (tgt := 21) hx hb dX7_parseNumber_14 (by decide) (fun c22 => ?_) (fun c22 => ?_)
    · rw [if_neg c22] at hf
      refine lv_iconst (v := 0) hx hb dX7_parseNumber_21 (by decide) ?_
      refine lv_istore_n (lv' := [(2, .int (0 : Int32)), (0, .ref (ρ x0)), (1, .int x1)]) hx hb dX7_parseNumber_22 rfl hl (by decide) rfl (fun ls hl => ?_)
      refine lv_iload_n hx hb dX7_parseNumber_23 rfl (lv_at hl 0 rfl) ?_
      refine lv_if_eq (tgt := 37) hx hb dX7_parseNumber_24 (by decide) (fun _ => ?_) (fun q => absurd q (by decide))
      refine lv_iconst (v := 0) hx hb dX7_parseNumber_37 (by decide) ?_
      refine lv_istore_n (lv' := [(3, .int (0 : Int32)), (2, .int (0 : Int32)), (0, .ref (ρ x0)), (1, .int x1)]) hx hb dX7_parseNumber_38 rfl hl (by decide) rfl (fun ls hl => ?_)
      refine lv_iconst (v := 0) hx hb dX7_parseNumber_39 (by decide) ?_
      refine lv_istore (lv' := [(4, .int (0 : Int32)), (3, .int (0 : Int32)), (2, .int (0 : Int32)), (0, .ref (ρ x0)), (1, .int x1)]) hx hb dX7_parseNumber_40 hl (by decide) rfl (fun ls hl => ?_)
      obtain ⟨z24, h24, e24, hf⟩ := pb_some hf
      refine wX7_parseNumber_L42 C fu _ e24 ((pext hf).tr hX) hW (lv_sub hl [3, 2, 1, 0] rfl) (fun H locs c1 s1 ls hW hl => ?_)
      refine lv_aload_n hx hb dX7_parseNumber_84 rfl (lv_at hl 0 rfl) ?_
      refine lv_iload_n hx hb dX7_parseNumber_85 rfl (lv_at hl 1 rfl) ?_
      refine lv_if_eq (tgt := 94) hx hb dX7_parseNumber_86 (by decide) (fun _ => ?_) (fun q => absurd q (by decide))
      refine lv_iload_n hx hb dX7_parseNumber_94 rfl (lv_at hl 2 rfl) ?_
      obtain ⟨_, h26, e26, hf⟩ := pb_some hf
      refine r_sI C hW e26 flX7_54 (Or.inl rfl) rfl dX7_parseNumber_95 (fun H locs hW => ?_)
      refine lv_iload hx hb dX7_parseNumber_98 (lv_at hl 3 rfl) ?_
      refine lv_if_le (tgt := 114) hx hb dX7_parseNumber_100 (by decide) (fun c27 => ?_) (fun c27 => ?_)
      · rw [if_pos c27] at hf
        refine lv_iconst (v := 0) hx hb dX7_parseNumber_114 (by decide) ?_
        obtain ⟨rfl, rfl⟩ := pp_some hf
        exact r_zret C hW rfl dX7_parseNumber_115
      · rw [if_neg c27] at hf
        refine lv_aload_n hx hb dX7_parseNumber_103 rfl (lv_at hl 0 rfl) ?_
        obtain ⟨v28, h28, e28, hf⟩ := pb_some hf
        obtain ⟨_, _, t29⟩ := tgX7_digitHere e28
        refine r_calli hW (pext e28) (run_V (b := x0) (As := []) (rest := []) C hW (metX7_digitHere l G ρ e28) ⟨rfl, rfl⟩ kcX7_digitHere (tq q_632 rfl) kiX7_digitHere ksX7_digitHere knX7_digitHere kdX7_digitHere t29 rfl rfl ⟨Nat.le_of_ble_eq_true rfl, Nat.le_of_ble_eq_true rfl⟩ hl.1 (Nat.le_of_ble_eq_true rfl) (room_of hW (pext e28) ((pext hf).tr hX)) dX7_parseNumber_104 rfl) (fun H locs c1 s1 hW => ?_)
        refine lv_if_ne (tgt := 114) hx hb dX7_parseNumber_107 (by decide) (fun c30 => ?_) (fun c30 => ?_)
        · rw [if_neg c30] at hf
          refine lv_iconst (v := 0) hx hb dX7_parseNumber_114 (by decide) ?_
          obtain ⟨rfl, rfl⟩ := pp_some hf
          exact r_zret C hW rfl dX7_parseNumber_115
        · rw [if_pos c30] at hf
          refine lv_iconst (v := 1) hx hb dX7_parseNumber_110 (by decide) ?_
          refine lv_goto (tgt := 115) hx hb dX7_parseNumber_111 (by decide) ?_
          obtain ⟨rfl, rfl⟩ := pp_some hf
          exact r_zret C hW rfl dX7_parseNumber_115
    · rw [if_pos c22] at hf
      refine lv_iconst (v := 1) hx hb dX7_parseNumber_17 (by decide) ?_
      refine lv_goto (tgt := 22) hx hb dX7_parseNumber_18 (by decide) ?_
      refine lv_istore_n (lv' := [(2, .int (1 : Int32)), (0, .ref (ρ x0)), (1, .int x1)]) hx hb dX7_parseNumber_22 rfl hl (by decide) rfl (fun ls hl => ?_)
      refine lv_iload_n hx hb dX7_parseNumber_23 rfl (lv_at hl 0 rfl) ?_
      refine lv_if_eq (tgt := 37) hx hb dX7_parseNumber_24 (by decide) (fun q => absurd q (by decide)) (fun _ => ?_)
      refine lv_aload_n hx hb dX7_parseNumber_27 rfl (lv_at hl 1 rfl) ?_
      refine lv_dup hx hb dX7_parseNumber_28 rfl ?_
      obtain ⟨v32, e32, hf⟩ := pb_rd (rd_gI _ _ _) hf
      refine r_gI C hW e32 flX7_32 rfl dX7_parseNumber_29 ?_
      refine lv_iconst (v := 1) hx hb dX7_parseNumber_32 (by decide) ?_
      refine lv_iadd hx hb dX7_parseNumber_33 ?_
      obtain ⟨_, h33, e33, hf⟩ := pb_some hf
      refine r_sI C hW e33 flX7_32 (Or.inl rfl) rfl dX7_parseNumber_34 (fun H locs hW => ?_)
      refine lv_iconst (v := 0) hx hb dX7_parseNumber_37 (by decide) ?_
      refine lv_istore_n (lv' := [(3, .int (0 : Int32)), (2, .int (1 : Int32)), (0, .ref (ρ x0)), (1, .int x1)]) hx hb dX7_parseNumber_38 rfl hl (by decide) rfl (fun ls hl => ?_)
      refine lv_iconst (v := 0) hx hb dX7_parseNumber_39 (by decide) ?_
      refine lv_istore (lv' := [(4, .int (0 : Int32)), (3, .int (0 : Int32)), (2, .int (1 : Int32)), (0, .ref (ρ x0)), (1, .int x1)]) hx hb dX7_parseNumber_40 hl (by decide) rfl (fun ls hl => ?_)
      obtain ⟨z34, h34, e34, hf⟩ := pb_some hf
      refine wX7_parseNumber_L42 C fu _ e34 ((pext hf).tr hX) hW (lv_sub hl [3, 2, 1, 0] rfl) (fun H locs c1 s1 ls hW hl => ?_)
      refine lv_aload_n hx hb dX7_parseNumber_84 rfl (lv_at hl 0 rfl) ?_
      refine lv_iload_n hx hb dX7_parseNumber_85 rfl (lv_at hl 1 rfl) ?_
      refine lv_if_eq (tgt := 94) hx hb dX7_parseNumber_86 (by decide) (fun q => absurd q (by decide)) (fun _ => ?_)
      refine lv_iload_n hx hb dX7_parseNumber_89 rfl (lv_at hl 2 rfl) ?_
      refine lv_ineg hx hb dX7_parseNumber_90 ?_
      refine lv_goto (tgt := 95) hx hb dX7_parseNumber_91 (by decide) ?_
      obtain ⟨_, h36, e36, hf⟩ := pb_some hf
      refine r_sI C hW e36 flX7_54 (Or.inl rfl) rfl dX7_parseNumber_95 (fun H locs hW => ?_)
      refine lv_iload hx hb dX7_parseNumber_98 (lv_at hl 3 rfl) ?_
      refine lv_if_le (tgt := 114) hx hb dX7_parseNumber_100 (by decide) (fun c37 => ?_) (fun c37 => ?_)
      · rw [if_pos c37] at hf
        refine lv_iconst (v := 0) hx hb dX7_parseNumber_114 (by decide) ?_
        obtain ⟨rfl, rfl⟩ := pp_some hf
        exact r_zret C hW rfl dX7_parseNumber_115
      · rw [if_neg c37] at hf
        refine lv_aload_n hx hb dX7_parseNumber_103 rfl (lv_at hl 0 rfl) ?_
        obtain ⟨v38, h38, e38, hf⟩ := pb_some hf
        obtain ⟨_, _, t39⟩ := tgX7_digitHere e38
        refine r_calli hW (pext e38) (run_V (b := x0) (As := []) (rest := []) C hW (metX7_digitHere l G ρ e38) ⟨rfl, rfl⟩ kcX7_digitHere (tq q_632 rfl) kiX7_digitHere ksX7_digitHere knX7_digitHere kdX7_digitHere t39 rfl rfl ⟨Nat.le_of_ble_eq_true rfl, Nat.le_of_ble_eq_true rfl⟩ hl.1 (Nat.le_of_ble_eq_true rfl) (room_of hW (pext e38) ((pext hf).tr hX)) dX7_parseNumber_104 rfl) (fun H locs c1 s1 hW => ?_)
        refine lv_if_ne (tgt := 114) hx hb dX7_parseNumber_107 (by decide) (fun c40 => ?_) (fun c40 => ?_)
        · rw [if_neg c40] at hf
          refine lv_iconst (v := 0) hx hb dX7_parseNumber_114 (by decide) ?_
          obtain ⟨rfl, rfl⟩ := pp_some hf
          exact r_zret C hW rfl dX7_parseNumber_115
        · rw [if_pos c40] at hf
          refine lv_iconst (v := 1) hx hb dX7_parseNumber_110 (by decide) ?_
          refine lv_goto (tgt := 115) hx hb dX7_parseNumber_111 (by decide) ?_
          obtain ⟨rfl, rfl⟩ := pp_some hf
          exact r_zret C hW rfl dX7_parseNumber_115

theorem dX7_parseCommand_0 : decode cX7_parseCommand 0 = .ok (.aload_n 0, 1) := by decide +kernel
theorem dX7_parseCommand_1 : decode cX7_parseCommand 1 = .ok (.invokevirtual 42, 3) := by decide +kernel
theorem dX7_parseCommand_4 : decode cX7_parseCommand 4 = .ok (.istore_n 1, 1) := by decide +kernel
theorem dX7_parseCommand_5 : decode cX7_parseCommand 5 = .ok (.iload_n 1, 1) := by decide +kernel
theorem dX7_parseCommand_6 : decode cX7_parseCommand 6 = .ok (.invokestatic 46, 3) := by decide +kernel
theorem dX7_parseCommand_9 : decode cX7_parseCommand 9 = .ok (.istore_n 2, 1) := by decide +kernel
theorem dX7_parseCommand_10 : decode cX7_parseCommand 10 = .ok (.iload_n 2, 1) := by decide +kernel
theorem dX7_parseCommand_11 : decode cX7_parseCommand 11 = .ok (.iconst (-1), 1) := by decide +kernel
theorem dX7_parseCommand_12 : decode cX7_parseCommand 12 = .ok (.if_icmp .eq 12, 3) := by decide +kernel
theorem dX7_parseCommand_15 : decode cX7_parseCommand 15 = .ok (.aload_n 0, 1) := by decide +kernel
theorem dX7_parseCommand_16 : decode cX7_parseCommand 16 = .ok (.getfield 29, 3) := by decide +kernel
theorem dX7_parseCommand_19 : decode cX7_parseCommand 19 = .ok (.bipush 60, 2) := by decide +kernel
theorem dX7_parseCommand_21 : decode cX7_parseCommand 21 = .ok (.if_icmp .lt 5, 3) := by decide +kernel
theorem dX7_parseCommand_24 : decode cX7_parseCommand 24 = .ok (.iconst 0, 1) := by decide +kernel
theorem dX7_parseCommand_25 : decode cX7_parseCommand 25 = .ok (.ireturn, 1) := by decide +kernel
theorem dX7_parseCommand_26 : decode cX7_parseCommand 26 = .ok (.aload_n 0, 1) := by decide +kernel
theorem dX7_parseCommand_27 : decode cX7_parseCommand 27 = .ok (.dup, 1) := by decide +kernel
theorem dX7_parseCommand_28 : decode cX7_parseCommand 28 = .ok (.getfield 32, 3) := by decide +kernel
theorem dX7_parseCommand_31 : decode cX7_parseCommand 31 = .ok (.iconst 1, 1) := by decide +kernel
theorem dX7_parseCommand_32 : decode cX7_parseCommand 32 = .ok (.iadd, 1) := by decide +kernel
theorem dX7_parseCommand_33 : decode cX7_parseCommand 33 = .ok (.putfield 32, 3) := by decide +kernel
theorem dX7_parseCommand_36 : decode cX7_parseCommand 36 = .ok (.aload_n 0, 1) := by decide +kernel
theorem dX7_parseCommand_37 : decode cX7_parseCommand 37 = .ok (.getfield 15, 3) := by decide +kernel
theorem dX7_parseCommand_40 : decode cX7_parseCommand 40 = .ok (.aload_n 0, 1) := by decide +kernel
theorem dX7_parseCommand_41 : decode cX7_parseCommand 41 = .ok (.getfield 29, 3) := by decide +kernel
theorem dX7_parseCommand_44 : decode cX7_parseCommand 44 = .ok (.iload_n 1, 1) := by decide +kernel
theorem dX7_parseCommand_45 : decode cX7_parseCommand 45 = .ok (.iastore, 1) := by decide +kernel
theorem dX7_parseCommand_46 : decode cX7_parseCommand 46 = .ok (.iload_n 2, 1) := by decide +kernel
theorem dX7_parseCommand_47 : decode cX7_parseCommand 47 = .ok (.ifCond .le 36, 3) := by decide +kernel
theorem dX7_parseCommand_50 : decode cX7_parseCommand 50 = .ok (.aload_n 0, 1) := by decide +kernel
theorem dX7_parseCommand_51 : decode cX7_parseCommand 51 = .ok (.iload_n 1, 1) := by decide +kernel
theorem dX7_parseCommand_52 : decode cX7_parseCommand 52 = .ok (.bipush 43, 2) := by decide +kernel
theorem dX7_parseCommand_54 : decode cX7_parseCommand 54 = .ok (.if_icmp .ne 7, 3) := by decide +kernel
theorem dX7_parseCommand_57 : decode cX7_parseCommand 57 = .ok (.iconst 1, 1) := by decide +kernel
theorem dX7_parseCommand_58 : decode cX7_parseCommand 58 = .ok (.goto 4, 3) := by decide +kernel
theorem dX7_parseCommand_61 : decode cX7_parseCommand 61 = .ok (.iconst 0, 1) := by decide +kernel
theorem dX7_parseCommand_62 : decode cX7_parseCommand 62 = .ok (.invokevirtual 50, 3) := by decide +kernel
theorem dX7_parseCommand_65 : decode cX7_parseCommand 65 = .ok (.ifCond .ne 5, 3) := by decide +kernel
theorem dX7_parseCommand_68 : decode cX7_parseCommand 68 = .ok (.iconst 0, 1) := by decide +kernel
theorem dX7_parseCommand_69 : decode cX7_parseCommand 69 = .ok (.ireturn, 1) := by decide +kernel
theorem dX7_parseCommand_70 : decode cX7_parseCommand 70 = .ok (.aload_n 0, 1) := by decide +kernel
theorem dX7_parseCommand_71 : decode cX7_parseCommand 71 = .ok (.getfield 19, 3) := by decide +kernel
theorem dX7_parseCommand_74 : decode cX7_parseCommand 74 = .ok (.aload_n 0, 1) := by decide +kernel
theorem dX7_parseCommand_75 : decode cX7_parseCommand 75 = .ok (.getfield 29, 3) := by decide +kernel
theorem dX7_parseCommand_78 : decode cX7_parseCommand 78 = .ok (.aload_n 0, 1) := by decide +kernel
theorem dX7_parseCommand_79 : decode cX7_parseCommand 79 = .ok (.getfield 54, 3) := by decide +kernel
theorem dX7_parseCommand_82 : decode cX7_parseCommand 82 = .ok (.iastore, 1) := by decide +kernel
theorem dX7_parseCommand_83 : decode cX7_parseCommand 83 = .ok (.iload_n 2, 1) := by decide +kernel
theorem dX7_parseCommand_84 : decode cX7_parseCommand 84 = .ok (.iconst 1, 1) := by decide +kernel
theorem dX7_parseCommand_85 : decode cX7_parseCommand 85 = .ok (.if_icmp .le 26, 3) := by decide +kernel
theorem dX7_parseCommand_88 : decode cX7_parseCommand 88 = .ok (.aload_n 0, 1) := by decide +kernel
theorem dX7_parseCommand_89 : decode cX7_parseCommand 89 = .ok (.iconst 0, 1) := by decide +kernel
theorem dX7_parseCommand_90 : decode cX7_parseCommand 90 = .ok (.invokevirtual 50, 3) := by decide +kernel
theorem dX7_parseCommand_93 : decode cX7_parseCommand 93 = .ok (.ifCond .ne 5, 3) := by decide +kernel
theorem dX7_parseCommand_96 : decode cX7_parseCommand 96 = .ok (.iconst 0, 1) := by decide +kernel
theorem dX7_parseCommand_97 : decode cX7_parseCommand 97 = .ok (.ireturn, 1) := by decide +kernel
theorem dX7_parseCommand_98 : decode cX7_parseCommand 98 = .ok (.aload_n 0, 1) := by decide +kernel
theorem dX7_parseCommand_99 : decode cX7_parseCommand 99 = .ok (.getfield 22, 3) := by decide +kernel
theorem dX7_parseCommand_102 : decode cX7_parseCommand 102 = .ok (.aload_n 0, 1) := by decide +kernel
theorem dX7_parseCommand_103 : decode cX7_parseCommand 103 = .ok (.getfield 29, 3) := by decide +kernel
theorem dX7_parseCommand_106 : decode cX7_parseCommand 106 = .ok (.aload_n 0, 1) := by decide +kernel
theorem dX7_parseCommand_107 : decode cX7_parseCommand 107 = .ok (.getfield 54, 3) := by decide +kernel
theorem dX7_parseCommand_110 : decode cX7_parseCommand 110 = .ok (.iastore, 1) := by decide +kernel
theorem dX7_parseCommand_111 : decode cX7_parseCommand 111 = .ok (.aload_n 0, 1) := by decide +kernel
theorem dX7_parseCommand_112 : decode cX7_parseCommand 112 = .ok (.invokevirtual 35, 3) := by decide +kernel
theorem dX7_parseCommand_115 : decode cX7_parseCommand 115 = .ok (.aload_n 0, 1) := by decide +kernel
theorem dX7_parseCommand_116 : decode cX7_parseCommand 116 = .ok (.invokevirtual 42, 3) := by decide +kernel
theorem dX7_parseCommand_119 : decode cX7_parseCommand 119 = .ok (.bipush 59, 2) := by decide +kernel
theorem dX7_parseCommand_121 : decode cX7_parseCommand 121 = .ok (.if_icmp .eq 5, 3) := by decide +kernel
theorem dX7_parseCommand_124 : decode cX7_parseCommand 124 = .ok (.iconst 0, 1) := by decide +kernel
theorem dX7_parseCommand_125 : decode cX7_parseCommand 125 = .ok (.ireturn, 1) := by decide +kernel
theorem dX7_parseCommand_126 : decode cX7_parseCommand 126 = .ok (.aload_n 0, 1) := by decide +kernel
theorem dX7_parseCommand_127 : decode cX7_parseCommand 127 = .ok (.dup, 1) := by decide +kernel
theorem dX7_parseCommand_128 : decode cX7_parseCommand 128 = .ok (.getfield 32, 3) := by decide +kernel
theorem dX7_parseCommand_131 : decode cX7_parseCommand 131 = .ok (.iconst 1, 1) := by decide +kernel
theorem dX7_parseCommand_132 : decode cX7_parseCommand 132 = .ok (.iadd, 1) := by decide +kernel
theorem dX7_parseCommand_133 : decode cX7_parseCommand 133 = .ok (.putfield 32, 3) := by decide +kernel
theorem dX7_parseCommand_136 : decode cX7_parseCommand 136 = .ok (.aload_n 0, 1) := by decide +kernel
theorem dX7_parseCommand_137 : decode cX7_parseCommand 137 = .ok (.dup, 1) := by decide +kernel
theorem dX7_parseCommand_138 : decode cX7_parseCommand 138 = .ok (.getfield 29, 3) := by decide +kernel
theorem dX7_parseCommand_141 : decode cX7_parseCommand 141 = .ok (.iconst 1, 1) := by decide +kernel
theorem dX7_parseCommand_142 : decode cX7_parseCommand 142 = .ok (.iadd, 1) := by decide +kernel
theorem dX7_parseCommand_143 : decode cX7_parseCommand 143 = .ok (.putfield 29, 3) := by decide +kernel
theorem dX7_parseCommand_146 : decode cX7_parseCommand 146 = .ok (.iconst 1, 1) := by decide +kernel
theorem dX7_parseCommand_147 : decode cX7_parseCommand 147 = .ok (.ireturn, 1) := by decide +kernel
theorem kcX7_parseCommand : Cond.code yX7_parseCommand cX7_parseCommand 3 (some .boolean) ∈ tb := tq q_624 rfl
theorem knX7_parseCommand : Cond.initialized yX7_parseCommand.cls ∈ tb := (tq q_8 rfl)
theorem kdX7_parseCommand : yX7_parseCommand.cls ≠ "java/lang/invoke/MethodHandle" ∧ yX7_parseCommand.cls ≠ "java/lang/invoke/VarHandle" ∧ (parseMethodDescriptor yX7_parseCommand.desc).map (fun d => d.parameters.length) = some 0 := ⟨by decide +kernel, by decide +kernel, by decide +kernel⟩
theorem kiX7_parseCommand : Cond.instanceMethod yX7_parseCommand ∈ tb := (tq q_623 rfl)
theorem ksX7_parseCommand : Cond.selects yX7_parseCommand.cls yX7_parseCommand yX7_parseCommand ∈ tb := (tq z_20 rfl)
theorem tgX7_parseCommand {x0 : Nat} {h : PH} {r : Int32 × PH} (hf : (fX7_parseCommand x0).1 h = some r) : ∃ n x, nth h x0 = some (6, n, x) := by
  obtain ⟨_, _, e, _⟩ := pb_some hf
  exact (chk_some e).2
set_option maxHeartbeats 4000000 in
set_option maxRecDepth 100000 in
theorem metX7_parseCommand (l : Launch) (G : GG) (ρ : Nat → Nat) {z : Nat} {x0 : Nat} {h hE : PH} {v : Int32} (hf : (fX7_parseCommand x0).1 h = some (v, hE)) : Met l yX7_parseCommand (wsY yX7_parseCommand cX7_parseCommand 3 (some .boolean)) (RM 3 66 h hE) (va_Pc [.ref (ρ x0)] (PcB G ρ h z)) (QI G ρ v hE h.length z) (DC h hE) (DS h hE) (Af ρ h.length z) := by
  refine met_start (by decide) (Nat.le_of_ble_eq_true rfl) ?_
  intro p e s m below meth c ls hz C hW hl
  subst hz
  have C : Cx G "PairSymbols$Script" cX7_parseCommand 3 (some .boolean) "parseCommand" p s m _ meth c := C
  have hx := C.1
  have hb := C.2.1
  have hX : Ext hE hE := Ext.rf hE
  have hl : lv_has ls 3 [(0, .ref (ρ x0))] := hl
  have hW : Wd G ρ h.length (sl h) s.heap h s.heap [] 0 0 := hW
  unfold fX7_parseCommand at hf
  obtain ⟨_, e0, hf⟩ := pb_rd (rd_chk _ _) hf
  refine lv_aload_n hx hb dX7_parseCommand_0 rfl (lv_at hl 0 rfl) ?_
  obtain ⟨v1, h1, e1, hf⟩ := pb_some hf
  obtain ⟨_, _, t2⟩ := tgX7_byteHere e1
  refine r_calli hW (pext e1) (run_V (b := x0) (As := []) (rest := []) C hW (metX7_byteHere l G ρ e1) ⟨rfl, rfl⟩ kcX7_byteHere (tq q_617 rfl) kiX7_byteHere ksX7_byteHere knX7_byteHere kdX7_byteHere t2 rfl rfl ⟨Nat.le_of_ble_eq_true rfl, Nat.le_of_ble_eq_true rfl⟩ hl.1 (Nat.le_of_ble_eq_true rfl) (room_of hW (pext e1) ((pext hf).tr hX)) dX7_parseCommand_1 rfl) (fun H locs c1 s1 hW => ?_)
  refine lv_istore_n (lv' := [(1, .int v1), (0, .ref (ρ x0))]) hx hb dX7_parseCommand_4 rfl hl (by decide) rfl (fun ls hl => ?_)
  refine lv_iload_n hx hb dX7_parseCommand_5 rfl (lv_at hl 0 rfl) ?_
  obtain ⟨v3, h3, e3, hf⟩ := pb_some hf
  refine r_calli hW (pext e3) (run_S (As := [.int v1]) (rest := []) C hW (metX7_numbersOf l G ρ e3) ⟨rfl, rfl⟩ kcX7_numbersOf (tq q_625 rfl) kiX7_numbersOf knX7_numbersOf kdX7_numbersOf ⟨Nat.le_of_ble_eq_true rfl, Nat.le_of_ble_eq_true rfl⟩ hl.1 (Nat.le_of_ble_eq_true rfl) (room_of hW (pext e3) ((pext hf).tr hX)) dX7_parseCommand_6 rfl) (fun H locs c1 s1 hW => ?_)
  refine lv_istore_n (lv' := [(2, .int v3), (1, .int v1), (0, .ref (ρ x0))]) hx hb dX7_parseCommand_9 rfl hl (by decide) rfl (fun ls hl => ?_)
  refine lv_iload_n hx hb dX7_parseCommand_10 rfl (lv_at hl 0 rfl) ?_
  refine lv_iconst (v := -1) hx hb dX7_parseCommand_11 (by decide) ?_
  refine lv_icmp_eq (tgt := 24) hx hb dX7_parseCommand_12 (by decide) (fun c4 => ?_) (fun c4 => ?_)
  · rw [if_pos c4] at hf
    refine lv_iconst (v := 0) hx hb dX7_parseCommand_24 (by decide) ?_
    obtain ⟨rfl, rfl⟩ := pp_some hf
    exact r_zret C hW rfl dX7_parseCommand_25
  · rw [if_neg c4] at hf
    refine lv_aload_n hx hb dX7_parseCommand_15 rfl (lv_at hl 2 rfl) ?_
    obtain ⟨v5, e5, hf⟩ := pb_rd (rd_gI _ _ _) hf
    refine r_gI C hW e5 flX7_29 rfl dX7_parseCommand_16 ?_
    refine lv_bipush (v := 60) hx hb dX7_parseCommand_19 (by decide) ?_
    refine lv_icmp_lt (tgt := 26) hx hb dX7_parseCommand_21 (by decide) (fun c6 => ?_) (fun c6 => ?_)
    · rw [if_pos c6] at hf
      refine lv_aload_n hx hb dX7_parseCommand_26 rfl (lv_at hl 2 rfl) ?_
      refine lv_dup hx hb dX7_parseCommand_27 rfl ?_
      obtain ⟨v7, e7, hf⟩ := pb_rd (rd_gI _ _ _) hf
      refine r_gI C hW e7 flX7_32 rfl dX7_parseCommand_28 ?_
      refine lv_iconst (v := 1) hx hb dX7_parseCommand_31 (by decide) ?_
      refine lv_iadd hx hb dX7_parseCommand_32 ?_
      obtain ⟨_, h8, e8, hf⟩ := pb_some hf
      refine r_sI C hW e8 flX7_32 (Or.inl rfl) rfl dX7_parseCommand_33 (fun H locs hW => ?_)
      refine lv_aload_n hx hb dX7_parseCommand_36 rfl (lv_at hl 2 rfl) ?_
      obtain ⟨v9, e9, hf⟩ := pb_rd (rd_gA _ _ _) hf
      refine r_gA C hW e9 flX7_15 rfl dX7_parseCommand_37 ?_
      refine lv_aload_n hx hb dX7_parseCommand_40 rfl (lv_at hl 2 rfl) ?_
      obtain ⟨v10, e10, hf⟩ := pb_rd (rd_gI _ _ _) hf
      refine r_gI C hW e10 flX7_29 rfl dX7_parseCommand_41 ?_
      refine lv_iload_n hx hb dX7_parseCommand_44 rfl (lv_at hl 1 rfl) ?_
      obtain ⟨_, h11, e11, hf⟩ := pb_some hf
      refine r_iast C hW e11 dX7_parseCommand_45 (fun H locs hW => ?_)
      refine lv_iload_n hx hb dX7_parseCommand_46 rfl (lv_at hl 0 rfl) ?_
      refine lv_if_le (tgt := 83) hx hb dX7_parseCommand_47 (by decide) (fun c12 => ?_) (fun c12 => ?_)
      · rw [if_pos c12] at hf
        refine lv_iload_n hx hb dX7_parseCommand_83 rfl (lv_at hl 0 rfl) ?_
        refine lv_iconst (v := 1) hx hb dX7_parseCommand_84 (by decide) ?_
        refine lv_icmp_le (tgt := 111) hx hb dX7_parseCommand_85 (by decide) (fun c13 => ?_) (fun c13 => ?_)
        · rw [if_pos c13] at hf
          refine lv_aload_n hx hb dX7_parseCommand_111 rfl (lv_at hl 2 rfl) ?_
          obtain ⟨_, h14, e14, hf⟩ := pb_some hf
          obtain ⟨_, _, t15⟩ := tgX7_skipBlanks e14
          refine r_callv hW (pext e14) (run_V (b := x0) (As := []) (rest := []) C hW (metX7_skipBlanks l G ρ e14) ⟨rfl, rfl⟩ kcX7_skipBlanks (tq q_613 rfl) kiX7_skipBlanks ksX7_skipBlanks knX7_skipBlanks kdX7_skipBlanks t15 rfl rfl ⟨Nat.le_of_ble_eq_true rfl, Nat.le_of_ble_eq_true rfl⟩ hl.1 (Nat.le_of_ble_eq_true rfl) (room_of hW (pext e14) ((pext hf).tr hX)) dX7_parseCommand_112 rfl) (fun H locs c1 s1 hW => ?_)
          refine lv_aload_n hx hb dX7_parseCommand_115 rfl (lv_at hl 2 rfl) ?_
          obtain ⟨v16, h16, e16, hf⟩ := pb_some hf
          obtain ⟨_, _, t17⟩ := tgX7_byteHere e16
          refine r_calli hW (pext e16) (run_V (b := x0) (As := []) (rest := []) C hW (metX7_byteHere l G ρ e16) ⟨rfl, rfl⟩ kcX7_byteHere (tq q_617 rfl) kiX7_byteHere ksX7_byteHere knX7_byteHere kdX7_byteHere t17 rfl rfl ⟨Nat.le_of_ble_eq_true rfl, Nat.le_of_ble_eq_true rfl⟩ hl.1 (Nat.le_of_ble_eq_true rfl) (room_of hW (pext e16) ((pext hf).tr hX)) dX7_parseCommand_116 rfl) (fun H locs c1 s1 hW => ?_)
          refine lv_bipush (v := 59) hx hb dX7_parseCommand_119 (by decide) ?_
          refine lv_icmp_eq (tgt := 126) hx hb dX7_parseCommand_121 (by decide) (fun c18 => ?_) (fun c18 => ?_)
          · rw [if_pos c18] at hf
            refine lv_aload_n hx hb dX7_parseCommand_126 rfl (lv_at hl 2 rfl) ?_
            refine lv_dup hx hb dX7_parseCommand_127 rfl ?_
            obtain ⟨v19, e19, hf⟩ := pb_rd (rd_gI _ _ _) hf
            refine r_gI C hW e19 flX7_32 rfl dX7_parseCommand_128 ?_
            refine lv_iconst (v := 1) hx hb dX7_parseCommand_131 (by decide) ?_
            refine lv_iadd hx hb dX7_parseCommand_132 ?_
            obtain ⟨_, h20, e20, hf⟩ := pb_some hf
            refine r_sI C hW e20 flX7_32 (Or.inl rfl) rfl dX7_parseCommand_133 (fun H locs hW => ?_)
            refine lv_aload_n hx hb dX7_parseCommand_136 rfl (lv_at hl 2 rfl) ?_
            refine lv_dup hx hb dX7_parseCommand_137 rfl ?_
            obtain ⟨v21, e21, hf⟩ := pb_rd (rd_gI _ _ _) hf
            refine r_gI C hW e21 flX7_29 rfl dX7_parseCommand_138 ?_
            refine lv_iconst (v := 1) hx hb dX7_parseCommand_141 (by decide) ?_
            refine lv_iadd hx hb dX7_parseCommand_142 ?_
            obtain ⟨_, h22, e22, hf⟩ := pb_some hf
            refine r_sI C hW e22 flX7_29 (Or.inl rfl) rfl dX7_parseCommand_143 (fun H locs hW => ?_)
            refine lv_iconst (v := 1) hx hb dX7_parseCommand_146 (by decide) ?_
            obtain ⟨rfl, rfl⟩ := pp_some hf
            exact r_zret C hW rfl dX7_parseCommand_147
          · rw [if_neg c18] at hf
            refine lv_iconst (v := 0) hx hb dX7_parseCommand_124 (by decide) ?_
            obtain ⟨rfl, rfl⟩ := pp_some hf
            exact r_zret C hW rfl dX7_parseCommand_125
        · rw [if_neg c13] at hf
          refine lv_aload_n hx hb dX7_parseCommand_88 rfl (lv_at hl 2 rfl) ?_
          refine lv_iconst (v := 0) hx hb dX7_parseCommand_89 (by decide) ?_
          obtain ⟨v23, h23, e23, hf⟩ := pb_some hf
          obtain ⟨_, _, t24⟩ := tgX7_parseNumber e23
          refine r_calli hW (pext e23) (run_V (b := x0) (As := [.int (0 : Int32)]) (rest := []) C hW (metX7_parseNumber l G ρ e23) ⟨rfl, rfl⟩ kcX7_parseNumber (tq q_628 rfl) kiX7_parseNumber ksX7_parseNumber knX7_parseNumber kdX7_parseNumber t24 rfl rfl ⟨Nat.le_of_ble_eq_true rfl, Nat.le_of_ble_eq_true rfl⟩ hl.1 (Nat.le_of_ble_eq_true rfl) (room_of hW (pext e23) ((pext hf).tr hX)) dX7_parseCommand_90 rfl) (fun H locs c1 s1 hW => ?_)
          refine lv_if_ne (tgt := 98) hx hb dX7_parseCommand_93 (by decide) (fun c25 => ?_) (fun c25 => ?_)
          · rw [if_neg c25] at hf
            refine lv_aload_n hx hb dX7_parseCommand_98 rfl (lv_at hl 2 rfl) ?_
            obtain ⟨v26, e26, hf⟩ := pb_rd (rd_gA _ _ _) hf
            refine r_gA C hW e26 flX7_22 rfl dX7_parseCommand_99 ?_
            refine lv_aload_n hx hb dX7_parseCommand_102 rfl (lv_at hl 2 rfl) ?_
            obtain ⟨v27, e27, hf⟩ := pb_rd (rd_gI _ _ _) hf
            refine r_gI C hW e27 flX7_29 rfl dX7_parseCommand_103 ?_
            refine lv_aload_n hx hb dX7_parseCommand_106 rfl (lv_at hl 2 rfl) ?_
            obtain ⟨v28, e28, hf⟩ := pb_rd (rd_gI _ _ _) hf
            refine r_gI C hW e28 flX7_54 rfl dX7_parseCommand_107 ?_
            obtain ⟨_, h29, e29, hf⟩ := pb_some hf
            refine r_iast C hW e29 dX7_parseCommand_110 (fun H locs hW => ?_)
            refine lv_aload_n hx hb dX7_parseCommand_111 rfl (lv_at hl 2 rfl) ?_
            obtain ⟨_, h30, e30, hf⟩ := pb_some hf
            obtain ⟨_, _, t31⟩ := tgX7_skipBlanks e30
            refine r_callv hW (pext e30) (run_V (b := x0) (As := []) (rest := []) C hW (metX7_skipBlanks l G ρ e30) ⟨rfl, rfl⟩ kcX7_skipBlanks (tq q_613 rfl) kiX7_skipBlanks ksX7_skipBlanks knX7_skipBlanks kdX7_skipBlanks t31 rfl rfl ⟨Nat.le_of_ble_eq_true rfl, Nat.le_of_ble_eq_true rfl⟩ hl.1 (Nat.le_of_ble_eq_true rfl) (room_of hW (pext e30) ((pext hf).tr hX)) dX7_parseCommand_112 rfl) (fun H locs c1 s1 hW => ?_)
            refine lv_aload_n hx hb dX7_parseCommand_115 rfl (lv_at hl 2 rfl) ?_
            obtain ⟨v32, h32, e32, hf⟩ := pb_some hf
            obtain ⟨_, _, t33⟩ := tgX7_byteHere e32
            refine r_calli hW (pext e32) (run_V (b := x0) (As := []) (rest := []) C hW (metX7_byteHere l G ρ e32) ⟨rfl, rfl⟩ kcX7_byteHere (tq q_617 rfl) kiX7_byteHere ksX7_byteHere knX7_byteHere kdX7_byteHere t33 rfl rfl ⟨Nat.le_of_ble_eq_true rfl, Nat.le_of_ble_eq_true rfl⟩ hl.1 (Nat.le_of_ble_eq_true rfl) (room_of hW (pext e32) ((pext hf).tr hX)) dX7_parseCommand_116 rfl) (fun H locs c1 s1 hW => ?_)
            refine lv_bipush (v := 59) hx hb dX7_parseCommand_119 (by decide) ?_
            refine lv_icmp_eq (tgt := 126) hx hb dX7_parseCommand_121 (by decide) (fun c34 => ?_) (fun c34 => ?_)
            · rw [if_pos c34] at hf
              refine lv_aload_n hx hb dX7_parseCommand_126 rfl (lv_at hl 2 rfl) ?_
              refine lv_dup hx hb dX7_parseCommand_127 rfl ?_
              obtain ⟨v35, e35, hf⟩ := pb_rd (rd_gI _ _ _) hf
              refine r_gI C hW e35 flX7_32 rfl dX7_parseCommand_128 ?_
              refine lv_iconst (v := 1) hx hb dX7_parseCommand_131 (by decide) ?_
              refine lv_iadd hx hb dX7_parseCommand_132 ?_
              obtain ⟨_, h36, e36, hf⟩ := pb_some hf
              refine r_sI C hW e36 flX7_32 (Or.inl rfl) rfl dX7_parseCommand_133 (fun H locs hW => ?_)
              refine lv_aload_n hx hb dX7_parseCommand_136 rfl (lv_at hl 2 rfl) ?_
              refine lv_dup hx hb dX7_parseCommand_137 rfl ?_
              obtain ⟨v37, e37, hf⟩ := pb_rd (rd_gI _ _ _) hf
              refine r_gI C hW e37 flX7_29 rfl dX7_parseCommand_138 ?_
              refine lv_iconst (v := 1) hx hb dX7_parseCommand_141 (by decide) ?_
              refine lv_iadd hx hb dX7_parseCommand_142 ?_
              obtain ⟨_, h38, e38, hf⟩ := pb_some hf
              refine r_sI C hW e38 flX7_29 (Or.inl rfl) rfl dX7_parseCommand_143 (fun H locs hW => ?_)
              refine lv_iconst (v := 1) hx hb dX7_parseCommand_146 (by decide) ?_
              obtain ⟨rfl, rfl⟩ := pp_some hf
              exact r_zret C hW rfl dX7_parseCommand_147
            · rw [if_neg c34] at hf
              refine lv_iconst (v := 0) hx hb dX7_parseCommand_124 (by decide) ?_
              obtain ⟨rfl, rfl⟩ := pp_some hf
              exact r_zret C hW rfl dX7_parseCommand_125
          · rw [if_pos c25] at hf
            refine lv_iconst (v := 0) hx hb dX7_parseCommand_96 (by decide) ?_
            obtain ⟨rfl, rfl⟩ := pp_some hf
            exact r_zret C hW rfl dX7_parseCommand_97
      · rw [if_neg c12] at hf
        refine lv_aload_n hx hb dX7_parseCommand_50 rfl (lv_at hl 2 rfl) ?_
        refine lv_iload_n hx hb dX7_parseCommand_51 rfl (lv_at hl 1 rfl) ?_
        refine lv_bipush (v := 43) hx hb dX7_parseCommand_52 (by decide) ?_
        refine lv_icmp_ne (tgt := 61) hx hb dX7_parseCommand_54 (by decide) (fun c39 => ?_) (fun c39 => ?_)
        · rw [if_neg c39] at hf
          refine lv_iconst (v := 0) hx hb dX7_parseCommand_61 (by decide) ?_
          obtain ⟨v40, h40, e40, hf⟩ := pb_some hf
          obtain ⟨_, _, t41⟩ := tgX7_parseNumber e40
          refine r_calli hW (pext e40) (run_V (b := x0) (As := [.int (0 : Int32)]) (rest := []) C hW (metX7_parseNumber l G ρ e40) ⟨rfl, rfl⟩ kcX7_parseNumber (tq q_628 rfl) kiX7_parseNumber ksX7_parseNumber knX7_parseNumber kdX7_parseNumber t41 rfl rfl ⟨Nat.le_of_ble_eq_true rfl, Nat.le_of_ble_eq_true rfl⟩ hl.1 (Nat.le_of_ble_eq_true rfl) (room_of hW (pext e40) ((pext hf).tr hX)) dX7_parseCommand_62 rfl) (fun H locs c1 s1 hW => ?_)
          refine lv_if_ne (tgt := 70) hx hb dX7_parseCommand_65 (by decide) (fun c42 => ?_) (fun c42 => ?_)
          · rw [if_neg c42] at hf
            refine lv_aload_n hx hb dX7_parseCommand_70 rfl (lv_at hl 2 rfl) ?_
            obtain ⟨v43, e43, hf⟩ := pb_rd (rd_gA _ _ _) hf
            refine r_gA C hW e43 flX7_19 rfl dX7_parseCommand_71 ?_
            refine lv_aload_n hx hb dX7_parseCommand_74 rfl (lv_at hl 2 rfl) ?_
            obtain ⟨v44, e44, hf⟩ := pb_rd (rd_gI _ _ _) hf
            refine r_gI C hW e44 flX7_29 rfl dX7_parseCommand_75 ?_
            refine lv_aload_n hx hb dX7_parseCommand_78 rfl (lv_at hl 2 rfl) ?_
            obtain ⟨v45, e45, hf⟩ := pb_rd (rd_gI _ _ _) hf
            refine r_gI C hW e45 flX7_54 rfl dX7_parseCommand_79 ?_
            obtain ⟨_, h46, e46, hf⟩ := pb_some hf
            refine r_iast C hW e46 dX7_parseCommand_82 (fun H locs hW => ?_)
            refine lv_iload_n hx hb dX7_parseCommand_83 rfl (lv_at hl 0 rfl) ?_
            refine lv_iconst (v := 1) hx hb dX7_parseCommand_84 (by decide) ?_
            refine lv_icmp_le (tgt := 111) hx hb dX7_parseCommand_85 (by decide) (fun c47 => ?_) (fun c47 => ?_)
            · rw [if_pos c47] at hf
              refine lv_aload_n hx hb dX7_parseCommand_111 rfl (lv_at hl 2 rfl) ?_
              obtain ⟨_, h48, e48, hf⟩ := pb_some hf
              obtain ⟨_, _, t49⟩ := tgX7_skipBlanks e48
              refine r_callv hW (pext e48) (run_V (b := x0) (As := []) (rest := []) C hW (metX7_skipBlanks l G ρ e48) ⟨rfl, rfl⟩ kcX7_skipBlanks (tq q_613 rfl) kiX7_skipBlanks ksX7_skipBlanks knX7_skipBlanks kdX7_skipBlanks t49 rfl rfl ⟨Nat.le_of_ble_eq_true rfl, Nat.le_of_ble_eq_true rfl⟩ hl.1 (Nat.le_of_ble_eq_true rfl) (room_of hW (pext e48) ((pext hf).tr hX)) dX7_parseCommand_112 rfl) (fun H locs c1 s1 hW => ?_)
              refine lv_aload_n hx hb dX7_parseCommand_115 rfl (lv_at hl 2 rfl) ?_
              obtain ⟨v50, h50, e50, hf⟩ := pb_some hf
              obtain ⟨_, _, t51⟩ := tgX7_byteHere e50
              refine r_calli hW (pext e50) (run_V (b := x0) (As := []) (rest := []) C hW (metX7_byteHere l G ρ e50) ⟨rfl, rfl⟩ kcX7_byteHere (tq q_617 rfl) kiX7_byteHere ksX7_byteHere knX7_byteHere kdX7_byteHere t51 rfl rfl ⟨Nat.le_of_ble_eq_true rfl, Nat.le_of_ble_eq_true rfl⟩ hl.1 (Nat.le_of_ble_eq_true rfl) (room_of hW (pext e50) ((pext hf).tr hX)) dX7_parseCommand_116 rfl) (fun H locs c1 s1 hW => ?_)
              refine lv_bipush (v := 59) hx hb dX7_parseCommand_119 (by decide) ?_
              refine lv_icmp_eq (tgt := 126) hx hb dX7_parseCommand_121 (by decide) (fun c52 => ?_) (fun c52 => ?_)
              · rw [if_pos c52] at hf
                refine lv_aload_n hx hb dX7_parseCommand_126 rfl (lv_at hl 2 rfl) ?_
                refine lv_dup hx hb dX7_parseCommand_127 rfl ?_
                obtain ⟨v53, e53, hf⟩ := pb_rd (rd_gI _ _ _) hf
                refine r_gI C hW e53 flX7_32 rfl dX7_parseCommand_128 ?_
                refine lv_iconst (v := 1) hx hb dX7_parseCommand_131 (by decide) ?_
                refine lv_iadd hx hb dX7_parseCommand_132 ?_
                obtain ⟨_, h54, e54, hf⟩ := pb_some hf
                refine r_sI C hW e54 flX7_32 (Or.inl rfl) rfl dX7_parseCommand_133 (fun H locs hW => ?_)
                refine lv_aload_n hx hb dX7_parseCommand_136 rfl (lv_at hl 2 rfl) ?_
                refine lv_dup hx hb dX7_parseCommand_137 rfl ?_
                obtain ⟨v55, e55, hf⟩ := pb_rd (rd_gI _ _ _) hf
                refine r_gI C hW e55 flX7_29 rfl dX7_parseCommand_138 ?_
                refine lv_iconst (v := 1) hx hb dX7_parseCommand_141 (by decide) ?_
                refine lv_iadd hx hb dX7_parseCommand_142 ?_
                obtain ⟨_, h56, e56, hf⟩ := pb_some hf
                refine r_sI C hW e56 flX7_29 (Or.inl rfl) rfl dX7_parseCommand_143 (fun H locs hW => ?_)
                refine lv_iconst (v := 1) hx hb dX7_parseCommand_146 (by decide) ?_
                obtain ⟨rfl, rfl⟩ := pp_some hf
                exact r_zret C hW rfl dX7_parseCommand_147
              · rw [if_neg c52] at hf
                refine lv_iconst (v := 0) hx hb dX7_parseCommand_124 (by decide) ?_
                obtain ⟨rfl, rfl⟩ := pp_some hf
                exact r_zret C hW rfl dX7_parseCommand_125
            · rw [if_neg c47] at hf
              refine lv_aload_n hx hb dX7_parseCommand_88 rfl (lv_at hl 2 rfl) ?_
              refine lv_iconst (v := 0) hx hb dX7_parseCommand_89 (by decide) ?_
              obtain ⟨v57, h57, e57, hf⟩ := pb_some hf
              obtain ⟨_, _, t58⟩ := tgX7_parseNumber e57
              refine r_calli hW (pext e57) (run_V (b := x0) (As := [.int (0 : Int32)]) (rest := []) C hW (metX7_parseNumber l G ρ e57) ⟨rfl, rfl⟩ kcX7_parseNumber (tq q_628 rfl) kiX7_parseNumber ksX7_parseNumber knX7_parseNumber kdX7_parseNumber t58 rfl rfl ⟨Nat.le_of_ble_eq_true rfl, Nat.le_of_ble_eq_true rfl⟩ hl.1 (Nat.le_of_ble_eq_true rfl) (room_of hW (pext e57) ((pext hf).tr hX)) dX7_parseCommand_90 rfl) (fun H locs c1 s1 hW => ?_)
              refine lv_if_ne (tgt := 98) hx hb dX7_parseCommand_93 (by decide) (fun c59 => ?_) (fun c59 => ?_)
              · rw [if_neg c59] at hf
                refine lv_aload_n hx hb dX7_parseCommand_98 rfl (lv_at hl 2 rfl) ?_
                obtain ⟨v60, e60, hf⟩ := pb_rd (rd_gA _ _ _) hf
                refine r_gA C hW e60 flX7_22 rfl dX7_parseCommand_99 ?_
                refine lv_aload_n hx hb dX7_parseCommand_102 rfl (lv_at hl 2 rfl) ?_
                obtain ⟨v61, e61, hf⟩ := pb_rd (rd_gI _ _ _) hf
                refine r_gI C hW e61 flX7_29 rfl dX7_parseCommand_103 ?_
                refine lv_aload_n hx hb dX7_parseCommand_106 rfl (lv_at hl 2 rfl) ?_
                obtain ⟨v62, e62, hf⟩ := pb_rd (rd_gI _ _ _) hf
                refine r_gI C hW e62 flX7_54 rfl dX7_parseCommand_107 ?_
                obtain ⟨_, h63, e63, hf⟩ := pb_some hf
                refine r_iast C hW e63 dX7_parseCommand_110 (fun H locs hW => ?_)
                refine lv_aload_n hx hb dX7_parseCommand_111 rfl (lv_at hl 2 rfl) ?_
                obtain ⟨_, h64, e64, hf⟩ := pb_some hf
                obtain ⟨_, _, t65⟩ := tgX7_skipBlanks e64
                refine r_callv hW (pext e64) (run_V (b := x0) (As := []) (rest := []) C hW (metX7_skipBlanks l G ρ e64) ⟨rfl, rfl⟩ kcX7_skipBlanks (tq q_613 rfl) kiX7_skipBlanks ksX7_skipBlanks knX7_skipBlanks kdX7_skipBlanks t65 rfl rfl ⟨Nat.le_of_ble_eq_true rfl, Nat.le_of_ble_eq_true rfl⟩ hl.1 (Nat.le_of_ble_eq_true rfl) (room_of hW (pext e64) ((pext hf).tr hX)) dX7_parseCommand_112 rfl) (fun H locs c1 s1 hW => ?_)
                refine lv_aload_n hx hb dX7_parseCommand_115 rfl (lv_at hl 2 rfl) ?_
                obtain ⟨v66, h66, e66, hf⟩ := pb_some hf
                obtain ⟨_, _, t67⟩ := tgX7_byteHere e66
                refine r_calli hW (pext e66) (run_V (b := x0) (As := []) (rest := []) C hW (metX7_byteHere l G ρ e66) ⟨rfl, rfl⟩ kcX7_byteHere (tq q_617 rfl) kiX7_byteHere ksX7_byteHere knX7_byteHere kdX7_byteHere t67 rfl rfl ⟨Nat.le_of_ble_eq_true rfl, Nat.le_of_ble_eq_true rfl⟩ hl.1 (Nat.le_of_ble_eq_true rfl) (room_of hW (pext e66) ((pext hf).tr hX)) dX7_parseCommand_116 rfl) (fun H locs c1 s1 hW => ?_)
                refine lv_bipush (v := 59) hx hb dX7_parseCommand_119 (by decide) ?_
                refine lv_icmp_eq (tgt := 126) hx hb dX7_parseCommand_121 (by decide) (fun c68 => ?_) (fun c68 => ?_)
                · rw [if_pos c68] at hf
                  refine lv_aload_n hx hb dX7_parseCommand_126 rfl (lv_at hl 2 rfl) ?_
                  refine lv_dup hx hb dX7_parseCommand_127 rfl ?_
                  obtain ⟨v69, e69, hf⟩ := pb_rd (rd_gI _ _ _) hf
                  refine r_gI C hW e69 flX7_32 rfl dX7_parseCommand_128 ?_
                  refine lv_iconst (v := 1) hx hb dX7_parseCommand_131 (by decide) ?_
                  refine lv_iadd hx hb dX7_parseCommand_132 ?_
                  obtain ⟨_, h70, e70, hf⟩ := pb_some hf
                  refine r_sI C hW e70 flX7_32 (Or.inl rfl) rfl dX7_parseCommand_133 (fun H locs hW => ?_)
                  refine lv_aload_n hx hb dX7_parseCommand_136 rfl (lv_at hl 2 rfl) ?_
                  refine lv_dup hx hb dX7_parseCommand_137 rfl ?_
                  obtain ⟨v71, e71, hf⟩ := pb_rd (rd_gI _ _ _) hf
                  refine r_gI C hW e71 flX7_29 rfl dX7_parseCommand_138 ?_
                  refine lv_iconst (v := 1) hx hb dX7_parseCommand_141 (by decide) ?_
                  refine lv_iadd hx hb dX7_parseCommand_142 ?_
                  obtain ⟨_, h72, e72, hf⟩ := pb_some hf
                  refine r_sI C hW e72 flX7_29 (Or.inl rfl) rfl dX7_parseCommand_143 (fun H locs hW => ?_)
                  refine lv_iconst (v := 1) hx hb dX7_parseCommand_146 (by decide) ?_
                  obtain ⟨rfl, rfl⟩ := pp_some hf
                  exact r_zret C hW rfl dX7_parseCommand_147
                · rw [if_neg c68] at hf
                  refine lv_iconst (v := 0) hx hb dX7_parseCommand_124 (by decide) ?_
                  obtain ⟨rfl, rfl⟩ := pp_some hf
                  exact r_zret C hW rfl dX7_parseCommand_125
              · rw [if_pos c59] at hf
                refine lv_iconst (v := 0) hx hb dX7_parseCommand_96 (by decide) ?_
                obtain ⟨rfl, rfl⟩ := pp_some hf
                exact r_zret C hW rfl dX7_parseCommand_97
          · rw [if_pos c42] at hf
            refine lv_iconst (v := 0) hx hb dX7_parseCommand_68 (by decide) ?_
            obtain ⟨rfl, rfl⟩ := pp_some hf
            exact r_zret C hW rfl dX7_parseCommand_69
        · rw [if_pos c39] at hf
          refine lv_iconst (v := 1) hx hb dX7_parseCommand_57 (by decide) ?_
          refine lv_goto (tgt := 62) hx hb dX7_parseCommand_58 (by decide) ?_
          obtain ⟨v73, h73, e73, hf⟩ := pb_some hf
          obtain ⟨_, _, t74⟩ := tgX7_parseNumber e73
          refine r_calli hW (pext e73) (run_V (b := x0) (As := [.int (1 : Int32)]) (rest := []) C hW (metX7_parseNumber l G ρ e73) ⟨rfl, rfl⟩ kcX7_parseNumber (tq q_628 rfl) kiX7_parseNumber ksX7_parseNumber knX7_parseNumber kdX7_parseNumber t74 rfl rfl ⟨Nat.le_of_ble_eq_true rfl, Nat.le_of_ble_eq_true rfl⟩ hl.1 (Nat.le_of_ble_eq_true rfl) (room_of hW (pext e73) ((pext hf).tr hX)) dX7_parseCommand_62 rfl) (fun H locs c1 s1 hW => ?_)
          refine lv_if_ne (tgt := 70) hx hb dX7_parseCommand_65 (by decide) (fun c75 => ?_) (fun c75 => ?_)
          · rw [if_neg c75] at hf
            refine lv_aload_n hx hb dX7_parseCommand_70 rfl (lv_at hl 2 rfl) ?_
            obtain ⟨v76, e76, hf⟩ := pb_rd (rd_gA _ _ _) hf
            refine r_gA C hW e76 flX7_19 rfl dX7_parseCommand_71 ?_
            refine lv_aload_n hx hb dX7_parseCommand_74 rfl (lv_at hl 2 rfl) ?_
            obtain ⟨v77, e77, hf⟩ := pb_rd (rd_gI _ _ _) hf
            refine r_gI C hW e77 flX7_29 rfl dX7_parseCommand_75 ?_
            refine lv_aload_n hx hb dX7_parseCommand_78 rfl (lv_at hl 2 rfl) ?_
            obtain ⟨v78, e78, hf⟩ := pb_rd (rd_gI _ _ _) hf
            refine r_gI C hW e78 flX7_54 rfl dX7_parseCommand_79 ?_
            obtain ⟨_, h79, e79, hf⟩ := pb_some hf
            refine r_iast C hW e79 dX7_parseCommand_82 (fun H locs hW => ?_)
            refine lv_iload_n hx hb dX7_parseCommand_83 rfl (lv_at hl 0 rfl) ?_
            refine lv_iconst (v := 1) hx hb dX7_parseCommand_84 (by decide) ?_
            refine lv_icmp_le (tgt := 111) hx hb dX7_parseCommand_85 (by decide) (fun c80 => ?_) (fun c80 => ?_)
            · rw [if_pos c80] at hf
              refine lv_aload_n hx hb dX7_parseCommand_111 rfl (lv_at hl 2 rfl) ?_
              obtain ⟨_, h81, e81, hf⟩ := pb_some hf
              obtain ⟨_, _, t82⟩ := tgX7_skipBlanks e81
              refine r_callv hW (pext e81) (run_V (b := x0) (As := []) (rest := []) C hW (metX7_skipBlanks l G ρ e81) ⟨rfl, rfl⟩ kcX7_skipBlanks (tq q_613 rfl) kiX7_skipBlanks ksX7_skipBlanks knX7_skipBlanks kdX7_skipBlanks t82 rfl rfl ⟨Nat.le_of_ble_eq_true rfl, Nat.le_of_ble_eq_true rfl⟩ hl.1 (Nat.le_of_ble_eq_true rfl) (room_of hW (pext e81) ((pext hf).tr hX)) dX7_parseCommand_112 rfl) (fun H locs c1 s1 hW => ?_)
              refine lv_aload_n hx hb dX7_parseCommand_115 rfl (lv_at hl 2 rfl) ?_
              obtain ⟨v83, h83, e83, hf⟩ := pb_some hf
              obtain ⟨_, _, t84⟩ := tgX7_byteHere e83
              refine r_calli hW (pext e83) (run_V (b := x0) (As := []) (rest := []) C hW (metX7_byteHere l G ρ e83) ⟨rfl, rfl⟩ kcX7_byteHere (tq q_617 rfl) kiX7_byteHere ksX7_byteHere knX7_byteHere kdX7_byteHere t84 rfl rfl ⟨Nat.le_of_ble_eq_true rfl, Nat.le_of_ble_eq_true rfl⟩ hl.1 (Nat.le_of_ble_eq_true rfl) (room_of hW (pext e83) ((pext hf).tr hX)) dX7_parseCommand_116 rfl) (fun H locs c1 s1 hW => ?_)
              refine lv_bipush (v := 59) hx hb dX7_parseCommand_119 (by decide) ?_
              refine lv_icmp_eq (tgt := 126) hx hb dX7_parseCommand_121 (by decide) (fun c85 => ?_) (fun c85 => ?_)
              · rw [if_pos c85] at hf
                refine lv_aload_n hx hb dX7_parseCommand_126 rfl (lv_at hl 2 rfl) ?_
                refine lv_dup hx hb dX7_parseCommand_127 rfl ?_
                obtain ⟨v86, e86, hf⟩ := pb_rd (rd_gI _ _ _) hf
                refine r_gI C hW e86 flX7_32 rfl dX7_parseCommand_128 ?_
                refine lv_iconst (v := 1) hx hb dX7_parseCommand_131 (by decide) ?_
                refine lv_iadd hx hb dX7_parseCommand_132 ?_
                obtain ⟨_, h87, e87, hf⟩ := pb_some hf
                refine r_sI C hW e87 flX7_32 (Or.inl rfl) rfl dX7_parseCommand_133 (fun H locs hW => ?_)
                refine lv_aload_n hx hb dX7_parseCommand_136 rfl (lv_at hl 2 rfl) ?_
                refine lv_dup hx hb dX7_parseCommand_137 rfl ?_
                obtain ⟨v88, e88, hf⟩ := pb_rd (rd_gI _ _ _) hf
                refine r_gI C hW e88 flX7_29 rfl dX7_parseCommand_138 ?_
                refine lv_iconst (v := 1) hx hb dX7_parseCommand_141 (by decide) ?_
                refine lv_iadd hx hb dX7_parseCommand_142 ?_
                obtain ⟨_, h89, e89, hf⟩ := pb_some hf
                refine r_sI C hW e89 flX7_29 (Or.inl rfl) rfl dX7_parseCommand_143 (fun H locs hW => ?_)
                refine lv_iconst (v := 1) hx hb dX7_parseCommand_146 (by decide) ?_
                obtain ⟨rfl, rfl⟩ := pp_some hf
                exact r_zret C hW rfl dX7_parseCommand_147
              · rw [if_neg c85] at hf
                refine lv_iconst (v := 0) hx hb dX7_parseCommand_124 (by decide) ?_
                obtain ⟨rfl, rfl⟩ := pp_some hf
                exact r_zret C hW rfl dX7_parseCommand_125
            · rw [if_neg c80] at hf
              refine lv_aload_n hx hb dX7_parseCommand_88 rfl (lv_at hl 2 rfl) ?_
              refine lv_iconst (v := 0) hx hb dX7_parseCommand_89 (by decide) ?_
              obtain ⟨v90, h90, e90, hf⟩ := pb_some hf
              obtain ⟨_, _, t91⟩ := tgX7_parseNumber e90
              refine r_calli hW (pext e90) (run_V (b := x0) (As := [.int (0 : Int32)]) (rest := []) C hW (metX7_parseNumber l G ρ e90) ⟨rfl, rfl⟩ kcX7_parseNumber (tq q_628 rfl) kiX7_parseNumber ksX7_parseNumber knX7_parseNumber kdX7_parseNumber t91 rfl rfl ⟨Nat.le_of_ble_eq_true rfl, Nat.le_of_ble_eq_true rfl⟩ hl.1 (Nat.le_of_ble_eq_true rfl) (room_of hW (pext e90) ((pext hf).tr hX)) dX7_parseCommand_90 rfl) (fun H locs c1 s1 hW => ?_)
              refine lv_if_ne (tgt := 98) hx hb dX7_parseCommand_93 (by decide) (fun c92 => ?_) (fun c92 => ?_)
              · rw [if_neg c92] at hf
                refine lv_aload_n hx hb dX7_parseCommand_98 rfl (lv_at hl 2 rfl) ?_
                obtain ⟨v93, e93, hf⟩ := pb_rd (rd_gA _ _ _) hf
                refine r_gA C hW e93 flX7_22 rfl dX7_parseCommand_99 ?_
                refine lv_aload_n hx hb dX7_parseCommand_102 rfl (lv_at hl 2 rfl) ?_
                obtain ⟨v94, e94, hf⟩ := pb_rd (rd_gI _ _ _) hf
                refine r_gI C hW e94 flX7_29 rfl dX7_parseCommand_103 ?_
                refine lv_aload_n hx hb dX7_parseCommand_106 rfl (lv_at hl 2 rfl) ?_
                obtain ⟨v95, e95, hf⟩ := pb_rd (rd_gI _ _ _) hf
                refine r_gI C hW e95 flX7_54 rfl dX7_parseCommand_107 ?_
                obtain ⟨_, h96, e96, hf⟩ := pb_some hf
                refine r_iast C hW e96 dX7_parseCommand_110 (fun H locs hW => ?_)
                refine lv_aload_n hx hb dX7_parseCommand_111 rfl (lv_at hl 2 rfl) ?_
                obtain ⟨_, h97, e97, hf⟩ := pb_some hf
                obtain ⟨_, _, t98⟩ := tgX7_skipBlanks e97
                refine r_callv hW (pext e97) (run_V (b := x0) (As := []) (rest := []) C hW (metX7_skipBlanks l G ρ e97) ⟨rfl, rfl⟩ kcX7_skipBlanks (tq q_613 rfl) kiX7_skipBlanks ksX7_skipBlanks knX7_skipBlanks kdX7_skipBlanks t98 rfl rfl ⟨Nat.le_of_ble_eq_true rfl, Nat.le_of_ble_eq_true rfl⟩ hl.1 (Nat.le_of_ble_eq_true rfl) (room_of hW (pext e97) ((pext hf).tr hX)) dX7_parseCommand_112 rfl) (fun H locs c1 s1 hW => ?_)
                refine lv_aload_n hx hb dX7_parseCommand_115 rfl (lv_at hl 2 rfl) ?_
                obtain ⟨v99, h99, e99, hf⟩ := pb_some hf
                obtain ⟨_, _, t100⟩ := tgX7_byteHere e99
                refine r_calli hW (pext e99) (run_V (b := x0) (As := []) (rest := []) C hW (metX7_byteHere l G ρ e99) ⟨rfl, rfl⟩ kcX7_byteHere (tq q_617 rfl) kiX7_byteHere ksX7_byteHere knX7_byteHere kdX7_byteHere t100 rfl rfl ⟨Nat.le_of_ble_eq_true rfl, Nat.le_of_ble_eq_true rfl⟩ hl.1 (Nat.le_of_ble_eq_true rfl) (room_of hW (pext e99) ((pext hf).tr hX)) dX7_parseCommand_116 rfl) (fun H locs c1 s1 hW => ?_)
                refine lv_bipush (v := 59) hx hb dX7_parseCommand_119 (by decide) ?_
                refine lv_icmp_eq (tgt := 126) hx hb dX7_parseCommand_121 (by decide) (fun c101 => ?_) (fun c101 => ?_)
                · rw [if_pos c101] at hf
                  refine lv_aload_n hx hb dX7_parseCommand_126 rfl (lv_at hl 2 rfl) ?_
                  refine lv_dup hx hb dX7_parseCommand_127 rfl ?_
                  obtain ⟨v102, e102, hf⟩ := pb_rd (rd_gI _ _ _) hf
                  refine r_gI C hW e102 flX7_32 rfl dX7_parseCommand_128 ?_
                  refine lv_iconst (v := 1) hx hb dX7_parseCommand_131 (by decide) ?_
                  refine lv_iadd hx hb dX7_parseCommand_132 ?_
                  obtain ⟨_, h103, e103, hf⟩ := pb_some hf
                  refine r_sI C hW e103 flX7_32 (Or.inl rfl) rfl dX7_parseCommand_133 (fun H locs hW => ?_)
                  refine lv_aload_n hx hb dX7_parseCommand_136 rfl (lv_at hl 2 rfl) ?_
                  refine lv_dup hx hb dX7_parseCommand_137 rfl ?_
                  obtain ⟨v104, e104, hf⟩ := pb_rd (rd_gI _ _ _) hf
                  refine r_gI C hW e104 flX7_29 rfl dX7_parseCommand_138 ?_
                  refine lv_iconst (v := 1) hx hb dX7_parseCommand_141 (by decide) ?_
                  refine lv_iadd hx hb dX7_parseCommand_142 ?_
                  obtain ⟨_, h105, e105, hf⟩ := pb_some hf
                  refine r_sI C hW e105 flX7_29 (Or.inl rfl) rfl dX7_parseCommand_143 (fun H locs hW => ?_)
                  refine lv_iconst (v := 1) hx hb dX7_parseCommand_146 (by decide) ?_
                  obtain ⟨rfl, rfl⟩ := pp_some hf
                  exact r_zret C hW rfl dX7_parseCommand_147
                · rw [if_neg c101] at hf
                  refine lv_iconst (v := 0) hx hb dX7_parseCommand_124 (by decide) ?_
                  obtain ⟨rfl, rfl⟩ := pp_some hf
                  exact r_zret C hW rfl dX7_parseCommand_125
              · rw [if_pos c92] at hf
                refine lv_iconst (v := 0) hx hb dX7_parseCommand_96 (by decide) ?_
                obtain ⟨rfl, rfl⟩ := pp_some hf
                exact r_zret C hW rfl dX7_parseCommand_97
          · rw [if_pos c75] at hf
            refine lv_iconst (v := 0) hx hb dX7_parseCommand_68 (by decide) ?_
            obtain ⟨rfl, rfl⟩ := pp_some hf
            exact r_zret C hW rfl dX7_parseCommand_69
    · rw [if_neg c6] at hf
      refine lv_iconst (v := 0) hx hb dX7_parseCommand_24 (by decide) ?_
      obtain ⟨rfl, rfl⟩ := pp_some hf
      exact r_zret C hW rfl dX7_parseCommand_25

theorem dX7_parse_0 : decode cX7_parse 0 = .ok (.aload_n 0, 1) := by decide +kernel
theorem dX7_parse_1 : decode cX7_parse 1 = .ok (.iconst 0, 1) := by decide +kernel
theorem dX7_parse_2 : decode cX7_parse 2 = .ok (.putfield 29, 3) := by decide +kernel
theorem dX7_parse_5 : decode cX7_parse 5 = .ok (.aload_n 0, 1) := by decide +kernel
theorem dX7_parse_6 : decode cX7_parse 6 = .ok (.iconst 0, 1) := by decide +kernel
theorem dX7_parse_7 : decode cX7_parse 7 = .ok (.putfield 32, 3) := by decide +kernel
theorem dX7_parse_10 : decode cX7_parse 10 = .ok (.aload_n 0, 1) := by decide +kernel
theorem dX7_parse_11 : decode cX7_parse 11 = .ok (.invokevirtual 35, 3) := by decide +kernel
theorem dX7_parse_14 : decode cX7_parse 14 = .ok (.aload_n 0, 1) := by decide +kernel
theorem dX7_parse_15 : decode cX7_parse 15 = .ok (.getfield 32, 3) := by decide +kernel
theorem dX7_parse_18 : decode cX7_parse 18 = .ok (.aload_n 0, 1) := by decide +kernel
theorem dX7_parse_19 : decode cX7_parse 19 = .ok (.getfield 25, 3) := by decide +kernel
theorem dX7_parse_22 : decode cX7_parse 22 = .ok (.if_icmp .ne 8, 3) := by decide +kernel
theorem dX7_parse_25 : decode cX7_parse 25 = .ok (.aload_n 0, 1) := by decide +kernel
theorem dX7_parse_26 : decode cX7_parse 26 = .ok (.getfield 32, 3) := by decide +kernel
theorem dX7_parse_29 : decode cX7_parse 29 = .ok (.ireturn, 1) := by decide +kernel
theorem dX7_parse_30 : decode cX7_parse 30 = .ok (.iconst 0, 1) := by decide +kernel
theorem dX7_parse_31 : decode cX7_parse 31 = .ok (.istore_n 1, 1) := by decide +kernel
theorem dX7_parse_32 : decode cX7_parse 32 = .ok (.iload_n 1, 1) := by decide +kernel
theorem dX7_parse_33 : decode cX7_parse 33 = .ok (.bipush 60, 2) := by decide +kernel
theorem dX7_parse_35 : decode cX7_parse 35 = .ok (.if_icmp .ge 36, 3) := by decide +kernel
theorem dX7_parse_38 : decode cX7_parse 38 = .ok (.aload_n 0, 1) := by decide +kernel
theorem dX7_parse_39 : decode cX7_parse 39 = .ok (.getfield 32, 3) := by decide +kernel
theorem dX7_parse_42 : decode cX7_parse 42 = .ok (.aload_n 0, 1) := by decide +kernel
theorem dX7_parse_43 : decode cX7_parse 43 = .ok (.getfield 25, 3) := by decide +kernel
theorem dX7_parse_46 : decode cX7_parse 46 = .ok (.if_icmp .ge 25, 3) := by decide +kernel
theorem dX7_parse_49 : decode cX7_parse 49 = .ok (.aload_n 0, 1) := by decide +kernel
theorem dX7_parse_50 : decode cX7_parse 50 = .ok (.invokevirtual 38, 3) := by decide +kernel
theorem dX7_parse_53 : decode cX7_parse 53 = .ok (.ifCond .ne 8, 3) := by decide +kernel
theorem dX7_parse_56 : decode cX7_parse 56 = .ok (.aload_n 0, 1) := by decide +kernel
theorem dX7_parse_57 : decode cX7_parse 57 = .ok (.getfield 32, 3) := by decide +kernel
theorem dX7_parse_60 : decode cX7_parse 60 = .ok (.ireturn, 1) := by decide +kernel
theorem dX7_parse_61 : decode cX7_parse 61 = .ok (.aload_n 0, 1) := by decide +kernel
theorem dX7_parse_62 : decode cX7_parse 62 = .ok (.invokevirtual 35, 3) := by decide +kernel
theorem dX7_parse_65 : decode cX7_parse 65 = .ok (.iinc 1 1, 3) := by decide +kernel
theorem dX7_parse_68 : decode cX7_parse 68 = .ok (.goto (-36), 3) := by decide +kernel
theorem dX7_parse_71 : decode cX7_parse 71 = .ok (.iconst (-1), 1) := by decide +kernel
theorem dX7_parse_72 : decode cX7_parse 72 = .ok (.ireturn, 1) := by decide +kernel
theorem kcX7_parse : Cond.code yX7_parse cX7_parse 2 (some .int) ∈ tb := tq q_612 rfl
theorem knX7_parse : Cond.initialized yX7_parse.cls ∈ tb := (tq q_8 rfl)
theorem kdX7_parse : yX7_parse.cls ≠ "java/lang/invoke/MethodHandle" ∧ yX7_parse.cls ≠ "java/lang/invoke/VarHandle" ∧ (parseMethodDescriptor yX7_parse.desc).map (fun d => d.parameters.length) = some 0 := ⟨by decide +kernel, by decide +kernel, by decide +kernel⟩
theorem kiX7_parse : Cond.instanceMethod yX7_parse ∈ tb := (tq q_610 rfl)
theorem ksX7_parse : Cond.selects yX7_parse.cls yX7_parse yX7_parse ∈ tb := (tq q_611 rfl)
theorem tgX7_parse {x0 : Nat} {h : PH} {r : Int32 × PH} (hf : (fX7_parse x0).1 h = some r) : ∃ n x, nth h x0 = some (6, n, x) := by
  obtain ⟨_, _, e, _⟩ := pb_some hf
  exact (chk_some e).2
set_option maxHeartbeats 4000000 in
set_option maxRecDepth 100000 in
theorem wX7_parse_B32 {p : Program} {l : Launch} {e : Env} {s : State} {m : MethodId} {args : Array Value} {below : List Frame} {meth : Method} {c : Code} {G : GG} {ρ : Nat → Nat} {h0 hE hB : PH} {Q : State → Prop} {x0 : Nat} (C : Cx G "PairSymbols$Script" cX7_parse 2 (some .int) "parse" p s m args meth c) {x1 : Int32} {h : PH} {H : Heap} {locs : List Loc} {cells slots : Nat} {ls : Array Slot} {r : (Int32) ⊕ (Int32 ⊕ (Unit))} (hf : (fX7_parse_b32 x0 x1).1 h = some (r, hB)) (hX : Ext hB hE) (hW : Wd G ρ h0.length (sl h0) s.heap h H locs cells slots) (hl : lv_has ls 2 [(0, .ref (ρ x0)), (1, .int x1)]) (kc : ∀ y : Int32, r = .inl y → ∀ (H : Heap) (locs : List Loc) (c1 s1 : Nat) (ls : Array Slot), Wd G ρ h0.length (sl h0) s.heap hB H locs c1 s1 → lv_has ls 2 [(0, .ref (ρ x0)), (1, .int y)] → W p l e (RM 4 88 h0 hE) s m args below meth c H locs c1 s1 Q (F0 m 32 ls [])) (kr : ∀ v : Int32, r = .inr (.inl v) → ∀ (H : Heap) (locs : List Loc) (c1 s1 : Nat) (ls : Array Slot) (pc : Nat), Wd G ρ h0.length (sl h0) s.heap hB H locs c1 s1 → decode cX7_parse pc = .ok (.ireturn, 1) → W p l e (RM 4 88 h0 hE) s m args below meth c H locs c1 s1 Q (F0 m pc ls [.int v])) (ke : ∀ z : Unit, r = .inr (.inr z) → ∀ (H : Heap) (locs : List Loc) (c1 s1 : Nat) (ls : Array Slot), Wd G ρ h0.length (sl h0) s.heap hB H locs c1 s1 → lv_has ls 2 [] → W p l e (RM 4 88 h0 hE) s m args below meth c H locs c1 s1 Q (F0 m 71 ls [])) : W p l e (RM 4 88 h0 hE) s m args below meth c H locs cells slots Q (F0 m 32 ls []) := by
  have hx := C.1
  have hb := C.2.1
  unfold fX7_parse_b32 at hf
  refine lv_iload_n hx hb dX7_parse_32 rfl (lv_at hl 1 rfl) ?_
  refine lv_bipush (v := 60) hx hb dX7_parse_33 (by decide) ?_
  refine lv_icmp_ge (tgt := 71) hx hb dX7_parse_35 (by decide) (fun c8 => ?_) (fun c8 => ?_)
  · rw [if_pos c8] at hf
    obtain ⟨rfl, rfl⟩ := pp_some hf
    exact ke _ rfl _ _ _ _ _ hW (lv_sub hl [] rfl)
  · rw [if_neg c8] at hf
    refine lv_aload_n hx hb dX7_parse_38 rfl (lv_at hl 0 rfl) ?_
    obtain ⟨v9, e9, hf⟩ := pb_rd (rd_gI _ _ _) hf
    refine r_gI C hW e9 flX7_32 rfl dX7_parse_39 ?_
    refine lv_aload_n hx hb dX7_parse_42 rfl (lv_at hl 0 rfl) ?_
    obtain ⟨v10, e10, hf⟩ := pb_rd (rd_gI _ _ _) hf
    refine r_gI C hW e10 flX7_25 rfl dX7_parse_43 ?_
    refine lv_icmp_ge (tgt := 71) hx hb dX7_parse_46 (by decide) (fun c11 => ?_) (fun c11 => ?_)
    · rw [if_pos c11] at hf
      obtain ⟨rfl, rfl⟩ := pp_some hf
      exact ke _ rfl _ _ _ _ _ hW (lv_sub hl [] rfl)
    · rw [if_neg c11] at hf
      refine lv_aload_n hx hb dX7_parse_49 rfl (lv_at hl 0 rfl) ?_
      obtain ⟨v12, h12, e12, hf⟩ := pb_some hf
      obtain ⟨_, _, t13⟩ := tgX7_parseCommand e12
      refine r_calli hW (pext e12) (run_V (b := x0) (As := []) (rest := []) C hW (metX7_parseCommand l G ρ e12) ⟨rfl, rfl⟩ kcX7_parseCommand (tq q_621 rfl) kiX7_parseCommand ksX7_parseCommand knX7_parseCommand kdX7_parseCommand t13 rfl rfl ⟨Nat.le_of_ble_eq_true rfl, Nat.le_of_ble_eq_true rfl⟩ hl.1 (Nat.le_of_ble_eq_true rfl) (room_of hW (pext e12) ((pext hf).tr hX)) dX7_parse_50 rfl) (fun H locs c1 s1 hW => ?_)
      refine lv_if_ne (tgt := 61) hx hb dX7_parse_53 (by decide) (fun c14 => ?_) (fun c14 => ?_)
      · rw [if_neg c14] at hf
        refine lv_aload_n hx hb dX7_parse_61 rfl (lv_at hl 0 rfl) ?_
        obtain ⟨_, h15, e15, hf⟩ := pb_some hf
        obtain ⟨_, _, t16⟩ := tgX7_skipBlanks e15
        refine r_callv hW (pext e15) (run_V (b := x0) (As := []) (rest := []) C hW (metX7_skipBlanks l G ρ e15) ⟨rfl, rfl⟩ kcX7_skipBlanks (tq q_613 rfl) kiX7_skipBlanks ksX7_skipBlanks knX7_skipBlanks kdX7_skipBlanks t16 rfl rfl ⟨Nat.le_of_ble_eq_true rfl, Nat.le_of_ble_eq_true rfl⟩ hl.1 (Nat.le_of_ble_eq_true rfl) (room_of hW (pext e15) ((pext hf).tr hX)) dX7_parse_62 rfl) (fun H locs c1 s1 hW => ?_)
        refine lv_iinc (v := (x1 + 1)) (lv' := [(1, .int (x1 + 1)), (0, .ref (ρ x0))]) hx hb dX7_parse_65 hl (k := 1) rfl rfl (by decide) rfl (fun ls hl => ?_)
        refine lv_goto (tgt := 32) hx hb dX7_parse_68 (by decide) ?_
        obtain ⟨rfl, rfl⟩ := pp_some hf
        exact kc _ rfl _ _ _ _ _ hW (lv_sub hl [1, 0] rfl)
      · rw [if_pos c14] at hf
        refine lv_aload_n hx hb dX7_parse_56 rfl (lv_at hl 0 rfl) ?_
        obtain ⟨v17, e17, hf⟩ := pb_rd (rd_gI _ _ _) hf
        refine r_gI C hW e17 flX7_32 rfl dX7_parse_57 ?_
        obtain ⟨rfl, rfl⟩ := pp_some hf
        exact kr _ rfl _ _ _ _ _ _ hW dX7_parse_60
set_option maxHeartbeats 4000000 in
theorem wX7_parse_L32 {p : Program} {l : Launch} {e : Env} {s : State} {m : MethodId} {args : Array Value} {below : List Frame} {meth : Method} {c : Code} {G : GG} {ρ : Nat → Nat} {h0 hE hB : PH} {Q : State → Prop} {x0 : Nat} (C : Cx G "PairSymbols$Script" cX7_parse 2 (some .int) "parse" p s m args meth c) {z : (Int32 ⊕ (Unit))} (n : Nat) : ∀ (x : Int32) {h : PH} {H : Heap} {locs : List Loc} {cells slots : Nat} {ls : Array Slot}, (plo (fX7_parse_B32 x0) n x).1 h = some (z, hB) → Ext hB hE → Wd G ρ h0.length (sl h0) s.heap h H locs cells slots → lv_has ls 2 [(0, .ref (ρ x0)), (1, .int x)] → (kr : ∀ v : Int32, z = .inl v → ∀ (H : Heap) (locs : List Loc) (c1 s1 : Nat) (ls : Array Slot) (pc : Nat), Wd G ρ h0.length (sl h0) s.heap hB H locs c1 s1 → decode cX7_parse pc = .ok (.ireturn, 1) → W p l e (RM 4 88 h0 hE) s m args below meth c H locs c1 s1 Q (F0 m pc ls [.int v])) → (ke : ∀ y : Unit, z = .inr y → ∀ (H : Heap) (locs : List Loc) (c1 s1 : Nat) (ls : Array Slot), Wd G ρ h0.length (sl h0) s.heap hB H locs c1 s1 → lv_has ls 2 [] → W p l e (RM 4 88 h0 hE) s m args below meth c H locs c1 s1 Q (F0 m 71 ls [])) → W p l e (RM 4 88 h0 hE) s m args below meth c H locs cells slots Q (F0 m 32 ls []) := by
  induction n with
  | zero =>
    intro x h H locs cells slots ls hf
    rw [plo_0] at hf
    exact (pf_no hf).elim
  | succ n ih =>
    intro x h H locs cells slots ls hf hX hW hl kr ke
    rw [plo_s] at hf
    obtain ⟨r, h1, e1, hf⟩ := pb_some hf
    unfold fX7_parse_B32 at e1
    rw [frI_eq] at e1
    refine wX7_parse_B32 C e1 ((pext hf).tr hX) hW hl (fun y hr H locs c1 s1 ls hW hl => ?_) (fun v hr H locs c1 s1 ls pc hW hd => ?_) (fun y hr H locs c1 s1 ls hW hl => ?_)
    · subst hr
      exact ih y hf hX hW hl kr ke
    · subst hr
      obtain ⟨rfl, rfl⟩ := pp_some hf
      exact kr v rfl H locs c1 s1 ls pc hW hd
    · subst hr
      obtain ⟨rfl, rfl⟩ := pp_some hf
      exact ke y rfl H locs c1 s1 ls hW hl
set_option maxHeartbeats 4000000 in
set_option maxRecDepth 100000 in
theorem metX7_parse (l : Launch) (G : GG) (ρ : Nat → Nat) {z : Nat} {x0 : Nat} {h hE : PH} {v : Int32} (hf : (fX7_parse x0).1 h = some (v, hE)) : Met l yX7_parse (wsY yX7_parse cX7_parse 2 (some .int)) (RM 4 88 h hE) (va_Pc [.ref (ρ x0)] (PcB G ρ h z)) (QI G ρ v hE h.length z) (DC h hE) (DS h hE) (Af ρ h.length z) := by
  refine met_start (by decide) (Nat.le_of_ble_eq_true rfl) ?_
  intro p e s m below meth c ls hz C hW hl
  subst hz
  have C : Cx G "PairSymbols$Script" cX7_parse 2 (some .int) "parse" p s m _ meth c := C
  have hx := C.1
  have hb := C.2.1
  have hX : Ext hE hE := Ext.rf hE
  have hl : lv_has ls 2 [(0, .ref (ρ x0))] := hl
  have hW : Wd G ρ h.length (sl h) s.heap h s.heap [] 0 0 := hW
  unfold fX7_parse at hf
  obtain ⟨_, e0, hf⟩ := pb_rd (rd_chk _ _) hf
  refine lv_aload_n hx hb dX7_parse_0 rfl (lv_at hl 0 rfl) ?_
  refine lv_iconst (v := 0) hx hb dX7_parse_1 (by decide) ?_
  obtain ⟨_, h1, e1, hf⟩ := pb_some hf
  refine r_sI C hW e1 flX7_29 (Or.inl rfl) rfl dX7_parse_2 (fun H locs hW => ?_)
  refine lv_aload_n hx hb dX7_parse_5 rfl (lv_at hl 0 rfl) ?_
  refine lv_iconst (v := 0) hx hb dX7_parse_6 (by decide) ?_
  obtain ⟨_, h2, e2, hf⟩ := pb_some hf
  refine r_sI C hW e2 flX7_32 (Or.inl rfl) rfl dX7_parse_7 (fun H locs hW => ?_)
  refine lv_aload_n hx hb dX7_parse_10 rfl (lv_at hl 0 rfl) ?_
  obtain ⟨_, h3, e3, hf⟩ := pb_some hf
  obtain ⟨_, _, t4⟩ := tgX7_skipBlanks e3
  refine r_callv hW (pext e3) (run_V (b := x0) (As := []) (rest := []) C hW (metX7_skipBlanks l G ρ e3) ⟨rfl, rfl⟩ kcX7_skipBlanks (tq q_613 rfl) kiX7_skipBlanks ksX7_skipBlanks knX7_skipBlanks kdX7_skipBlanks t4 rfl rfl ⟨Nat.le_of_ble_eq_true rfl, Nat.le_of_ble_eq_true rfl⟩ hl.1 (Nat.le_of_ble_eq_true rfl) (room_of hW (pext e3) ((pext hf).tr hX)) dX7_parse_11 rfl) (fun H locs c1 s1 hW => ?_)
  refine lv_aload_n hx hb dX7_parse_14 rfl (lv_at hl 0 rfl) ?_
  obtain ⟨v5, e5, hf⟩ := pb_rd (rd_gI _ _ _) hf
  refine r_gI C hW e5 flX7_32 rfl dX7_parse_15 ?_
  refine lv_aload_n hx hb dX7_parse_18 rfl (lv_at hl 0 rfl) ?_
  obtain ⟨v6, e6, hf⟩ := pb_rd (rd_gI _ _ _) hf
  refine r_gI C hW e6 flX7_25 rfl dX7_parse_19 ?_
  refine lv_icmp_ne (tgt := 30) hx hb dX7_parse_22 (by decide) (fun c7 => ?_) (fun c7 => ?_)
  · rw [if_neg c7] at hf
    refine lv_iconst (v := 0) hx hb dX7_parse_30 (by decide) ?_
    refine lv_istore_n (lv' := [(1, .int (0 : Int32)), (0, .ref (ρ x0))]) hx hb dX7_parse_31 rfl hl (by decide) rfl (fun ls hl => ?_)
    obtain ⟨z18, h18, e18, hf⟩ := pb_some hf
    refine wX7_parse_L32 C fu _ e18 ((pext hf).tr hX) hW (lv_sub hl [1, 0] rfl) (fun v18 hz H locs c1 s1 ls pc hW hd => ?_) (fun z19 hz H locs c1 s1 ls hW hl => ?_)
    · subst hz
      obtain ⟨rfl, rfl⟩ := pp_some hf
      exact r_iret C hW hd
    · subst hz
      try dsimp only at hf
      refine lv_iconst (v := -1) hx hb dX7_parse_71 (by decide) ?_
      obtain ⟨rfl, rfl⟩ := pp_some hf
      exact r_iret C hW dX7_parse_72
  · rw [if_pos c7] at hf
    refine lv_aload_n hx hb dX7_parse_25 rfl (lv_at hl 0 rfl) ?_
    obtain ⟨v20, e20, hf⟩ := pb_rd (rd_gI _ _ _) hf
    refine r_gI C hW e20 flX7_32 rfl dX7_parse_26 ?_
    obtain ⟨rfl, rfl⟩ := pp_some hf
    exact r_iret C hW dX7_parse_29
