theorem flX10_231 : FL "PairSymbolsModel" 231 9 26 false := ⟨_, CT9, by decide, (tq q_701 rfl), rfl, fun _ => Or.inr trivial⟩
theorem dX10_divides_0 : decode cX10_divides 0 = .ok (.aload_n 0, 1) := by decide +kernel
theorem dX10_divides_1 : decode cX10_divides 1 = .ok (.getfield 63, 3) := by decide +kernel
theorem dX10_divides_4 : decode cX10_divides 4 = .ok (.bipush 16, 2) := by decide +kernel
theorem dX10_divides_6 : decode cX10_divides 6 = .ok (.iload_n 1, 1) := by decide +kernel
theorem dX10_divides_7 : decode cX10_divides 7 = .ok (.imul, 1) := by decide +kernel
theorem dX10_divides_8 : decode cX10_divides 8 = .ok (.iload_n 2, 1) := by decide +kernel
theorem dX10_divides_9 : decode cX10_divides 9 = .ok (.iadd, 1) := by decide +kernel
theorem dX10_divides_10 : decode cX10_divides 10 = .ok (.laload, 1) := by decide +kernel
theorem dX10_divides_11 : decode cX10_divides 11 = .ok (.lstore_n 3, 1) := by decide +kernel
theorem dX10_divides_12 : decode cX10_divides 12 = .ok (.aload_n 0, 1) := by decide +kernel
theorem dX10_divides_13 : decode cX10_divides 13 = .ok (.getfield 66, 3) := by decide +kernel
theorem dX10_divides_16 : decode cX10_divides 16 = .ok (.bipush 16, 2) := by decide +kernel
theorem dX10_divides_18 : decode cX10_divides 18 = .ok (.iload_n 1, 1) := by decide +kernel
theorem dX10_divides_19 : decode cX10_divides 19 = .ok (.imul, 1) := by decide +kernel
theorem dX10_divides_20 : decode cX10_divides 20 = .ok (.iload_n 2, 1) := by decide +kernel
theorem dX10_divides_21 : decode cX10_divides 21 = .ok (.iadd, 1) := by decide +kernel
theorem dX10_divides_22 : decode cX10_divides 22 = .ok (.laload, 1) := by decide +kernel
theorem dX10_divides_23 : decode cX10_divides 23 = .ok (.lstore 5, 2) := by decide +kernel
theorem dX10_divides_25 : decode cX10_divides 25 = .ok (.iconst 0, 1) := by decide +kernel
theorem dX10_divides_26 : decode cX10_divides 26 = .ok (.istore 7, 2) := by decide +kernel
theorem dX10_divides_28 : decode cX10_divides 28 = .ok (.iload 7, 2) := by decide +kernel
theorem dX10_divides_30 : decode cX10_divides 30 = .ok (.aload_n 0, 1) := by decide +kernel
theorem dX10_divides_31 : decode cX10_divides 31 = .ok (.getfield 192, 3) := by decide +kernel
theorem dX10_divides_34 : decode cX10_divides 34 = .ok (.if_icmp .ge 74, 3) := by decide +kernel
theorem dX10_divides_37 : decode cX10_divides 37 = .ok (.aload_n 0, 1) := by decide +kernel
theorem dX10_divides_38 : decode cX10_divides 38 = .ok (.aload_n 0, 1) := by decide +kernel
theorem dX10_divides_39 : decode cX10_divides 39 = .ok (.getfield 63, 3) := by decide +kernel
theorem dX10_divides_42 : decode cX10_divides 42 = .ok (.bipush 16, 2) := by decide +kernel
theorem dX10_divides_44 : decode cX10_divides 44 = .ok (.iload_n 1, 1) := by decide +kernel
theorem dX10_divides_45 : decode cX10_divides 45 = .ok (.imul, 1) := by decide +kernel
theorem dX10_divides_46 : decode cX10_divides 46 = .ok (.iload 7, 2) := by decide +kernel
theorem dX10_divides_48 : decode cX10_divides 48 = .ok (.iadd, 1) := by decide +kernel
theorem dX10_divides_49 : decode cX10_divides 49 = .ok (.laload, 1) := by decide +kernel
theorem dX10_divides_50 : decode cX10_divides 50 = .ok (.lload 5, 2) := by decide +kernel
theorem dX10_divides_52 : decode cX10_divides 52 = .ok (.lmul, 1) := by decide +kernel
theorem dX10_divides_53 : decode cX10_divides 53 = .ok (.aload_n 0, 1) := by decide +kernel
theorem dX10_divides_54 : decode cX10_divides 54 = .ok (.getfield 66, 3) := by decide +kernel
theorem dX10_divides_57 : decode cX10_divides 57 = .ok (.bipush 16, 2) := by decide +kernel
theorem dX10_divides_59 : decode cX10_divides 59 = .ok (.iload_n 1, 1) := by decide +kernel
theorem dX10_divides_60 : decode cX10_divides 60 = .ok (.imul, 1) := by decide +kernel
theorem dX10_divides_61 : decode cX10_divides 61 = .ok (.iload 7, 2) := by decide +kernel
theorem dX10_divides_63 : decode cX10_divides 63 = .ok (.iadd, 1) := by decide +kernel
theorem dX10_divides_64 : decode cX10_divides 64 = .ok (.laload, 1) := by decide +kernel
theorem dX10_divides_65 : decode cX10_divides 65 = .ok (.lload_n 3, 1) := by decide +kernel
theorem dX10_divides_66 : decode cX10_divides 66 = .ok (.lmul, 1) := by decide +kernel
theorem dX10_divides_67 : decode cX10_divides 67 = .ok (.invokevirtual 140, 3) := by decide +kernel
theorem dX10_divides_70 : decode cX10_divides 70 = .ok (.aload_n 0, 1) := by decide +kernel
theorem dX10_divides_71 : decode cX10_divides 71 = .ok (.getfield 63, 3) := by decide +kernel
theorem dX10_divides_74 : decode cX10_divides 74 = .ok (.bipush 16, 2) := by decide +kernel
theorem dX10_divides_76 : decode cX10_divides 76 = .ok (.iload_n 1, 1) := by decide +kernel
theorem dX10_divides_77 : decode cX10_divides 77 = .ok (.imul, 1) := by decide +kernel
theorem dX10_divides_78 : decode cX10_divides 78 = .ok (.iload 7, 2) := by decide +kernel
theorem dX10_divides_80 : decode cX10_divides 80 = .ok (.iadd, 1) := by decide +kernel
theorem dX10_divides_81 : decode cX10_divides 81 = .ok (.aload_n 0, 1) := by decide +kernel
theorem dX10_divides_82 : decode cX10_divides 82 = .ok (.getfield 133, 3) := by decide +kernel
theorem dX10_divides_85 : decode cX10_divides 85 = .ok (.lastore, 1) := by decide +kernel
theorem dX10_divides_86 : decode cX10_divides 86 = .ok (.aload_n 0, 1) := by decide +kernel
theorem dX10_divides_87 : decode cX10_divides 87 = .ok (.getfield 66, 3) := by decide +kernel
theorem dX10_divides_90 : decode cX10_divides 90 = .ok (.bipush 16, 2) := by decide +kernel
theorem dX10_divides_92 : decode cX10_divides 92 = .ok (.iload_n 1, 1) := by decide +kernel
theorem dX10_divides_93 : decode cX10_divides 93 = .ok (.imul, 1) := by decide +kernel
theorem dX10_divides_94 : decode cX10_divides 94 = .ok (.iload 7, 2) := by decide +kernel
theorem dX10_divides_96 : decode cX10_divides 96 = .ok (.iadd, 1) := by decide +kernel
theorem dX10_divides_97 : decode cX10_divides 97 = .ok (.aload_n 0, 1) := by decide +kernel
theorem dX10_divides_98 : decode cX10_divides 98 = .ok (.getfield 137, 3) := by decide +kernel
theorem dX10_divides_101 : decode cX10_divides 101 = .ok (.lastore, 1) := by decide +kernel
theorem dX10_divides_102 : decode cX10_divides 102 = .ok (.iinc 7 1, 3) := by decide +kernel
theorem dX10_divides_105 : decode cX10_divides 105 = .ok (.goto (-77), 3) := by decide +kernel
theorem dX10_divides_108 : decode cX10_divides 108 = .ok (.return_, 1) := by decide +kernel
theorem kcX10_divides : Cond.code yX10_divides cX10_divides 8 none ∈ tb := tq q_982 rfl
theorem knX10_divides : Cond.initialized yX10_divides.cls ∈ tb := (tq q_10 rfl)
theorem kdX10_divides : yX10_divides.cls ≠ "java/lang/invoke/MethodHandle" ∧ yX10_divides.cls ≠ "java/lang/invoke/VarHandle" ∧ (parseMethodDescriptor yX10_divides.desc).map (fun d => d.parameters.length) = some 2 := ⟨by decide +kernel, by decide +kernel, by decide +kernel⟩
theorem kiX10_divides : Cond.instanceMethod yX10_divides ∈ tb := (tq q_981 rfl)
theorem ksX10_divides : Cond.selects yX10_divides.cls yX10_divides yX10_divides ∈ tb := (tq z_54 rfl)
theorem tgX10_divides {x0 : Nat} {x1 : Int32} {x2 : Int32} {h : PH} {r : Unit × PH} (hf : (fX10_divides x0 x1 x2).1 h = some r) : ∃ n x, nth h x0 = some (9, n, x) := by
  obtain ⟨_, _, e, _⟩ := pb_some hf
  exact (chk_some e).2
set_option maxHeartbeats 4000000 in
set_option maxRecDepth 100000 in
theorem wX10_divides_B28 {p : Program} {l : Launch} {e : Env} {s : State} {m : MethodId} {args : Array Value} {below : List Frame} {meth : Method} {c : Code} {G : GG} {ρ : Nat → Nat} {h0 hE hB : PH} {Q : State → Prop} {x0 : Nat} {x1 : Int32} {x3 : Int64} {x5 : Int64} (C : Cx G "PairSymbolsModel" cX10_divides 8 none "divides" p s m args meth c) {x7 : Int32} {h : PH} {H : Heap} {locs : List Loc} {cells slots : Nat} {ls : Array Slot} {r : (Int32) ⊕ (Unit)} (hf : (fX10_divides_b28 x0 x1 x3 x5 x7).1 h = some (r, hB)) (hX : Ext hB hE) (hW : Wd G ρ h0.length (sl h0) s.heap h H locs cells slots) (hl : lv_has ls 8 [(0, .ref (ρ x0)), (1, .int x1), (3, .long x3), (5, .long x5), (7, .int x7)]) (kc : ∀ y : Int32, r = .inl y → ∀ (H : Heap) (locs : List Loc) (c1 s1 : Nat) (ls : Array Slot), Wd G ρ h0.length (sl h0) s.heap hB H locs c1 s1 → lv_has ls 8 [(0, .ref (ρ x0)), (1, .int x1), (3, .long x3), (5, .long x5), (7, .int y)] → W p l e (RM 2 55 h0 hE) s m args below meth c H locs c1 s1 Q (F0 m 28 ls [])) (ke : ∀ z : Unit, r = .inr z → ∀ (H : Heap) (locs : List Loc) (c1 s1 : Nat) (ls : Array Slot), Wd G ρ h0.length (sl h0) s.heap hB H locs c1 s1 → lv_has ls 8 [] → W p l e (RM 2 55 h0 hE) s m args below meth c H locs c1 s1 Q (F0 m 108 ls [])) : W p l e (RM 2 55 h0 hE) s m args below meth c H locs cells slots Q (F0 m 28 ls []) := by
  have hx := C.1
  have hb := C.2.1
  unfold fX10_divides_b28 at hf
  refine lv_iload hx hb dX10_divides_28 (lv_at hl 4 rfl) ?_
  refine lv_aload_n hx hb dX10_divides_30 rfl (lv_at hl 0 rfl) ?_
  obtain ⟨v5, e5, hf⟩ := pb_rd (rd_gI _ _ _) hf
  refine r_gI C hW e5 flX10_192 rfl dX10_divides_31 ?_
  refine lv_icmp_ge (tgt := 108) hx hb dX10_divides_34 (by decide) (fun c6 => ?_) (fun c6 => ?_)
  · rw [if_pos c6] at hf
    obtain ⟨rfl, rfl⟩ := pp_some hf
    exact ke _ rfl _ _ _ _ _ hW (lv_sub hl [] rfl)
  · rw [if_neg c6] at hf
    refine lv_aload_n hx hb dX10_divides_37 rfl (lv_at hl 0 rfl) ?_
    refine lv_aload_n hx hb dX10_divides_38 rfl (lv_at hl 0 rfl) ?_
    obtain ⟨v7, e7, hf⟩ := pb_rd (rd_gA _ _ _) hf
    refine r_gA C hW e7 flX10_63 rfl dX10_divides_39 ?_
    refine lv_bipush (v := 16) hx hb dX10_divides_42 (by decide) ?_
    refine lv_iload_n hx hb dX10_divides_44 rfl (lv_at hl 1 rfl) ?_
    refine lv_imul hx hb dX10_divides_45 ?_
    refine lv_iload hx hb dX10_divides_46 (lv_at hl 4 rfl) ?_
    refine lv_iadd hx hb dX10_divides_48 ?_
    obtain ⟨v8, e8, hf⟩ := pb_rd (rd_lJ _ _ _) hf
    refine r_lald C hW e8 dX10_divides_49 ?_
    refine lv_lload hx hb dX10_divides_50 (lv_at hl 3 rfl) ?_
    refine lv_lmul hx hb dX10_divides_52 ?_
    refine lv_aload_n hx hb dX10_divides_53 rfl (lv_at hl 0 rfl) ?_
    obtain ⟨v9, e9, hf⟩ := pb_rd (rd_gA _ _ _) hf
    refine r_gA C hW e9 flX10_66 rfl dX10_divides_54 ?_
    refine lv_bipush (v := 16) hx hb dX10_divides_57 (by decide) ?_
    refine lv_iload_n hx hb dX10_divides_59 rfl (lv_at hl 1 rfl) ?_
    refine lv_imul hx hb dX10_divides_60 ?_
    refine lv_iload hx hb dX10_divides_61 (lv_at hl 4 rfl) ?_
    refine lv_iadd hx hb dX10_divides_63 ?_
    obtain ⟨v10, e10, hf⟩ := pb_rd (rd_lJ _ _ _) hf
    refine r_lald C hW e10 dX10_divides_64 ?_
    refine lv_lload_n hx hb dX10_divides_65 rfl (lv_at hl 2 rfl) ?_
    refine lv_lmul hx hb dX10_divides_66 ?_
    obtain ⟨_, h11, e11, hf⟩ := pb_some hf
    obtain ⟨_, _, t12⟩ := tgX10_lowest e11
    refine r_callv hW (pext e11) (run_V (b := x0) (As := [.long (v8 * x5), .long (v10 * x3)]) (rest := []) C hW (metX10_lowest l G ρ e11) ⟨rfl, rfl⟩ kcX10_lowest (tq q_903 rfl) kiX10_lowest ksX10_lowest knX10_lowest kdX10_lowest t12 rfl rfl ⟨Nat.le_of_ble_eq_true rfl, Nat.le_of_ble_eq_true rfl⟩ hl.1 (Nat.le_of_ble_eq_true rfl) (room_of hW (pext e11) ((pext hf).tr hX)) dX10_divides_67 rfl) (fun H locs c1 s1 hW => ?_)
    refine lv_aload_n hx hb dX10_divides_70 rfl (lv_at hl 0 rfl) ?_
    obtain ⟨v13, e13, hf⟩ := pb_rd (rd_gA _ _ _) hf
    refine r_gA C hW e13 flX10_63 rfl dX10_divides_71 ?_
    refine lv_bipush (v := 16) hx hb dX10_divides_74 (by decide) ?_
    refine lv_iload_n hx hb dX10_divides_76 rfl (lv_at hl 1 rfl) ?_
    refine lv_imul hx hb dX10_divides_77 ?_
    refine lv_iload hx hb dX10_divides_78 (lv_at hl 4 rfl) ?_
    refine lv_iadd hx hb dX10_divides_80 ?_
    refine lv_aload_n hx hb dX10_divides_81 rfl (lv_at hl 0 rfl) ?_
    obtain ⟨v14, e14, hf⟩ := pb_rd (rd_gJ _ _ _) hf
    refine r_gJ C hW e14 flX10_133 rfl dX10_divides_82 ?_
    obtain ⟨_, h15, e15, hf⟩ := pb_some hf
    refine r_last C hW e15 dX10_divides_85 (fun H locs hW => ?_)
    refine lv_aload_n hx hb dX10_divides_86 rfl (lv_at hl 0 rfl) ?_
    obtain ⟨v16, e16, hf⟩ := pb_rd (rd_gA _ _ _) hf
    refine r_gA C hW e16 flX10_66 rfl dX10_divides_87 ?_
    refine lv_bipush (v := 16) hx hb dX10_divides_90 (by decide) ?_
    refine lv_iload_n hx hb dX10_divides_92 rfl (lv_at hl 1 rfl) ?_
    refine lv_imul hx hb dX10_divides_93 ?_
    refine lv_iload hx hb dX10_divides_94 (lv_at hl 4 rfl) ?_
    refine lv_iadd hx hb dX10_divides_96 ?_
    refine lv_aload_n hx hb dX10_divides_97 rfl (lv_at hl 0 rfl) ?_
    obtain ⟨v17, e17, hf⟩ := pb_rd (rd_gJ _ _ _) hf
    refine r_gJ C hW e17 flX10_137 rfl dX10_divides_98 ?_
    obtain ⟨_, h18, e18, hf⟩ := pb_some hf
    refine r_last C hW e18 dX10_divides_101 (fun H locs hW => ?_)
    refine lv_iinc (v := (x7 + 1)) (lv' := [(7, .int (x7 + 1)), (0, .ref (ρ x0)), (1, .int x1), (3, .long x3), (5, .long x5)]) hx hb dX10_divides_102 hl (k := 4) rfl rfl (by decide) rfl (fun ls hl => ?_)
    refine lv_goto (tgt := 28) hx hb dX10_divides_105 (by decide) ?_
    obtain ⟨rfl, rfl⟩ := pp_some hf
    exact kc _ rfl _ _ _ _ _ hW (lv_sub hl [1, 2, 3, 4, 0] rfl)
set_option maxHeartbeats 4000000 in
theorem wX10_divides_L28 {p : Program} {l : Launch} {e : Env} {s : State} {m : MethodId} {args : Array Value} {below : List Frame} {meth : Method} {c : Code} {G : GG} {ρ : Nat → Nat} {h0 hE hB : PH} {Q : State → Prop} {x0 : Nat} {x1 : Int32} {x3 : Int64} {x5 : Int64} (C : Cx G "PairSymbolsModel" cX10_divides 8 none "divides" p s m args meth c) {z : (Unit)} (n : Nat) : ∀ (x : Int32) {h : PH} {H : Heap} {locs : List Loc} {cells slots : Nat} {ls : Array Slot}, (plo (fX10_divides_B28 x0 x1 x3 x5) n x).1 h = some (z, hB) → Ext hB hE → Wd G ρ h0.length (sl h0) s.heap h H locs cells slots → lv_has ls 8 [(0, .ref (ρ x0)), (1, .int x1), (3, .long x3), (5, .long x5), (7, .int x)] → (ke : ∀ (H : Heap) (locs : List Loc) (c1 s1 : Nat) (ls : Array Slot), Wd G ρ h0.length (sl h0) s.heap hB H locs c1 s1 → lv_has ls 8 [] → W p l e (RM 2 55 h0 hE) s m args below meth c H locs c1 s1 Q (F0 m 108 ls [])) → W p l e (RM 2 55 h0 hE) s m args below meth c H locs cells slots Q (F0 m 28 ls []) := by
  induction n with
  | zero =>
    intro x h H locs cells slots ls hf
    rw [plo_0] at hf
    exact (pf_no hf).elim
  | succ n ih =>
    intro x h H locs cells slots ls hf hX hW hl ke
    rw [plo_s] at hf
    obtain ⟨r, h1, e1, hf⟩ := pb_some hf
    unfold fX10_divides_B28 at e1
    rw [frI_eq] at e1
    refine wX10_divides_B28 C e1 ((pext hf).tr hX) hW hl (fun y hr H locs c1 s1 ls hW hl => ?_) (fun y hr H locs c1 s1 ls hW hl => ?_)
    · subst hr
      exact ih y hf hX hW hl ke
    · subst hr
      obtain ⟨rfl, rfl⟩ := pp_some hf
      exact ke H locs c1 s1 ls hW hl
set_option maxHeartbeats 4000000 in
set_option maxRecDepth 100000 in
theorem metX10_divides (l : Launch) (G : GG) (ρ : Nat → Nat) {z : Nat} {x0 : Nat} {x1 : Int32} {x2 : Int32} {h hE : PH} {v : Unit} (hf : (fX10_divides x0 x1 x2).1 h = some (v, hE)) : Met l yX10_divides (wsY yX10_divides cX10_divides 8 none) (RM 2 55 h hE) (va_Pc [.ref (ρ x0), .int x1, .int x2] (PcB G ρ h z)) (QV G ρ hE h.length z) (DC h hE) (DS h hE) (Af ρ h.length z) := by
  refine met_start (by decide) (Nat.le_of_ble_eq_true rfl) ?_
  intro p e s m below meth c ls hz C hW hl
  subst hz
  have C : Cx G "PairSymbolsModel" cX10_divides 8 none "divides" p s m _ meth c := C
  have hx := C.1
  have hb := C.2.1
  have hX : Ext hE hE := Ext.rf hE
  have hl : lv_has ls 8 [(0, .ref (ρ x0)), (1, .int x1), (2, .int x2)] := hl
  have hW : Wd G ρ h.length (sl h) s.heap h s.heap [] 0 0 := hW
  unfold fX10_divides at hf
  obtain ⟨_, e0, hf⟩ := pb_rd (rd_chk _ _) hf
  refine lv_aload_n hx hb dX10_divides_0 rfl (lv_at hl 0 rfl) ?_
  obtain ⟨v1, e1, hf⟩ := pb_rd (rd_gA _ _ _) hf
  refine r_gA C hW e1 flX10_63 rfl dX10_divides_1 ?_
  refine lv_bipush (v := 16) hx hb dX10_divides_4 (by decide) ?_
  refine lv_iload_n hx hb dX10_divides_6 rfl (lv_at hl 1 rfl) ?_
  refine lv_imul hx hb dX10_divides_7 ?_
  refine lv_iload_n hx hb dX10_divides_8 rfl (lv_at hl 2 rfl) ?_
  refine lv_iadd hx hb dX10_divides_9 ?_
  obtain ⟨v2, e2, hf⟩ := pb_rd (rd_lJ _ _ _) hf
  refine r_lald C hW e2 dX10_divides_10 ?_
  refine lv_lstore_n (lv' := [(3, .long v2), (0, .ref (ρ x0)), (1, .int x1), (2, .int x2)]) hx hb dX10_divides_11 rfl hl (by decide) rfl (fun ls hl => ?_)
  refine lv_aload_n hx hb dX10_divides_12 rfl (lv_at hl 1 rfl) ?_
  obtain ⟨v3, e3, hf⟩ := pb_rd (rd_gA _ _ _) hf
  refine r_gA C hW e3 flX10_66 rfl dX10_divides_13 ?_
  refine lv_bipush (v := 16) hx hb dX10_divides_16 (by decide) ?_
  refine lv_iload_n hx hb dX10_divides_18 rfl (lv_at hl 2 rfl) ?_
  refine lv_imul hx hb dX10_divides_19 ?_
  refine lv_iload_n hx hb dX10_divides_20 rfl (lv_at hl 3 rfl) ?_
  refine lv_iadd hx hb dX10_divides_21 ?_
  obtain ⟨v4, e4, hf⟩ := pb_rd (rd_lJ _ _ _) hf
  refine r_lald C hW e4 dX10_divides_22 ?_
  refine lv_lstore (lv' := [(5, .long v4), (3, .long v2), (0, .ref (ρ x0)), (1, .int x1), (2, .int x2)]) hx hb dX10_divides_23 hl (by decide) rfl (fun ls hl => ?_)
  refine lv_iconst (v := 0) hx hb dX10_divides_25 (by decide) ?_
  refine lv_istore (lv' := [(7, .int (0 : Int32)), (5, .long v4), (3, .long v2), (0, .ref (ρ x0)), (1, .int x1), (2, .int x2)]) hx hb dX10_divides_26 hl (by decide) rfl (fun ls hl => ?_)
  obtain ⟨z19, h19, e19, hf⟩ := pb_some hf
  refine wX10_divides_L28 C fu _ e19 ((pext hf).tr hX) hW (lv_sub hl [3, 4, 2, 1, 0] rfl) (fun H locs c1 s1 ls hW hl => ?_)
  obtain ⟨rfl, rfl⟩ := pp_some hf
  exact r_vret C hW dX10_divides_108

theorem dX10_solvesBoundary_0 : decode cX10_solvesBoundary 0 = .ok (.iconst 0, 1) := by decide +kernel
theorem dX10_solvesBoundary_1 : decode cX10_solvesBoundary 1 = .ok (.istore_n 1, 1) := by decide +kernel
theorem dX10_solvesBoundary_2 : decode cX10_solvesBoundary 2 = .ok (.iconst 0, 1) := by decide +kernel
theorem dX10_solvesBoundary_3 : decode cX10_solvesBoundary 3 = .ok (.istore_n 2, 1) := by decide +kernel
theorem dX10_solvesBoundary_4 : decode cX10_solvesBoundary 4 = .ok (.iload_n 2, 1) := by decide +kernel
theorem dX10_solvesBoundary_5 : decode cX10_solvesBoundary 5 = .ok (.aload_n 0, 1) := by decide +kernel
theorem dX10_solvesBoundary_6 : decode cX10_solvesBoundary 6 = .ok (.getfield 162, 3) := by decide +kernel
theorem dX10_solvesBoundary_9 : decode cX10_solvesBoundary 9 = .ok (.if_icmp .ge 55, 3) := by decide +kernel
theorem dX10_solvesBoundary_12 : decode cX10_solvesBoundary 12 = .ok (.iconst 0, 1) := by decide +kernel
theorem dX10_solvesBoundary_13 : decode cX10_solvesBoundary 13 = .ok (.istore_n 3, 1) := by decide +kernel
theorem dX10_solvesBoundary_14 : decode cX10_solvesBoundary 14 = .ok (.iload_n 3, 1) := by decide +kernel
theorem dX10_solvesBoundary_15 : decode cX10_solvesBoundary 15 = .ok (.aload_n 0, 1) := by decide +kernel
theorem dX10_solvesBoundary_16 : decode cX10_solvesBoundary 16 = .ok (.getfield 192, 3) := by decide +kernel
theorem dX10_solvesBoundary_19 : decode cX10_solvesBoundary 19 = .ok (.if_icmp .ge 39, 3) := by decide +kernel
theorem dX10_solvesBoundary_22 : decode cX10_solvesBoundary 22 = .ok (.aload_n 0, 1) := by decide +kernel
theorem dX10_solvesBoundary_23 : decode cX10_solvesBoundary 23 = .ok (.getfield 63, 3) := by decide +kernel
theorem dX10_solvesBoundary_26 : decode cX10_solvesBoundary 26 = .ok (.bipush 16, 2) := by decide +kernel
theorem dX10_solvesBoundary_28 : decode cX10_solvesBoundary 28 = .ok (.iload_n 2, 1) := by decide +kernel
theorem dX10_solvesBoundary_29 : decode cX10_solvesBoundary 29 = .ok (.imul, 1) := by decide +kernel
theorem dX10_solvesBoundary_30 : decode cX10_solvesBoundary 30 = .ok (.iload_n 3, 1) := by decide +kernel
theorem dX10_solvesBoundary_31 : decode cX10_solvesBoundary 31 = .ok (.iadd, 1) := by decide +kernel
theorem dX10_solvesBoundary_32 : decode cX10_solvesBoundary 32 = .ok (.aload_n 0, 1) := by decide +kernel
theorem dX10_solvesBoundary_33 : decode cX10_solvesBoundary 33 = .ok (.iload_n 2, 1) := by decide +kernel
theorem dX10_solvesBoundary_34 : decode cX10_solvesBoundary 34 = .ok (.iload_n 3, 1) := by decide +kernel
theorem dX10_solvesBoundary_35 : decode cX10_solvesBoundary 35 = .ok (.invokevirtual 215, 3) := by decide +kernel
theorem dX10_solvesBoundary_38 : decode cX10_solvesBoundary 38 = .ok (.i2l, 1) := by decide +kernel
theorem dX10_solvesBoundary_39 : decode cX10_solvesBoundary 39 = .ok (.lastore, 1) := by decide +kernel
theorem dX10_solvesBoundary_40 : decode cX10_solvesBoundary 40 = .ok (.aload_n 0, 1) := by decide +kernel
theorem dX10_solvesBoundary_41 : decode cX10_solvesBoundary 41 = .ok (.getfield 66, 3) := by decide +kernel
theorem dX10_solvesBoundary_44 : decode cX10_solvesBoundary 44 = .ok (.bipush 16, 2) := by decide +kernel
theorem dX10_solvesBoundary_46 : decode cX10_solvesBoundary 46 = .ok (.iload_n 2, 1) := by decide +kernel
theorem dX10_solvesBoundary_47 : decode cX10_solvesBoundary 47 = .ok (.imul, 1) := by decide +kernel
theorem dX10_solvesBoundary_48 : decode cX10_solvesBoundary 48 = .ok (.iload_n 3, 1) := by decide +kernel
theorem dX10_solvesBoundary_49 : decode cX10_solvesBoundary 49 = .ok (.iadd, 1) := by decide +kernel
theorem dX10_solvesBoundary_50 : decode cX10_solvesBoundary 50 = .ok (.lconst 1, 1) := by decide +kernel
theorem dX10_solvesBoundary_51 : decode cX10_solvesBoundary 51 = .ok (.lastore, 1) := by decide +kernel
theorem dX10_solvesBoundary_52 : decode cX10_solvesBoundary 52 = .ok (.iinc 3 1, 3) := by decide +kernel
theorem dX10_solvesBoundary_55 : decode cX10_solvesBoundary 55 = .ok (.goto (-41), 3) := by decide +kernel
theorem dX10_solvesBoundary_58 : decode cX10_solvesBoundary 58 = .ok (.iinc 2 1, 3) := by decide +kernel
theorem dX10_solvesBoundary_61 : decode cX10_solvesBoundary 61 = .ok (.goto (-57), 3) := by decide +kernel
theorem dX10_solvesBoundary_64 : decode cX10_solvesBoundary 64 = .ok (.iconst 0, 1) := by decide +kernel
theorem dX10_solvesBoundary_65 : decode cX10_solvesBoundary 65 = .ok (.istore_n 2, 1) := by decide +kernel
theorem dX10_solvesBoundary_66 : decode cX10_solvesBoundary 66 = .ok (.iload_n 2, 1) := by decide +kernel
theorem dX10_solvesBoundary_67 : decode cX10_solvesBoundary 67 = .ok (.aload_n 0, 1) := by decide +kernel
theorem dX10_solvesBoundary_68 : decode cX10_solvesBoundary 68 = .ok (.getfield 192, 3) := by decide +kernel
theorem dX10_solvesBoundary_71 : decode cX10_solvesBoundary 71 = .ok (.if_icmp .ge 138, 3) := by decide +kernel
theorem dX10_solvesBoundary_74 : decode cX10_solvesBoundary 74 = .ok (.iload_n 1, 1) := by decide +kernel
theorem dX10_solvesBoundary_75 : decode cX10_solvesBoundary 75 = .ok (.istore_n 3, 1) := by decide +kernel
theorem dX10_solvesBoundary_76 : decode cX10_solvesBoundary 76 = .ok (.iload_n 3, 1) := by decide +kernel
theorem dX10_solvesBoundary_77 : decode cX10_solvesBoundary 77 = .ok (.aload_n 0, 1) := by decide +kernel
theorem dX10_solvesBoundary_78 : decode cX10_solvesBoundary 78 = .ok (.getfield 162, 3) := by decide +kernel
theorem dX10_solvesBoundary_81 : decode cX10_solvesBoundary 81 = .ok (.if_icmp .ge 25, 3) := by decide +kernel
theorem dX10_solvesBoundary_84 : decode cX10_solvesBoundary 84 = .ok (.aload_n 0, 1) := by decide +kernel
theorem dX10_solvesBoundary_85 : decode cX10_solvesBoundary 85 = .ok (.getfield 63, 3) := by decide +kernel
theorem dX10_solvesBoundary_88 : decode cX10_solvesBoundary 88 = .ok (.bipush 16, 2) := by decide +kernel
theorem dX10_solvesBoundary_90 : decode cX10_solvesBoundary 90 = .ok (.iload_n 3, 1) := by decide +kernel
theorem dX10_solvesBoundary_91 : decode cX10_solvesBoundary 91 = .ok (.imul, 1) := by decide +kernel
theorem dX10_solvesBoundary_92 : decode cX10_solvesBoundary 92 = .ok (.iload_n 2, 1) := by decide +kernel
theorem dX10_solvesBoundary_93 : decode cX10_solvesBoundary 93 = .ok (.iadd, 1) := by decide +kernel
theorem dX10_solvesBoundary_94 : decode cX10_solvesBoundary 94 = .ok (.laload, 1) := by decide +kernel
theorem dX10_solvesBoundary_95 : decode cX10_solvesBoundary 95 = .ok (.lconst 0, 1) := by decide +kernel
theorem dX10_solvesBoundary_96 : decode cX10_solvesBoundary 96 = .ok (.lcmp, 1) := by decide +kernel
theorem dX10_solvesBoundary_97 : decode cX10_solvesBoundary 97 = .ok (.ifCond .ne 9, 3) := by decide +kernel
theorem dX10_solvesBoundary_100 : decode cX10_solvesBoundary 100 = .ok (.iinc 3 1, 3) := by decide +kernel
theorem dX10_solvesBoundary_103 : decode cX10_solvesBoundary 103 = .ok (.goto (-27), 3) := by decide +kernel
theorem dX10_solvesBoundary_106 : decode cX10_solvesBoundary 106 = .ok (.aload_n 0, 1) := by decide +kernel
theorem dX10_solvesBoundary_107 : decode cX10_solvesBoundary 107 = .ok (.getfield 78, 3) := by decide +kernel
theorem dX10_solvesBoundary_110 : decode cX10_solvesBoundary 110 = .ok (.iload_n 2, 1) := by decide +kernel
theorem dX10_solvesBoundary_111 : decode cX10_solvesBoundary 111 = .ok (.iload_n 3, 1) := by decide +kernel
theorem dX10_solvesBoundary_112 : decode cX10_solvesBoundary 112 = .ok (.aload_n 0, 1) := by decide +kernel
theorem dX10_solvesBoundary_113 : decode cX10_solvesBoundary 113 = .ok (.getfield 162, 3) := by decide +kernel
theorem dX10_solvesBoundary_116 : decode cX10_solvesBoundary 116 = .ok (.if_icmp .ge 7, 3) := by decide +kernel
theorem dX10_solvesBoundary_119 : decode cX10_solvesBoundary 119 = .ok (.iload_n 1, 1) := by decide +kernel
theorem dX10_solvesBoundary_120 : decode cX10_solvesBoundary 120 = .ok (.goto 4, 3) := by decide +kernel
theorem dX10_solvesBoundary_123 : decode cX10_solvesBoundary 123 = .ok (.iconst (-1), 1) := by decide +kernel
theorem dX10_solvesBoundary_124 : decode cX10_solvesBoundary 124 = .ok (.iastore, 1) := by decide +kernel
theorem dX10_solvesBoundary_125 : decode cX10_solvesBoundary 125 = .ok (.iload_n 3, 1) := by decide +kernel
theorem dX10_solvesBoundary_126 : decode cX10_solvesBoundary 126 = .ok (.aload_n 0, 1) := by decide +kernel
theorem dX10_solvesBoundary_127 : decode cX10_solvesBoundary 127 = .ok (.getfield 162, 3) := by decide +kernel
theorem dX10_solvesBoundary_130 : decode cX10_solvesBoundary 130 = .ok (.if_icmp .ge 73, 3) := by decide +kernel
theorem dX10_solvesBoundary_133 : decode cX10_solvesBoundary 133 = .ok (.aload_n 0, 1) := by decide +kernel
theorem dX10_solvesBoundary_134 : decode cX10_solvesBoundary 134 = .ok (.iload_n 3, 1) := by decide +kernel
theorem dX10_solvesBoundary_135 : decode cX10_solvesBoundary 135 = .ok (.iload_n 1, 1) := by decide +kernel
theorem dX10_solvesBoundary_136 : decode cX10_solvesBoundary 136 = .ok (.invokevirtual 218, 3) := by decide +kernel
theorem dX10_solvesBoundary_139 : decode cX10_solvesBoundary 139 = .ok (.aload_n 0, 1) := by decide +kernel
theorem dX10_solvesBoundary_140 : decode cX10_solvesBoundary 140 = .ok (.iload_n 1, 1) := by decide +kernel
theorem dX10_solvesBoundary_141 : decode cX10_solvesBoundary 141 = .ok (.iload_n 2, 1) := by decide +kernel
theorem dX10_solvesBoundary_142 : decode cX10_solvesBoundary 142 = .ok (.invokevirtual 221, 3) := by decide +kernel
theorem dX10_solvesBoundary_145 : decode cX10_solvesBoundary 145 = .ok (.iconst 0, 1) := by decide +kernel
theorem dX10_solvesBoundary_146 : decode cX10_solvesBoundary 146 = .ok (.istore 4, 2) := by decide +kernel
theorem dX10_solvesBoundary_148 : decode cX10_solvesBoundary 148 = .ok (.iload 4, 2) := by decide +kernel
theorem dX10_solvesBoundary_150 : decode cX10_solvesBoundary 150 = .ok (.aload_n 0, 1) := by decide +kernel
theorem dX10_solvesBoundary_151 : decode cX10_solvesBoundary 151 = .ok (.getfield 162, 3) := by decide +kernel
theorem dX10_solvesBoundary_154 : decode cX10_solvesBoundary 154 = .ok (.if_icmp .ge 46, 3) := by decide +kernel
theorem dX10_solvesBoundary_157 : decode cX10_solvesBoundary 157 = .ok (.iload 4, 2) := by decide +kernel
theorem dX10_solvesBoundary_159 : decode cX10_solvesBoundary 159 = .ok (.iload_n 1, 1) := by decide +kernel
theorem dX10_solvesBoundary_160 : decode cX10_solvesBoundary 160 = .ok (.if_icmp .eq 34, 3) := by decide +kernel
theorem dX10_solvesBoundary_163 : decode cX10_solvesBoundary 163 = .ok (.aload_n 0, 1) := by decide +kernel
theorem dX10_solvesBoundary_164 : decode cX10_solvesBoundary 164 = .ok (.iload 4, 2) := by decide +kernel
theorem dX10_solvesBoundary_166 : decode cX10_solvesBoundary 166 = .ok (.iload_n 1, 1) := by decide +kernel
theorem dX10_solvesBoundary_167 : decode cX10_solvesBoundary 167 = .ok (.aload_n 0, 1) := by decide +kernel
theorem dX10_solvesBoundary_168 : decode cX10_solvesBoundary 168 = .ok (.getfield 63, 3) := by decide +kernel
theorem dX10_solvesBoundary_171 : decode cX10_solvesBoundary 171 = .ok (.bipush 16, 2) := by decide +kernel
theorem dX10_solvesBoundary_173 : decode cX10_solvesBoundary 173 = .ok (.iload 4, 2) := by decide +kernel
theorem dX10_solvesBoundary_175 : decode cX10_solvesBoundary 175 = .ok (.imul, 1) := by decide +kernel
theorem dX10_solvesBoundary_176 : decode cX10_solvesBoundary 176 = .ok (.iload_n 2, 1) := by decide +kernel
theorem dX10_solvesBoundary_177 : decode cX10_solvesBoundary 177 = .ok (.iadd, 1) := by decide +kernel
theorem dX10_solvesBoundary_178 : decode cX10_solvesBoundary 178 = .ok (.laload, 1) := by decide +kernel
theorem dX10_solvesBoundary_179 : decode cX10_solvesBoundary 179 = .ok (.aload_n 0, 1) := by decide +kernel
theorem dX10_solvesBoundary_180 : decode cX10_solvesBoundary 180 = .ok (.getfield 66, 3) := by decide +kernel
theorem dX10_solvesBoundary_183 : decode cX10_solvesBoundary 183 = .ok (.bipush 16, 2) := by decide +kernel
theorem dX10_solvesBoundary_185 : decode cX10_solvesBoundary 185 = .ok (.iload 4, 2) := by decide +kernel
theorem dX10_solvesBoundary_187 : decode cX10_solvesBoundary 187 = .ok (.imul, 1) := by decide +kernel
theorem dX10_solvesBoundary_188 : decode cX10_solvesBoundary 188 = .ok (.iload_n 2, 1) := by decide +kernel
theorem dX10_solvesBoundary_189 : decode cX10_solvesBoundary 189 = .ok (.iadd, 1) := by decide +kernel
theorem dX10_solvesBoundary_190 : decode cX10_solvesBoundary 190 = .ok (.laload, 1) := by decide +kernel
theorem dX10_solvesBoundary_191 : decode cX10_solvesBoundary 191 = .ok (.invokevirtual 224, 3) := by decide +kernel
theorem dX10_solvesBoundary_194 : decode cX10_solvesBoundary 194 = .ok (.iinc 4 1, 3) := by decide +kernel
theorem dX10_solvesBoundary_197 : decode cX10_solvesBoundary 197 = .ok (.goto (-49), 3) := by decide +kernel
theorem dX10_solvesBoundary_200 : decode cX10_solvesBoundary 200 = .ok (.iinc 1 1, 3) := by decide +kernel
theorem dX10_solvesBoundary_203 : decode cX10_solvesBoundary 203 = .ok (.iinc 2 1, 3) := by decide +kernel
theorem dX10_solvesBoundary_206 : decode cX10_solvesBoundary 206 = .ok (.goto (-140), 3) := by decide +kernel
theorem dX10_solvesBoundary_209 : decode cX10_solvesBoundary 209 = .ok (.return_, 1) := by decide +kernel
theorem kcX10_solvesBoundary : Cond.code yX10_solvesBoundary cX10_solvesBoundary 5 none ∈ tb := tq q_970 rfl
theorem knX10_solvesBoundary : Cond.initialized yX10_solvesBoundary.cls ∈ tb := (tq q_10 rfl)
theorem kdX10_solvesBoundary : yX10_solvesBoundary.cls ≠ "java/lang/invoke/MethodHandle" ∧ yX10_solvesBoundary.cls ≠ "java/lang/invoke/VarHandle" ∧ (parseMethodDescriptor yX10_solvesBoundary.desc).map (fun d => d.parameters.length) = some 0 := ⟨by decide +kernel, by decide +kernel, by decide +kernel⟩
theorem kiX10_solvesBoundary : Cond.instanceMethod yX10_solvesBoundary ∈ tb := (tq q_969 rfl)
theorem ksX10_solvesBoundary : Cond.selects yX10_solvesBoundary.cls yX10_solvesBoundary yX10_solvesBoundary ∈ tb := (tq z_51 rfl)
theorem tgX10_solvesBoundary {x0 : Nat} {h : PH} {r : Unit × PH} (hf : (fX10_solvesBoundary x0).1 h = some r) : ∃ n x, nth h x0 = some (9, n, x) := by
  obtain ⟨_, _, e, _⟩ := pb_some hf
  exact (chk_some e).2
set_option maxHeartbeats 4000000 in
set_option maxRecDepth 100000 in
theorem wX10_solvesBoundary_B14 {p : Program} {l : Launch} {e : Env} {s : State} {m : MethodId} {args : Array Value} {below : List Frame} {meth : Method} {c : Code} {G : GG} {ρ : Nat → Nat} {h0 hE hB : PH} {Q : State → Prop} {x0 : Nat} {x1 : Int32} {x2 : Int32} (C : Cx G "PairSymbolsModel" cX10_solvesBoundary 5 none "solvesBoundary" p s m args meth c) {x3 : Int32} {h : PH} {H : Heap} {locs : List Loc} {cells slots : Nat} {ls : Array Slot} {r : (Int32) ⊕ (Unit)} (hf : (fX10_solvesBoundary_b14 x0 x1 x2 x3).1 h = some (r, hB)) (hX : Ext hB hE) (hW : Wd G ρ h0.length (sl h0) s.heap h H locs cells slots) (hl : lv_has ls 5 [(0, .ref (ρ x0)), (1, .int x1), (2, .int x2), (3, .int x3)]) (kc : ∀ y : Int32, r = .inl y → ∀ (H : Heap) (locs : List Loc) (c1 s1 : Nat) (ls : Array Slot), Wd G ρ h0.length (sl h0) s.heap hB H locs c1 s1 → lv_has ls 5 [(0, .ref (ρ x0)), (1, .int x1), (2, .int x2), (3, .int y)] → W p l e (RM 5 142 h0 hE) s m args below meth c H locs c1 s1 Q (F0 m 14 ls [])) (ke : ∀ z : Unit, r = .inr z → ∀ (H : Heap) (locs : List Loc) (c1 s1 : Nat) (ls : Array Slot), Wd G ρ h0.length (sl h0) s.heap hB H locs c1 s1 → lv_has ls 5 [(0, .ref (ρ x0)), (1, .int x1), (2, .int x2)] → W p l e (RM 5 142 h0 hE) s m args below meth c H locs c1 s1 Q (F0 m 58 ls [])) : W p l e (RM 5 142 h0 hE) s m args below meth c H locs cells slots Q (F0 m 14 ls []) := by
  have hx := C.1
  have hb := C.2.1
  unfold fX10_solvesBoundary_b14 at hf
  refine lv_iload_n hx hb dX10_solvesBoundary_14 rfl (lv_at hl 3 rfl) ?_
  refine lv_aload_n hx hb dX10_solvesBoundary_15 rfl (lv_at hl 0 rfl) ?_
  obtain ⟨v3, e3, hf⟩ := pb_rd (rd_gI _ _ _) hf
  refine r_gI C hW e3 flX10_192 rfl dX10_solvesBoundary_16 ?_
  refine lv_icmp_ge (tgt := 58) hx hb dX10_solvesBoundary_19 (by decide) (fun c4 => ?_) (fun c4 => ?_)
  · rw [if_pos c4] at hf
    obtain ⟨rfl, rfl⟩ := pp_some hf
    exact ke _ rfl _ _ _ _ _ hW (lv_sub hl [0, 1, 2] rfl)
  · rw [if_neg c4] at hf
    refine lv_aload_n hx hb dX10_solvesBoundary_22 rfl (lv_at hl 0 rfl) ?_
    obtain ⟨v5, e5, hf⟩ := pb_rd (rd_gA _ _ _) hf
    refine r_gA C hW e5 flX10_63 rfl dX10_solvesBoundary_23 ?_
    refine lv_bipush (v := 16) hx hb dX10_solvesBoundary_26 (by decide) ?_
    refine lv_iload_n hx hb dX10_solvesBoundary_28 rfl (lv_at hl 2 rfl) ?_
    refine lv_imul hx hb dX10_solvesBoundary_29 ?_
    refine lv_iload_n hx hb dX10_solvesBoundary_30 rfl (lv_at hl 3 rfl) ?_
    refine lv_iadd hx hb dX10_solvesBoundary_31 ?_
    refine lv_aload_n hx hb dX10_solvesBoundary_32 rfl (lv_at hl 0 rfl) ?_
    refine lv_iload_n hx hb dX10_solvesBoundary_33 rfl (lv_at hl 2 rfl) ?_
    refine lv_iload_n hx hb dX10_solvesBoundary_34 rfl (lv_at hl 3 rfl) ?_
    obtain ⟨v6, h6, e6, hf⟩ := pb_some hf
    obtain ⟨_, _, t7⟩ := tgX10_boundaryOf e6
    refine r_calli hW (pext e6) (run_V (b := x0) (As := [.int x2, .int x3]) (rest := [.int (((16 : Int32) * x2) + x3), .ref (ρ v5)]) C hW (metX10_boundaryOf l G ρ e6) ⟨rfl, rfl⟩ kcX10_boundaryOf (tq q_971 rfl) kiX10_boundaryOf ksX10_boundaryOf knX10_boundaryOf kdX10_boundaryOf t7 rfl rfl ⟨Nat.le_of_ble_eq_true rfl, Nat.le_of_ble_eq_true rfl⟩ hl.1 (Nat.le_of_ble_eq_true rfl) (room_of hW (pext e6) ((pext hf).tr hX)) dX10_solvesBoundary_35 rfl) (fun H locs c1 s1 hW => ?_)
    refine lv_i2l (v := v6.toInt64) hx hb dX10_solvesBoundary_38 rfl ?_
    obtain ⟨_, h8, e8, hf⟩ := pb_some hf
    refine r_last C hW e8 dX10_solvesBoundary_39 (fun H locs hW => ?_)
    refine lv_aload_n hx hb dX10_solvesBoundary_40 rfl (lv_at hl 0 rfl) ?_
    obtain ⟨v9, e9, hf⟩ := pb_rd (rd_gA _ _ _) hf
    refine r_gA C hW e9 flX10_66 rfl dX10_solvesBoundary_41 ?_
    refine lv_bipush (v := 16) hx hb dX10_solvesBoundary_44 (by decide) ?_
    refine lv_iload_n hx hb dX10_solvesBoundary_46 rfl (lv_at hl 2 rfl) ?_
    refine lv_imul hx hb dX10_solvesBoundary_47 ?_
    refine lv_iload_n hx hb dX10_solvesBoundary_48 rfl (lv_at hl 3 rfl) ?_
    refine lv_iadd hx hb dX10_solvesBoundary_49 ?_
    refine lv_lconst (v := 1) hx hb dX10_solvesBoundary_50 (by decide) ?_
    obtain ⟨_, h10, e10, hf⟩ := pb_some hf
    refine r_last C hW e10 dX10_solvesBoundary_51 (fun H locs hW => ?_)
    refine lv_iinc (v := (x3 + 1)) (lv' := [(3, .int (x3 + 1)), (0, .ref (ρ x0)), (1, .int x1), (2, .int x2)]) hx hb dX10_solvesBoundary_52 hl (k := 3) rfl rfl (by decide) rfl (fun ls hl => ?_)
    refine lv_goto (tgt := 14) hx hb dX10_solvesBoundary_55 (by decide) ?_
    obtain ⟨rfl, rfl⟩ := pp_some hf
    exact kc _ rfl _ _ _ _ _ hW (lv_sub hl [1, 2, 3, 0] rfl)
set_option maxHeartbeats 4000000 in
theorem wX10_solvesBoundary_L14 {p : Program} {l : Launch} {e : Env} {s : State} {m : MethodId} {args : Array Value} {below : List Frame} {meth : Method} {c : Code} {G : GG} {ρ : Nat → Nat} {h0 hE hB : PH} {Q : State → Prop} {x0 : Nat} {x1 : Int32} {x2 : Int32} (C : Cx G "PairSymbolsModel" cX10_solvesBoundary 5 none "solvesBoundary" p s m args meth c) {z : (Unit)} (n : Nat) : ∀ (x : Int32) {h : PH} {H : Heap} {locs : List Loc} {cells slots : Nat} {ls : Array Slot}, (plo (fX10_solvesBoundary_B14 x0 x1 x2) n x).1 h = some (z, hB) → Ext hB hE → Wd G ρ h0.length (sl h0) s.heap h H locs cells slots → lv_has ls 5 [(0, .ref (ρ x0)), (1, .int x1), (2, .int x2), (3, .int x)] → (ke : ∀ (H : Heap) (locs : List Loc) (c1 s1 : Nat) (ls : Array Slot), Wd G ρ h0.length (sl h0) s.heap hB H locs c1 s1 → lv_has ls 5 [(0, .ref (ρ x0)), (1, .int x1), (2, .int x2)] → W p l e (RM 5 142 h0 hE) s m args below meth c H locs c1 s1 Q (F0 m 58 ls [])) → W p l e (RM 5 142 h0 hE) s m args below meth c H locs cells slots Q (F0 m 14 ls []) := by
  induction n with
  | zero =>
    intro x h H locs cells slots ls hf
    rw [plo_0] at hf
    exact (pf_no hf).elim
  | succ n ih =>
    intro x h H locs cells slots ls hf hX hW hl ke
    rw [plo_s] at hf
    obtain ⟨r, h1, e1, hf⟩ := pb_some hf
    unfold fX10_solvesBoundary_B14 at e1
    rw [frI_eq] at e1
    refine wX10_solvesBoundary_B14 C e1 ((pext hf).tr hX) hW hl (fun y hr H locs c1 s1 ls hW hl => ?_) (fun y hr H locs c1 s1 ls hW hl => ?_)
    · subst hr
      exact ih y hf hX hW hl ke
    · subst hr
      obtain ⟨rfl, rfl⟩ := pp_some hf
      exact ke H locs c1 s1 ls hW hl
set_option maxHeartbeats 4000000 in
set_option maxRecDepth 100000 in
theorem wX10_solvesBoundary_B4 {p : Program} {l : Launch} {e : Env} {s : State} {m : MethodId} {args : Array Value} {below : List Frame} {meth : Method} {c : Code} {G : GG} {ρ : Nat → Nat} {h0 hE hB : PH} {Q : State → Prop} {x0 : Nat} {x1 : Int32} (C : Cx G "PairSymbolsModel" cX10_solvesBoundary 5 none "solvesBoundary" p s m args meth c) {x2 : Int32} {h : PH} {H : Heap} {locs : List Loc} {cells slots : Nat} {ls : Array Slot} {r : (Int32) ⊕ (Unit)} (hf : (fX10_solvesBoundary_b4 x0 x1 x2).1 h = some (r, hB)) (hX : Ext hB hE) (hW : Wd G ρ h0.length (sl h0) s.heap h H locs cells slots) (hl : lv_has ls 5 [(0, .ref (ρ x0)), (1, .int x1), (2, .int x2)]) (kc : ∀ y : Int32, r = .inl y → ∀ (H : Heap) (locs : List Loc) (c1 s1 : Nat) (ls : Array Slot), Wd G ρ h0.length (sl h0) s.heap hB H locs c1 s1 → lv_has ls 5 [(0, .ref (ρ x0)), (1, .int x1), (2, .int y)] → W p l e (RM 5 142 h0 hE) s m args below meth c H locs c1 s1 Q (F0 m 4 ls [])) (ke : ∀ z : Unit, r = .inr z → ∀ (H : Heap) (locs : List Loc) (c1 s1 : Nat) (ls : Array Slot), Wd G ρ h0.length (sl h0) s.heap hB H locs c1 s1 → lv_has ls 5 [(0, .ref (ρ x0)), (1, .int x1)] → W p l e (RM 5 142 h0 hE) s m args below meth c H locs c1 s1 Q (F0 m 64 ls [])) : W p l e (RM 5 142 h0 hE) s m args below meth c H locs cells slots Q (F0 m 4 ls []) := by
  have hx := C.1
  have hb := C.2.1
  unfold fX10_solvesBoundary_b4 at hf
  refine lv_iload_n hx hb dX10_solvesBoundary_4 rfl (lv_at hl 2 rfl) ?_
  refine lv_aload_n hx hb dX10_solvesBoundary_5 rfl (lv_at hl 0 rfl) ?_
  obtain ⟨v1, e1, hf⟩ := pb_rd (rd_gI _ _ _) hf
  refine r_gI C hW e1 flX10_162 rfl dX10_solvesBoundary_6 ?_
  refine lv_icmp_ge (tgt := 64) hx hb dX10_solvesBoundary_9 (by decide) (fun c2 => ?_) (fun c2 => ?_)
  · rw [if_pos c2] at hf
    obtain ⟨rfl, rfl⟩ := pp_some hf
    exact ke _ rfl _ _ _ _ _ hW (lv_sub hl [0, 1] rfl)
  · rw [if_neg c2] at hf
    refine lv_iconst (v := 0) hx hb dX10_solvesBoundary_12 (by decide) ?_
    refine lv_istore_n (lv' := [(3, .int (0 : Int32)), (0, .ref (ρ x0)), (1, .int x1), (2, .int x2)]) hx hb dX10_solvesBoundary_13 rfl hl (by decide) rfl (fun ls hl => ?_)
    obtain ⟨z11, h11, e11, hf⟩ := pb_some hf
    refine wX10_solvesBoundary_L14 C fu _ e11 ((pext hf).tr hX) hW (lv_sub hl [1, 2, 3, 0] rfl) (fun H locs c1 s1 ls hW hl => ?_)
    refine lv_iinc (v := (x2 + 1)) (lv' := [(2, .int (x2 + 1)), (0, .ref (ρ x0)), (1, .int x1)]) hx hb dX10_solvesBoundary_58 hl (k := 2) rfl rfl (by decide) rfl (fun ls hl => ?_)
    refine lv_goto (tgt := 4) hx hb dX10_solvesBoundary_61 (by decide) ?_
    obtain ⟨rfl, rfl⟩ := pp_some hf
    exact kc _ rfl _ _ _ _ _ hW (lv_sub hl [1, 2, 0] rfl)
set_option maxHeartbeats 4000000 in
theorem wX10_solvesBoundary_L4 {p : Program} {l : Launch} {e : Env} {s : State} {m : MethodId} {args : Array Value} {below : List Frame} {meth : Method} {c : Code} {G : GG} {ρ : Nat → Nat} {h0 hE hB : PH} {Q : State → Prop} {x0 : Nat} {x1 : Int32} (C : Cx G "PairSymbolsModel" cX10_solvesBoundary 5 none "solvesBoundary" p s m args meth c) {z : (Unit)} (n : Nat) : ∀ (x : Int32) {h : PH} {H : Heap} {locs : List Loc} {cells slots : Nat} {ls : Array Slot}, (plo (fX10_solvesBoundary_B4 x0 x1) n x).1 h = some (z, hB) → Ext hB hE → Wd G ρ h0.length (sl h0) s.heap h H locs cells slots → lv_has ls 5 [(0, .ref (ρ x0)), (1, .int x1), (2, .int x)] → (ke : ∀ (H : Heap) (locs : List Loc) (c1 s1 : Nat) (ls : Array Slot), Wd G ρ h0.length (sl h0) s.heap hB H locs c1 s1 → lv_has ls 5 [(0, .ref (ρ x0)), (1, .int x1)] → W p l e (RM 5 142 h0 hE) s m args below meth c H locs c1 s1 Q (F0 m 64 ls [])) → W p l e (RM 5 142 h0 hE) s m args below meth c H locs cells slots Q (F0 m 4 ls []) := by
  induction n with
  | zero =>
    intro x h H locs cells slots ls hf
    rw [plo_0] at hf
    exact (pf_no hf).elim
  | succ n ih =>
    intro x h H locs cells slots ls hf hX hW hl ke
    rw [plo_s] at hf
    obtain ⟨r, h1, e1, hf⟩ := pb_some hf
    unfold fX10_solvesBoundary_B4 at e1
    rw [frI_eq] at e1
    refine wX10_solvesBoundary_B4 C e1 ((pext hf).tr hX) hW hl (fun y hr H locs c1 s1 ls hW hl => ?_) (fun y hr H locs c1 s1 ls hW hl => ?_)
    · subst hr
      exact ih y hf hX hW hl ke
    · subst hr
      obtain ⟨rfl, rfl⟩ := pp_some hf
      exact ke H locs c1 s1 ls hW hl
set_option maxHeartbeats 4000000 in
set_option maxRecDepth 100000 in
theorem wX10_solvesBoundary_B76 {p : Program} {l : Launch} {e : Env} {s : State} {m : MethodId} {args : Array Value} {below : List Frame} {meth : Method} {c : Code} {G : GG} {ρ : Nat → Nat} {h0 hE hB : PH} {Q : State → Prop} {x0 : Nat} {x1 : Int32} {x2 : Int32} (C : Cx G "PairSymbolsModel" cX10_solvesBoundary 5 none "solvesBoundary" p s m args meth c) {x3 : Int32} {h : PH} {H : Heap} {locs : List Loc} {cells slots : Nat} {ls : Array Slot} {r : (Int32) ⊕ (Int32)} (hf : (fX10_solvesBoundary_b76 x0 x1 x2 x3).1 h = some (r, hB)) (hX : Ext hB hE) (hW : Wd G ρ h0.length (sl h0) s.heap h H locs cells slots) (hl : lv_has ls 5 [(0, .ref (ρ x0)), (1, .int x1), (2, .int x2), (3, .int x3)]) (kc : ∀ y : Int32, r = .inl y → ∀ (H : Heap) (locs : List Loc) (c1 s1 : Nat) (ls : Array Slot), Wd G ρ h0.length (sl h0) s.heap hB H locs c1 s1 → lv_has ls 5 [(0, .ref (ρ x0)), (1, .int x1), (2, .int x2), (3, .int y)] → W p l e (RM 5 142 h0 hE) s m args below meth c H locs c1 s1 Q (F0 m 76 ls [])) (ke : ∀ z : Int32, r = .inr z → ∀ (H : Heap) (locs : List Loc) (c1 s1 : Nat) (ls : Array Slot), Wd G ρ h0.length (sl h0) s.heap hB H locs c1 s1 → lv_has ls 5 [(0, .ref (ρ x0)), (1, .int x1), (2, .int x2), (3, .int z)] → W p l e (RM 5 142 h0 hE) s m args below meth c H locs c1 s1 Q (F0 m 106 ls [])) : W p l e (RM 5 142 h0 hE) s m args below meth c H locs cells slots Q (F0 m 76 ls []) := by
  have hx := C.1
  have hb := C.2.1
  unfold fX10_solvesBoundary_b76 at hf
  refine lv_iload_n hx hb dX10_solvesBoundary_76 rfl (lv_at hl 3 rfl) ?_
  refine lv_aload_n hx hb dX10_solvesBoundary_77 rfl (lv_at hl 0 rfl) ?_
  obtain ⟨v15, e15, hf⟩ := pb_rd (rd_gI _ _ _) hf
  refine r_gI C hW e15 flX10_162 rfl dX10_solvesBoundary_78 ?_
  refine lv_icmp_ge (tgt := 106) hx hb dX10_solvesBoundary_81 (by decide) (fun c16 => ?_) (fun c16 => ?_)
  · rw [if_pos c16] at hf
    obtain ⟨rfl, rfl⟩ := pp_some hf
    exact ke _ rfl _ _ _ _ _ hW (lv_sub hl [0, 1, 2, 3] rfl)
  · rw [if_neg c16] at hf
    refine lv_aload_n hx hb dX10_solvesBoundary_84 rfl (lv_at hl 0 rfl) ?_
    obtain ⟨v17, e17, hf⟩ := pb_rd (rd_gA _ _ _) hf
    refine r_gA C hW e17 flX10_63 rfl dX10_solvesBoundary_85 ?_
    refine lv_bipush (v := 16) hx hb dX10_solvesBoundary_88 (by decide) ?_
    refine lv_iload_n hx hb dX10_solvesBoundary_90 rfl (lv_at hl 3 rfl) ?_
    refine lv_imul hx hb dX10_solvesBoundary_91 ?_
    refine lv_iload_n hx hb dX10_solvesBoundary_92 rfl (lv_at hl 2 rfl) ?_
    refine lv_iadd hx hb dX10_solvesBoundary_93 ?_
    obtain ⟨v18, e18, hf⟩ := pb_rd (rd_lJ _ _ _) hf
    refine r_lald C hW e18 dX10_solvesBoundary_94 ?_
    refine lv_lconst (v := 0) hx hb dX10_solvesBoundary_95 (by decide) ?_
    refine W.lcmp hx hb dX10_solvesBoundary_96 ?_
    refine lv_if_ne (tgt := 106) hx hb dX10_solvesBoundary_97 (by decide) (fun c19 => ?_) (fun c19 => ?_)
    · rw [if_neg c19] at hf
      obtain ⟨rfl, rfl⟩ := pp_some hf
      exact ke _ rfl _ _ _ _ _ hW (lv_sub hl [0, 1, 2, 3] rfl)
    · rw [if_pos c19] at hf
      refine lv_iinc (v := (x3 + 1)) (lv' := [(3, .int (x3 + 1)), (0, .ref (ρ x0)), (1, .int x1), (2, .int x2)]) hx hb dX10_solvesBoundary_100 hl (k := 3) rfl rfl (by decide) rfl (fun ls hl => ?_)
      refine lv_goto (tgt := 76) hx hb dX10_solvesBoundary_103 (by decide) ?_
      obtain ⟨rfl, rfl⟩ := pp_some hf
      exact kc _ rfl _ _ _ _ _ hW (lv_sub hl [1, 2, 3, 0] rfl)
set_option maxHeartbeats 4000000 in
theorem wX10_solvesBoundary_L76 {p : Program} {l : Launch} {e : Env} {s : State} {m : MethodId} {args : Array Value} {below : List Frame} {meth : Method} {c : Code} {G : GG} {ρ : Nat → Nat} {h0 hE hB : PH} {Q : State → Prop} {x0 : Nat} {x1 : Int32} {x2 : Int32} (C : Cx G "PairSymbolsModel" cX10_solvesBoundary 5 none "solvesBoundary" p s m args meth c) {z : (Int32)} (n : Nat) : ∀ (x : Int32) {h : PH} {H : Heap} {locs : List Loc} {cells slots : Nat} {ls : Array Slot}, (plo (fX10_solvesBoundary_B76 x0 x1 x2) n x).1 h = some (z, hB) → Ext hB hE → Wd G ρ h0.length (sl h0) s.heap h H locs cells slots → lv_has ls 5 [(0, .ref (ρ x0)), (1, .int x1), (2, .int x2), (3, .int x)] → (ke : ∀ (H : Heap) (locs : List Loc) (c1 s1 : Nat) (ls : Array Slot), Wd G ρ h0.length (sl h0) s.heap hB H locs c1 s1 → lv_has ls 5 [(0, .ref (ρ x0)), (1, .int x1), (2, .int x2), (3, .int z)] → W p l e (RM 5 142 h0 hE) s m args below meth c H locs c1 s1 Q (F0 m 106 ls [])) → W p l e (RM 5 142 h0 hE) s m args below meth c H locs cells slots Q (F0 m 76 ls []) := by
  induction n with
  | zero =>
    intro x h H locs cells slots ls hf
    rw [plo_0] at hf
    exact (pf_no hf).elim
  | succ n ih =>
    intro x h H locs cells slots ls hf hX hW hl ke
    rw [plo_s] at hf
    obtain ⟨r, h1, e1, hf⟩ := pb_some hf
    unfold fX10_solvesBoundary_B76 at e1
    rw [frI_eq] at e1
    refine wX10_solvesBoundary_B76 C e1 ((pext hf).tr hX) hW hl (fun y hr H locs c1 s1 ls hW hl => ?_) (fun y hr H locs c1 s1 ls hW hl => ?_)
    · subst hr
      exact ih y hf hX hW hl ke
    · subst hr
      obtain ⟨rfl, rfl⟩ := pp_some hf
      exact ke H locs c1 s1 ls hW hl
set_option maxHeartbeats 4000000 in
set_option maxRecDepth 100000 in
theorem wX10_solvesBoundary_B148 {p : Program} {l : Launch} {e : Env} {s : State} {m : MethodId} {args : Array Value} {below : List Frame} {meth : Method} {c : Code} {G : GG} {ρ : Nat → Nat} {h0 hE hB : PH} {Q : State → Prop} {x0 : Nat} {x1 : Int32} {x2 : Int32} (C : Cx G "PairSymbolsModel" cX10_solvesBoundary 5 none "solvesBoundary" p s m args meth c) {x4 : Int32} {h : PH} {H : Heap} {locs : List Loc} {cells slots : Nat} {ls : Array Slot} {r : (Int32) ⊕ (Unit)} (hf : (fX10_solvesBoundary_b148 x0 x1 x2 x4).1 h = some (r, hB)) (hX : Ext hB hE) (hW : Wd G ρ h0.length (sl h0) s.heap h H locs cells slots) (hl : lv_has ls 5 [(0, .ref (ρ x0)), (1, .int x1), (2, .int x2), (4, .int x4)]) (kc : ∀ y : Int32, r = .inl y → ∀ (H : Heap) (locs : List Loc) (c1 s1 : Nat) (ls : Array Slot), Wd G ρ h0.length (sl h0) s.heap hB H locs c1 s1 → lv_has ls 5 [(0, .ref (ρ x0)), (1, .int x1), (2, .int x2), (4, .int y)] → W p l e (RM 5 142 h0 hE) s m args below meth c H locs c1 s1 Q (F0 m 148 ls [])) (ke : ∀ z : Unit, r = .inr z → ∀ (H : Heap) (locs : List Loc) (c1 s1 : Nat) (ls : Array Slot), Wd G ρ h0.length (sl h0) s.heap hB H locs c1 s1 → lv_has ls 5 [(0, .ref (ρ x0)), (1, .int x1), (2, .int x2)] → W p l e (RM 5 142 h0 hE) s m args below meth c H locs c1 s1 Q (F0 m 200 ls [])) : W p l e (RM 5 142 h0 hE) s m args below meth c H locs cells slots Q (F0 m 148 ls []) := by
  have hx := C.1
  have hb := C.2.1
  unfold fX10_solvesBoundary_b148 at hf
  refine lv_iload hx hb dX10_solvesBoundary_148 (lv_at hl 3 rfl) ?_
  refine lv_aload_n hx hb dX10_solvesBoundary_150 rfl (lv_at hl 0 rfl) ?_
  obtain ⟨v31, e31, hf⟩ := pb_rd (rd_gI _ _ _) hf
  refine r_gI C hW e31 flX10_162 rfl dX10_solvesBoundary_151 ?_
  refine lv_icmp_ge (tgt := 200) hx hb dX10_solvesBoundary_154 (by decide) (fun c32 => ?_) (fun c32 => ?_)
  · rw [if_pos c32] at hf
    obtain ⟨rfl, rfl⟩ := pp_some hf
    exact ke _ rfl _ _ _ _ _ hW (lv_sub hl [0, 1, 2] rfl)
  · rw [if_neg c32] at hf
    refine lv_iload hx hb dX10_solvesBoundary_157 (lv_at hl 3 rfl) ?_
    refine lv_iload_n hx hb dX10_solvesBoundary_159 rfl (lv_at hl 1 rfl) ?_
    refine lv_icmp_eq (tgt := 194) hx hb dX10_solvesBoundary_160 (by decide) (fun c33 => ?_) (fun c33 => ?_)
    · rw [if_pos c33] at hf
      refine lv_iinc (v := (x4 + 1)) (lv' := [(4, .int (x4 + 1)), (0, .ref (ρ x0)), (1, .int x1), (2, .int x2)]) hx hb dX10_solvesBoundary_194 hl (k := 3) rfl rfl (by decide) rfl (fun ls hl => ?_)
      refine lv_goto (tgt := 148) hx hb dX10_solvesBoundary_197 (by decide) ?_
      obtain ⟨rfl, rfl⟩ := pp_some hf
      exact kc _ rfl _ _ _ _ _ hW (lv_sub hl [1, 2, 3, 0] rfl)
    · rw [if_neg c33] at hf
      refine lv_aload_n hx hb dX10_solvesBoundary_163 rfl (lv_at hl 0 rfl) ?_
      refine lv_iload hx hb dX10_solvesBoundary_164 (lv_at hl 3 rfl) ?_
      refine lv_iload_n hx hb dX10_solvesBoundary_166 rfl (lv_at hl 1 rfl) ?_
      refine lv_aload_n hx hb dX10_solvesBoundary_167 rfl (lv_at hl 0 rfl) ?_
      obtain ⟨v34, e34, hf⟩ := pb_rd (rd_gA _ _ _) hf
      refine r_gA C hW e34 flX10_63 rfl dX10_solvesBoundary_168 ?_
      refine lv_bipush (v := 16) hx hb dX10_solvesBoundary_171 (by decide) ?_
      refine lv_iload hx hb dX10_solvesBoundary_173 (lv_at hl 3 rfl) ?_
      refine lv_imul hx hb dX10_solvesBoundary_175 ?_
      refine lv_iload_n hx hb dX10_solvesBoundary_176 rfl (lv_at hl 2 rfl) ?_
      refine lv_iadd hx hb dX10_solvesBoundary_177 ?_
      obtain ⟨v35, e35, hf⟩ := pb_rd (rd_lJ _ _ _) hf
      refine r_lald C hW e35 dX10_solvesBoundary_178 ?_
      refine lv_aload_n hx hb dX10_solvesBoundary_179 rfl (lv_at hl 0 rfl) ?_
      obtain ⟨v36, e36, hf⟩ := pb_rd (rd_gA _ _ _) hf
      refine r_gA C hW e36 flX10_66 rfl dX10_solvesBoundary_180 ?_
      refine lv_bipush (v := 16) hx hb dX10_solvesBoundary_183 (by decide) ?_
      refine lv_iload hx hb dX10_solvesBoundary_185 (lv_at hl 3 rfl) ?_
      refine lv_imul hx hb dX10_solvesBoundary_187 ?_
      refine lv_iload_n hx hb dX10_solvesBoundary_188 rfl (lv_at hl 2 rfl) ?_
      refine lv_iadd hx hb dX10_solvesBoundary_189 ?_
      obtain ⟨v37, e37, hf⟩ := pb_rd (rd_lJ _ _ _) hf
      refine r_lald C hW e37 dX10_solvesBoundary_190 ?_
      obtain ⟨_, h38, e38, hf⟩ := pb_some hf
      obtain ⟨_, _, t39⟩ := tgX10_takesOff e38
      refine r_callv hW (pext e38) (run_V (b := x0) (As := [.int x4, .int x1, .long v35, .long v37]) (rest := []) C hW (metX10_takesOff l G ρ e38) ⟨rfl, rfl⟩ kcX10_takesOff (tq q_983 rfl) kiX10_takesOff ksX10_takesOff knX10_takesOff kdX10_takesOff t39 rfl rfl ⟨Nat.le_of_ble_eq_true rfl, Nat.le_of_ble_eq_true rfl⟩ hl.1 (Nat.le_of_ble_eq_true rfl) (room_of hW (pext e38) ((pext hf).tr hX)) dX10_solvesBoundary_191 rfl) (fun H locs c1 s1 hW => ?_)
      refine lv_iinc (v := (x4 + 1)) (lv' := [(4, .int (x4 + 1)), (0, .ref (ρ x0)), (1, .int x1), (2, .int x2)]) hx hb dX10_solvesBoundary_194 hl (k := 3) rfl rfl (by decide) rfl (fun ls hl => ?_)
      refine lv_goto (tgt := 148) hx hb dX10_solvesBoundary_197 (by decide) ?_
      obtain ⟨rfl, rfl⟩ := pp_some hf
      exact kc _ rfl _ _ _ _ _ hW (lv_sub hl [1, 2, 3, 0] rfl)
set_option maxHeartbeats 4000000 in
theorem wX10_solvesBoundary_L148 {p : Program} {l : Launch} {e : Env} {s : State} {m : MethodId} {args : Array Value} {below : List Frame} {meth : Method} {c : Code} {G : GG} {ρ : Nat → Nat} {h0 hE hB : PH} {Q : State → Prop} {x0 : Nat} {x1 : Int32} {x2 : Int32} (C : Cx G "PairSymbolsModel" cX10_solvesBoundary 5 none "solvesBoundary" p s m args meth c) {z : (Unit)} (n : Nat) : ∀ (x : Int32) {h : PH} {H : Heap} {locs : List Loc} {cells slots : Nat} {ls : Array Slot}, (plo (fX10_solvesBoundary_B148 x0 x1 x2) n x).1 h = some (z, hB) → Ext hB hE → Wd G ρ h0.length (sl h0) s.heap h H locs cells slots → lv_has ls 5 [(0, .ref (ρ x0)), (1, .int x1), (2, .int x2), (4, .int x)] → (ke : ∀ (H : Heap) (locs : List Loc) (c1 s1 : Nat) (ls : Array Slot), Wd G ρ h0.length (sl h0) s.heap hB H locs c1 s1 → lv_has ls 5 [(0, .ref (ρ x0)), (1, .int x1), (2, .int x2)] → W p l e (RM 5 142 h0 hE) s m args below meth c H locs c1 s1 Q (F0 m 200 ls [])) → W p l e (RM 5 142 h0 hE) s m args below meth c H locs cells slots Q (F0 m 148 ls []) := by
  induction n with
  | zero =>
    intro x h H locs cells slots ls hf
    rw [plo_0] at hf
    exact (pf_no hf).elim
  | succ n ih =>
    intro x h H locs cells slots ls hf hX hW hl ke
    rw [plo_s] at hf
    obtain ⟨r, h1, e1, hf⟩ := pb_some hf
    unfold fX10_solvesBoundary_B148 at e1
    rw [frI_eq] at e1
    refine wX10_solvesBoundary_B148 C e1 ((pext hf).tr hX) hW hl (fun y hr H locs c1 s1 ls hW hl => ?_) (fun y hr H locs c1 s1 ls hW hl => ?_)
    · subst hr
      exact ih y hf hX hW hl ke
    · subst hr
      obtain ⟨rfl, rfl⟩ := pp_some hf
      exact ke H locs c1 s1 ls hW hl
set_option maxHeartbeats 4000000 in
set_option maxRecDepth 100000 in
theorem wX10_solvesBoundary_B66 {p : Program} {l : Launch} {e : Env} {s : State} {m : MethodId} {args : Array Value} {below : List Frame} {meth : Method} {c : Code} {G : GG} {ρ : Nat → Nat} {h0 hE hB : PH} {Q : State → Prop} {x0 : Nat} (C : Cx G "PairSymbolsModel" cX10_solvesBoundary 5 none "solvesBoundary" p s m args meth c) {x1 : Int32} {x2 : Int32} {h : PH} {H : Heap} {locs : List Loc} {cells slots : Nat} {ls : Array Slot} {r : (Int32 × Int32) ⊕ (Unit)} (hf : (fX10_solvesBoundary_b66 x0 x1 x2).1 h = some (r, hB)) (hX : Ext hB hE) (hW : Wd G ρ h0.length (sl h0) s.heap h H locs cells slots) (hl : lv_has ls 5 [(0, .ref (ρ x0)), (1, .int x1), (2, .int x2)]) (kc : ∀ y : Int32 × Int32, r = .inl y → ∀ (H : Heap) (locs : List Loc) (c1 s1 : Nat) (ls : Array Slot), Wd G ρ h0.length (sl h0) s.heap hB H locs c1 s1 → lv_has ls 5 [(0, .ref (ρ x0)), (1, .int y.1), (2, .int y.2)] → W p l e (RM 5 142 h0 hE) s m args below meth c H locs c1 s1 Q (F0 m 66 ls [])) (ke : ∀ z : Unit, r = .inr z → ∀ (H : Heap) (locs : List Loc) (c1 s1 : Nat) (ls : Array Slot), Wd G ρ h0.length (sl h0) s.heap hB H locs c1 s1 → lv_has ls 5 [] → W p l e (RM 5 142 h0 hE) s m args below meth c H locs c1 s1 Q (F0 m 209 ls [])) : W p l e (RM 5 142 h0 hE) s m args below meth c H locs cells slots Q (F0 m 66 ls []) := by
  have hx := C.1
  have hb := C.2.1
  unfold fX10_solvesBoundary_b66 at hf
  refine lv_iload_n hx hb dX10_solvesBoundary_66 rfl (lv_at hl 2 rfl) ?_
  refine lv_aload_n hx hb dX10_solvesBoundary_67 rfl (lv_at hl 0 rfl) ?_
  obtain ⟨v13, e13, hf⟩ := pb_rd (rd_gI _ _ _) hf
  refine r_gI C hW e13 flX10_192 rfl dX10_solvesBoundary_68 ?_
  refine lv_icmp_ge (tgt := 209) hx hb dX10_solvesBoundary_71 (by decide) (fun c14 => ?_) (fun c14 => ?_)
  · rw [if_pos c14] at hf
    obtain ⟨rfl, rfl⟩ := pp_some hf
    exact ke _ rfl _ _ _ _ _ hW (lv_sub hl [] rfl)
  · rw [if_neg c14] at hf
    refine lv_iload_n hx hb dX10_solvesBoundary_74 rfl (lv_at hl 1 rfl) ?_
    refine lv_istore_n (lv' := [(3, .int x1), (0, .ref (ρ x0)), (1, .int x1), (2, .int x2)]) hx hb dX10_solvesBoundary_75 rfl hl (by decide) rfl (fun ls hl => ?_)
    obtain ⟨z20, h20, e20, hf⟩ := pb_some hf
    refine wX10_solvesBoundary_L76 C fu _ e20 ((pext hf).tr hX) hW (lv_sub hl [1, 2, 3, 0] rfl) (fun H locs c1 s1 ls hW hl => ?_)
    refine lv_aload_n hx hb dX10_solvesBoundary_106 rfl (lv_at hl 0 rfl) ?_
    obtain ⟨v21, e21, hf⟩ := pb_rd (rd_gA _ _ _) hf
    refine r_gA C hW e21 flX10_78 rfl dX10_solvesBoundary_107 ?_
    refine lv_iload_n hx hb dX10_solvesBoundary_110 rfl (lv_at hl 2 rfl) ?_
    refine lv_iload_n hx hb dX10_solvesBoundary_111 rfl (lv_at hl 3 rfl) ?_
    refine lv_aload_n hx hb dX10_solvesBoundary_112 rfl (lv_at hl 0 rfl) ?_
    obtain ⟨v22, e22, hf⟩ := pb_rd (rd_gI _ _ _) hf
    refine r_gI C hW e22 flX10_162 rfl dX10_solvesBoundary_113 ?_
    refine lv_icmp_ge (tgt := 123) hx hb dX10_solvesBoundary_116 (by decide) (fun c23 => ?_) (fun c23 => ?_)
    · rw [if_pos c23] at hf
      refine lv_iconst (v := -1) hx hb dX10_solvesBoundary_123 (by decide) ?_
      obtain ⟨_, h24, e24, hf⟩ := pb_some hf
      refine r_iast C hW e24 dX10_solvesBoundary_124 (fun H locs hW => ?_)
      refine lv_iload_n hx hb dX10_solvesBoundary_125 rfl (lv_at hl 3 rfl) ?_
      refine lv_aload_n hx hb dX10_solvesBoundary_126 rfl (lv_at hl 0 rfl) ?_
      obtain ⟨v25, e25, hf⟩ := pb_rd (rd_gI _ _ _) hf
      refine r_gI C hW e25 flX10_162 rfl dX10_solvesBoundary_127 ?_
      refine lv_icmp_ge (tgt := 203) hx hb dX10_solvesBoundary_130 (by decide) (fun c26 => ?_) (fun c26 => ?_)
      · rw [if_pos c26] at hf
        refine lv_iinc (v := (x2 + 1)) (lv' := [(2, .int (x2 + 1)), (0, .ref (ρ x0)), (1, .int x1), (3, .int z20)]) hx hb dX10_solvesBoundary_203 hl (k := 2) rfl rfl (by decide) rfl (fun ls hl => ?_)
        refine lv_goto (tgt := 66) hx hb dX10_solvesBoundary_206 (by decide) ?_
        obtain ⟨rfl, rfl⟩ := pp_some hf
        exact kc _ rfl _ _ _ _ _ hW (lv_sub hl [1, 2, 0] rfl)
      · rw [if_neg c26] at hf
        refine lv_aload_n hx hb dX10_solvesBoundary_133 rfl (lv_at hl 0 rfl) ?_
        refine lv_iload_n hx hb dX10_solvesBoundary_134 rfl (lv_at hl 3 rfl) ?_
        refine lv_iload_n hx hb dX10_solvesBoundary_135 rfl (lv_at hl 1 rfl) ?_
        obtain ⟨_, h27, e27, hf⟩ := pb_some hf
        obtain ⟨_, _, t28⟩ := tgX10_exchanges e27
        refine r_callv hW (pext e27) (run_V (b := x0) (As := [.int z20, .int x1]) (rest := []) C hW (metX10_exchanges l G ρ e27) ⟨rfl, rfl⟩ kcX10_exchanges (tq q_975 rfl) kiX10_exchanges ksX10_exchanges knX10_exchanges kdX10_exchanges t28 rfl rfl ⟨Nat.le_of_ble_eq_true rfl, Nat.le_of_ble_eq_true rfl⟩ hl.1 (Nat.le_of_ble_eq_true rfl) (room_of hW (pext e27) ((pext hf).tr hX)) dX10_solvesBoundary_136 rfl) (fun H locs c1 s1 hW => ?_)
        refine lv_aload_n hx hb dX10_solvesBoundary_139 rfl (lv_at hl 0 rfl) ?_
        refine lv_iload_n hx hb dX10_solvesBoundary_140 rfl (lv_at hl 1 rfl) ?_
        refine lv_iload_n hx hb dX10_solvesBoundary_141 rfl (lv_at hl 2 rfl) ?_
        obtain ⟨_, h29, e29, hf⟩ := pb_some hf
        obtain ⟨_, _, t30⟩ := tgX10_divides e29
        refine r_callv hW (pext e29) (run_V (b := x0) (As := [.int x1, .int x2]) (rest := []) C hW (metX10_divides l G ρ e29) ⟨rfl, rfl⟩ kcX10_divides (tq q_979 rfl) kiX10_divides ksX10_divides knX10_divides kdX10_divides t30 rfl rfl ⟨Nat.le_of_ble_eq_true rfl, Nat.le_of_ble_eq_true rfl⟩ hl.1 (Nat.le_of_ble_eq_true rfl) (room_of hW (pext e29) ((pext hf).tr hX)) dX10_solvesBoundary_142 rfl) (fun H locs c1 s1 hW => ?_)
        refine lv_iconst (v := 0) hx hb dX10_solvesBoundary_145 (by decide) ?_
        refine lv_istore (lv' := [(4, .int (0 : Int32)), (0, .ref (ρ x0)), (1, .int x1), (2, .int x2), (3, .int z20)]) hx hb dX10_solvesBoundary_146 hl (by decide) rfl (fun ls hl => ?_)
        obtain ⟨z40, h40, e40, hf⟩ := pb_some hf
        refine wX10_solvesBoundary_L148 C fu _ e40 ((pext hf).tr hX) hW (lv_sub hl [1, 2, 3, 0] rfl) (fun H locs c1 s1 ls hW hl => ?_)
        refine lv_iinc (v := (x1 + 1)) (lv' := [(1, .int (x1 + 1)), (0, .ref (ρ x0)), (2, .int x2)]) hx hb dX10_solvesBoundary_200 hl (k := 1) rfl rfl (by decide) rfl (fun ls hl => ?_)
        refine lv_iinc (v := (x2 + 1)) (lv' := [(2, .int (x2 + 1)), (1, .int (x1 + 1)), (0, .ref (ρ x0))]) hx hb dX10_solvesBoundary_203 hl (k := 2) rfl rfl (by decide) rfl (fun ls hl => ?_)
        refine lv_goto (tgt := 66) hx hb dX10_solvesBoundary_206 (by decide) ?_
        obtain ⟨rfl, rfl⟩ := pp_some hf
        exact kc _ rfl _ _ _ _ _ hW (lv_sub hl [2, 1, 0] rfl)
    · rw [if_neg c23] at hf
      refine lv_iload_n hx hb dX10_solvesBoundary_119 rfl (lv_at hl 1 rfl) ?_
      refine lv_goto (tgt := 124) hx hb dX10_solvesBoundary_120 (by decide) ?_
      obtain ⟨_, h41, e41, hf⟩ := pb_some hf
      refine r_iast C hW e41 dX10_solvesBoundary_124 (fun H locs hW => ?_)
      refine lv_iload_n hx hb dX10_solvesBoundary_125 rfl (lv_at hl 3 rfl) ?_
      refine lv_aload_n hx hb dX10_solvesBoundary_126 rfl (lv_at hl 0 rfl) ?_
      obtain ⟨v42, e42, hf⟩ := pb_rd (rd_gI _ _ _) hf
      refine r_gI C hW e42 flX10_162 rfl dX10_solvesBoundary_127 ?_
      refine lv_icmp_ge (tgt := 203) hx hb dX10_solvesBoundary_130 (by decide) (fun c43 => ?_) (fun c43 => ?_)
      · rw [if_pos c43] at hf
        refine lv_iinc (v := (x2 + 1)) (lv' := [(2, .int (x2 + 1)), (0, .ref (ρ x0)), (1, .int x1), (3, .int z20)]) hx hb dX10_solvesBoundary_203 hl (k := 2) rfl rfl (by decide) rfl (fun ls hl => ?_)
        refine lv_goto (tgt := 66) hx hb dX10_solvesBoundary_206 (by decide) ?_
        obtain ⟨rfl, rfl⟩ := pp_some hf
        exact kc _ rfl _ _ _ _ _ hW (lv_sub hl [1, 2, 0] rfl)
      · rw [if_neg c43] at hf
        refine lv_aload_n hx hb dX10_solvesBoundary_133 rfl (lv_at hl 0 rfl) ?_
        refine lv_iload_n hx hb dX10_solvesBoundary_134 rfl (lv_at hl 3 rfl) ?_
        refine lv_iload_n hx hb dX10_solvesBoundary_135 rfl (lv_at hl 1 rfl) ?_
        obtain ⟨_, h44, e44, hf⟩ := pb_some hf
        obtain ⟨_, _, t45⟩ := tgX10_exchanges e44
        refine r_callv hW (pext e44) (run_V (b := x0) (As := [.int z20, .int x1]) (rest := []) C hW (metX10_exchanges l G ρ e44) ⟨rfl, rfl⟩ kcX10_exchanges (tq q_975 rfl) kiX10_exchanges ksX10_exchanges knX10_exchanges kdX10_exchanges t45 rfl rfl ⟨Nat.le_of_ble_eq_true rfl, Nat.le_of_ble_eq_true rfl⟩ hl.1 (Nat.le_of_ble_eq_true rfl) (room_of hW (pext e44) ((pext hf).tr hX)) dX10_solvesBoundary_136 rfl) (fun H locs c1 s1 hW => ?_)
        refine lv_aload_n hx hb dX10_solvesBoundary_139 rfl (lv_at hl 0 rfl) ?_
        refine lv_iload_n hx hb dX10_solvesBoundary_140 rfl (lv_at hl 1 rfl) ?_
        refine lv_iload_n hx hb dX10_solvesBoundary_141 rfl (lv_at hl 2 rfl) ?_
        obtain ⟨_, h46, e46, hf⟩ := pb_some hf
        obtain ⟨_, _, t47⟩ := tgX10_divides e46
        refine r_callv hW (pext e46) (run_V (b := x0) (As := [.int x1, .int x2]) (rest := []) C hW (metX10_divides l G ρ e46) ⟨rfl, rfl⟩ kcX10_divides (tq q_979 rfl) kiX10_divides ksX10_divides knX10_divides kdX10_divides t47 rfl rfl ⟨Nat.le_of_ble_eq_true rfl, Nat.le_of_ble_eq_true rfl⟩ hl.1 (Nat.le_of_ble_eq_true rfl) (room_of hW (pext e46) ((pext hf).tr hX)) dX10_solvesBoundary_142 rfl) (fun H locs c1 s1 hW => ?_)
        refine lv_iconst (v := 0) hx hb dX10_solvesBoundary_145 (by decide) ?_
        refine lv_istore (lv' := [(4, .int (0 : Int32)), (0, .ref (ρ x0)), (1, .int x1), (2, .int x2), (3, .int z20)]) hx hb dX10_solvesBoundary_146 hl (by decide) rfl (fun ls hl => ?_)
        obtain ⟨z48, h48, e48, hf⟩ := pb_some hf
        refine wX10_solvesBoundary_L148 C fu _ e48 ((pext hf).tr hX) hW (lv_sub hl [1, 2, 3, 0] rfl) (fun H locs c1 s1 ls hW hl => ?_)
        refine lv_iinc (v := (x1 + 1)) (lv' := [(1, .int (x1 + 1)), (0, .ref (ρ x0)), (2, .int x2)]) hx hb dX10_solvesBoundary_200 hl (k := 1) rfl rfl (by decide) rfl (fun ls hl => ?_)
        refine lv_iinc (v := (x2 + 1)) (lv' := [(2, .int (x2 + 1)), (1, .int (x1 + 1)), (0, .ref (ρ x0))]) hx hb dX10_solvesBoundary_203 hl (k := 2) rfl rfl (by decide) rfl (fun ls hl => ?_)
        refine lv_goto (tgt := 66) hx hb dX10_solvesBoundary_206 (by decide) ?_
        obtain ⟨rfl, rfl⟩ := pp_some hf
        exact kc _ rfl _ _ _ _ _ hW (lv_sub hl [2, 1, 0] rfl)
set_option maxHeartbeats 4000000 in
theorem wX10_solvesBoundary_L66 {p : Program} {l : Launch} {e : Env} {s : State} {m : MethodId} {args : Array Value} {below : List Frame} {meth : Method} {c : Code} {G : GG} {ρ : Nat → Nat} {h0 hE hB : PH} {Q : State → Prop} {x0 : Nat} (C : Cx G "PairSymbolsModel" cX10_solvesBoundary 5 none "solvesBoundary" p s m args meth c) {z : (Unit)} (n : Nat) : ∀ (x : Int32 × Int32) {h : PH} {H : Heap} {locs : List Loc} {cells slots : Nat} {ls : Array Slot}, (plo (fX10_solvesBoundary_B66 x0) n x).1 h = some (z, hB) → Ext hB hE → Wd G ρ h0.length (sl h0) s.heap h H locs cells slots → lv_has ls 5 [(0, .ref (ρ x0)), (1, .int x.1), (2, .int x.2)] → (ke : ∀ (H : Heap) (locs : List Loc) (c1 s1 : Nat) (ls : Array Slot), Wd G ρ h0.length (sl h0) s.heap hB H locs c1 s1 → lv_has ls 5 [] → W p l e (RM 5 142 h0 hE) s m args below meth c H locs c1 s1 Q (F0 m 209 ls [])) → W p l e (RM 5 142 h0 hE) s m args below meth c H locs cells slots Q (F0 m 66 ls []) := by
  induction n with
  | zero =>
    intro x h H locs cells slots ls hf
    rw [plo_0] at hf
    exact (pf_no hf).elim
  | succ n ih =>
    intro x h H locs cells slots ls hf hX hW hl ke
    rw [plo_s] at hf
    obtain ⟨r, h1, e1, hf⟩ := pb_some hf
    unfold fX10_solvesBoundary_B66 at e1
    rw [frI_eq, frI_eq] at e1
    refine wX10_solvesBoundary_B66 C e1 ((pext hf).tr hX) hW hl (fun y hr H locs c1 s1 ls hW hl => ?_) (fun y hr H locs c1 s1 ls hW hl => ?_)
    · subst hr
      exact ih y hf hX hW hl ke
    · subst hr
      obtain ⟨rfl, rfl⟩ := pp_some hf
      exact ke H locs c1 s1 ls hW hl
set_option maxHeartbeats 4000000 in
set_option maxRecDepth 100000 in
theorem metX10_solvesBoundary (l : Launch) (G : GG) (ρ : Nat → Nat) {z : Nat} {x0 : Nat} {h hE : PH} {v : Unit} (hf : (fX10_solvesBoundary x0).1 h = some (v, hE)) : Met l yX10_solvesBoundary (wsY yX10_solvesBoundary cX10_solvesBoundary 5 none) (RM 5 142 h hE) (va_Pc [.ref (ρ x0)] (PcB G ρ h z)) (QV G ρ hE h.length z) (DC h hE) (DS h hE) (Af ρ h.length z) := by
  refine met_start (by decide) (Nat.le_of_ble_eq_true rfl) ?_
  intro p e s m below meth c ls hz C hW hl
  subst hz
  have C : Cx G "PairSymbolsModel" cX10_solvesBoundary 5 none "solvesBoundary" p s m _ meth c := C
  have hx := C.1
  have hb := C.2.1
  have hX : Ext hE hE := Ext.rf hE
  have hl : lv_has ls 5 [(0, .ref (ρ x0))] := hl
  have hW : Wd G ρ h.length (sl h) s.heap h s.heap [] 0 0 := hW
  unfold fX10_solvesBoundary at hf
  obtain ⟨_, e0, hf⟩ := pb_rd (rd_chk _ _) hf
  refine lv_iconst (v := 0) hx hb dX10_solvesBoundary_0 (by decide) ?_
  refine lv_istore_n (lv' := [(1, .int (0 : Int32)), (0, .ref (ρ x0))]) hx hb dX10_solvesBoundary_1 rfl hl (by decide) rfl (fun ls hl => ?_)
  refine lv_iconst (v := 0) hx hb dX10_solvesBoundary_2 (by decide) ?_
  refine lv_istore_n (lv' := [(2, .int (0 : Int32)), (1, .int (0 : Int32)), (0, .ref (ρ x0))]) hx hb dX10_solvesBoundary_3 rfl hl (by decide) rfl (fun ls hl => ?_)
  obtain ⟨z12, h12, e12, hf⟩ := pb_some hf
  refine wX10_solvesBoundary_L4 C fu _ e12 ((pext hf).tr hX) hW (lv_sub hl [2, 1, 0] rfl) (fun H locs c1 s1 ls hW hl => ?_)
  refine lv_iconst (v := 0) hx hb dX10_solvesBoundary_64 (by decide) ?_
  refine lv_istore_n (lv' := [(2, .int (0 : Int32)), (0, .ref (ρ x0)), (1, .int (0 : Int32))]) hx hb dX10_solvesBoundary_65 rfl hl (by decide) rfl (fun ls hl => ?_)
  obtain ⟨z49, h49, e49, hf⟩ := pb_some hf
  refine wX10_solvesBoundary_L66 C fu _ e49 ((pext hf).tr hX) hW (lv_sub hl [1, 2, 0] rfl) (fun H locs c1 s1 ls hW hl => ?_)
  obtain ⟨rfl, rfl⟩ := pp_some hf
  exact r_vret C hW dX10_solvesBoundary_209

theorem dX10_laysCuspidals_0 : decode cX10_laysCuspidals 0 = .ok (.aload_n 0, 1) := by decide +kernel
theorem dX10_laysCuspidals_1 : decode cX10_laysCuspidals 1 = .ok (.invokevirtual 228, 3) := by decide +kernel
theorem dX10_laysCuspidals_4 : decode cX10_laysCuspidals 4 = .ok (.aload_n 0, 1) := by decide +kernel
theorem dX10_laysCuspidals_5 : decode cX10_laysCuspidals 5 = .ok (.iconst 0, 1) := by decide +kernel
theorem dX10_laysCuspidals_6 : decode cX10_laysCuspidals 6 = .ok (.putfield 231, 3) := by decide +kernel
theorem dX10_laysCuspidals_9 : decode cX10_laysCuspidals 9 = .ok (.iconst 0, 1) := by decide +kernel
theorem dX10_laysCuspidals_10 : decode cX10_laysCuspidals 10 = .ok (.istore_n 1, 1) := by decide +kernel
theorem dX10_laysCuspidals_11 : decode cX10_laysCuspidals 11 = .ok (.iload_n 1, 1) := by decide +kernel
theorem dX10_laysCuspidals_12 : decode cX10_laysCuspidals 12 = .ok (.aload_n 0, 1) := by decide +kernel
theorem dX10_laysCuspidals_13 : decode cX10_laysCuspidals 13 = .ok (.getfield 192, 3) := by decide +kernel
theorem dX10_laysCuspidals_16 : decode cX10_laysCuspidals 16 = .ok (.if_icmp .ge 147, 3) := by decide +kernel
theorem dX10_laysCuspidals_19 : decode cX10_laysCuspidals 19 = .ok (.aload_n 0, 1) := by decide +kernel
theorem dX10_laysCuspidals_20 : decode cX10_laysCuspidals 20 = .ok (.getfield 78, 3) := by decide +kernel
theorem dX10_laysCuspidals_23 : decode cX10_laysCuspidals 23 = .ok (.iload_n 1, 1) := by decide +kernel
theorem dX10_laysCuspidals_24 : decode cX10_laysCuspidals 24 = .ok (.iaload, 1) := by decide +kernel
theorem dX10_laysCuspidals_25 : decode cX10_laysCuspidals 25 = .ok (.iconst (-1), 1) := by decide +kernel
theorem dX10_laysCuspidals_26 : decode cX10_laysCuspidals 26 = .ok (.if_icmp .ne 131, 3) := by decide +kernel
theorem dX10_laysCuspidals_29 : decode cX10_laysCuspidals 29 = .ok (.aload_n 0, 1) := by decide +kernel
theorem dX10_laysCuspidals_30 : decode cX10_laysCuspidals 30 = .ok (.getfield 69, 3) := by decide +kernel
theorem dX10_laysCuspidals_33 : decode cX10_laysCuspidals 33 = .ok (.aload_n 0, 1) := by decide +kernel
theorem dX10_laysCuspidals_34 : decode cX10_laysCuspidals 34 = .ok (.getfield 231, 3) := by decide +kernel
theorem dX10_laysCuspidals_37 : decode cX10_laysCuspidals 37 = .ok (.iload_n 1, 1) := by decide +kernel
theorem dX10_laysCuspidals_38 : decode cX10_laysCuspidals 38 = .ok (.iastore, 1) := by decide +kernel
theorem dX10_laysCuspidals_39 : decode cX10_laysCuspidals 39 = .ok (.iconst 0, 1) := by decide +kernel
theorem dX10_laysCuspidals_40 : decode cX10_laysCuspidals 40 = .ok (.istore_n 2, 1) := by decide +kernel
theorem dX10_laysCuspidals_41 : decode cX10_laysCuspidals 41 = .ok (.iload_n 2, 1) := by decide +kernel
theorem dX10_laysCuspidals_42 : decode cX10_laysCuspidals 42 = .ok (.aload_n 0, 1) := by decide +kernel
theorem dX10_laysCuspidals_43 : decode cX10_laysCuspidals 43 = .ok (.getfield 192, 3) := by decide +kernel
theorem dX10_laysCuspidals_46 : decode cX10_laysCuspidals 46 = .ok (.if_icmp .ge 101, 3) := by decide +kernel
theorem dX10_laysCuspidals_49 : decode cX10_laysCuspidals 49 = .ok (.bipush 16, 2) := by decide +kernel
theorem dX10_laysCuspidals_51 : decode cX10_laysCuspidals 51 = .ok (.aload_n 0, 1) := by decide +kernel
theorem dX10_laysCuspidals_52 : decode cX10_laysCuspidals 52 = .ok (.getfield 231, 3) := by decide +kernel
theorem dX10_laysCuspidals_55 : decode cX10_laysCuspidals 55 = .ok (.imul, 1) := by decide +kernel
theorem dX10_laysCuspidals_56 : decode cX10_laysCuspidals 56 = .ok (.iload_n 2, 1) := by decide +kernel
theorem dX10_laysCuspidals_57 : decode cX10_laysCuspidals 57 = .ok (.iadd, 1) := by decide +kernel
theorem dX10_laysCuspidals_58 : decode cX10_laysCuspidals 58 = .ok (.istore_n 3, 1) := by decide +kernel
theorem dX10_laysCuspidals_59 : decode cX10_laysCuspidals 59 = .ok (.aload_n 0, 1) := by decide +kernel
theorem dX10_laysCuspidals_60 : decode cX10_laysCuspidals 60 = .ok (.getfield 72, 3) := by decide +kernel
theorem dX10_laysCuspidals_63 : decode cX10_laysCuspidals 63 = .ok (.iload_n 3, 1) := by decide +kernel
theorem dX10_laysCuspidals_64 : decode cX10_laysCuspidals 64 = .ok (.aload_n 0, 1) := by decide +kernel
theorem dX10_laysCuspidals_65 : decode cX10_laysCuspidals 65 = .ok (.getfield 78, 3) := by decide +kernel
theorem dX10_laysCuspidals_68 : decode cX10_laysCuspidals 68 = .ok (.iload_n 2, 1) := by decide +kernel
theorem dX10_laysCuspidals_69 : decode cX10_laysCuspidals 69 = .ok (.iaload, 1) := by decide +kernel
theorem dX10_laysCuspidals_70 : decode cX10_laysCuspidals 70 = .ok (.iconst (-1), 1) := by decide +kernel
theorem dX10_laysCuspidals_71 : decode cX10_laysCuspidals 71 = .ok (.if_icmp .ne 16, 3) := by decide +kernel
theorem dX10_laysCuspidals_74 : decode cX10_laysCuspidals 74 = .ok (.iload_n 2, 1) := by decide +kernel
theorem dX10_laysCuspidals_75 : decode cX10_laysCuspidals 75 = .ok (.iload_n 1, 1) := by decide +kernel
theorem dX10_laysCuspidals_76 : decode cX10_laysCuspidals 76 = .ok (.if_icmp .ne 7, 3) := by decide +kernel
theorem dX10_laysCuspidals_79 : decode cX10_laysCuspidals 79 = .ok (.lconst 1, 1) := by decide +kernel
theorem dX10_laysCuspidals_80 : decode cX10_laysCuspidals 80 = .ok (.goto 24, 3) := by decide +kernel
theorem dX10_laysCuspidals_83 : decode cX10_laysCuspidals 83 = .ok (.lconst 0, 1) := by decide +kernel
theorem dX10_laysCuspidals_84 : decode cX10_laysCuspidals 84 = .ok (.goto 20, 3) := by decide +kernel
theorem dX10_laysCuspidals_87 : decode cX10_laysCuspidals 87 = .ok (.aload_n 0, 1) := by decide +kernel
theorem dX10_laysCuspidals_88 : decode cX10_laysCuspidals 88 = .ok (.getfield 63, 3) := by decide +kernel
theorem dX10_laysCuspidals_91 : decode cX10_laysCuspidals 91 = .ok (.bipush 16, 2) := by decide +kernel
theorem dX10_laysCuspidals_93 : decode cX10_laysCuspidals 93 = .ok (.aload_n 0, 1) := by decide +kernel
theorem dX10_laysCuspidals_94 : decode cX10_laysCuspidals 94 = .ok (.getfield 78, 3) := by decide +kernel
theorem dX10_laysCuspidals_97 : decode cX10_laysCuspidals 97 = .ok (.iload_n 2, 1) := by decide +kernel
theorem dX10_laysCuspidals_98 : decode cX10_laysCuspidals 98 = .ok (.iaload, 1) := by decide +kernel
theorem dX10_laysCuspidals_99 : decode cX10_laysCuspidals 99 = .ok (.imul, 1) := by decide +kernel
theorem dX10_laysCuspidals_100 : decode cX10_laysCuspidals 100 = .ok (.iload_n 1, 1) := by decide +kernel
theorem dX10_laysCuspidals_101 : decode cX10_laysCuspidals 101 = .ok (.iadd, 1) := by decide +kernel
theorem dX10_laysCuspidals_102 : decode cX10_laysCuspidals 102 = .ok (.laload, 1) := by decide +kernel
theorem dX10_laysCuspidals_103 : decode cX10_laysCuspidals 103 = .ok (.lneg, 1) := by decide +kernel
theorem dX10_laysCuspidals_104 : decode cX10_laysCuspidals 104 = .ok (.lastore, 1) := by decide +kernel
theorem dX10_laysCuspidals_105 : decode cX10_laysCuspidals 105 = .ok (.aload_n 0, 1) := by decide +kernel
theorem dX10_laysCuspidals_106 : decode cX10_laysCuspidals 106 = .ok (.getfield 75, 3) := by decide +kernel
theorem dX10_laysCuspidals_109 : decode cX10_laysCuspidals 109 = .ok (.iload_n 3, 1) := by decide +kernel
theorem dX10_laysCuspidals_110 : decode cX10_laysCuspidals 110 = .ok (.aload_n 0, 1) := by decide +kernel
theorem dX10_laysCuspidals_111 : decode cX10_laysCuspidals 111 = .ok (.getfield 78, 3) := by decide +kernel
theorem dX10_laysCuspidals_114 : decode cX10_laysCuspidals 114 = .ok (.iload_n 2, 1) := by decide +kernel
theorem dX10_laysCuspidals_115 : decode cX10_laysCuspidals 115 = .ok (.iaload, 1) := by decide +kernel
theorem dX10_laysCuspidals_116 : decode cX10_laysCuspidals 116 = .ok (.iconst (-1), 1) := by decide +kernel
theorem dX10_laysCuspidals_117 : decode cX10_laysCuspidals 117 = .ok (.if_icmp .ne 7, 3) := by decide +kernel
theorem dX10_laysCuspidals_120 : decode cX10_laysCuspidals 120 = .ok (.lconst 1, 1) := by decide +kernel
theorem dX10_laysCuspidals_121 : decode cX10_laysCuspidals 121 = .ok (.goto 19, 3) := by decide +kernel
theorem dX10_laysCuspidals_124 : decode cX10_laysCuspidals 124 = .ok (.aload_n 0, 1) := by decide +kernel
theorem dX10_laysCuspidals_125 : decode cX10_laysCuspidals 125 = .ok (.getfield 66, 3) := by decide +kernel
theorem dX10_laysCuspidals_128 : decode cX10_laysCuspidals 128 = .ok (.bipush 16, 2) := by decide +kernel
theorem dX10_laysCuspidals_130 : decode cX10_laysCuspidals 130 = .ok (.aload_n 0, 1) := by decide +kernel
theorem dX10_laysCuspidals_131 : decode cX10_laysCuspidals 131 = .ok (.getfield 78, 3) := by decide +kernel
theorem dX10_laysCuspidals_134 : decode cX10_laysCuspidals 134 = .ok (.iload_n 2, 1) := by decide +kernel
theorem dX10_laysCuspidals_135 : decode cX10_laysCuspidals 135 = .ok (.iaload, 1) := by decide +kernel
theorem dX10_laysCuspidals_136 : decode cX10_laysCuspidals 136 = .ok (.imul, 1) := by decide +kernel
theorem dX10_laysCuspidals_137 : decode cX10_laysCuspidals 137 = .ok (.iload_n 1, 1) := by decide +kernel
theorem dX10_laysCuspidals_138 : decode cX10_laysCuspidals 138 = .ok (.iadd, 1) := by decide +kernel
theorem dX10_laysCuspidals_139 : decode cX10_laysCuspidals 139 = .ok (.laload, 1) := by decide +kernel
theorem dX10_laysCuspidals_140 : decode cX10_laysCuspidals 140 = .ok (.lastore, 1) := by decide +kernel
theorem dX10_laysCuspidals_141 : decode cX10_laysCuspidals 141 = .ok (.iinc 2 1, 3) := by decide +kernel
theorem dX10_laysCuspidals_144 : decode cX10_laysCuspidals 144 = .ok (.goto (-103), 3) := by decide +kernel
theorem dX10_laysCuspidals_147 : decode cX10_laysCuspidals 147 = .ok (.aload_n 0, 1) := by decide +kernel
theorem dX10_laysCuspidals_148 : decode cX10_laysCuspidals 148 = .ok (.dup, 1) := by decide +kernel
theorem dX10_laysCuspidals_149 : decode cX10_laysCuspidals 149 = .ok (.getfield 231, 3) := by decide +kernel
theorem dX10_laysCuspidals_152 : decode cX10_laysCuspidals 152 = .ok (.iconst 1, 1) := by decide +kernel
theorem dX10_laysCuspidals_153 : decode cX10_laysCuspidals 153 = .ok (.iadd, 1) := by decide +kernel
theorem dX10_laysCuspidals_154 : decode cX10_laysCuspidals 154 = .ok (.putfield 231, 3) := by decide +kernel
theorem dX10_laysCuspidals_157 : decode cX10_laysCuspidals 157 = .ok (.iinc 1 1, 3) := by decide +kernel
theorem dX10_laysCuspidals_160 : decode cX10_laysCuspidals 160 = .ok (.goto (-149), 3) := by decide +kernel
theorem dX10_laysCuspidals_163 : decode cX10_laysCuspidals 163 = .ok (.return_, 1) := by decide +kernel
theorem kcX10_laysCuspidals : Cond.code yX10_laysCuspidals cX10_laysCuspidals 4 none ∈ tb := tq q_966 rfl
theorem knX10_laysCuspidals : Cond.initialized yX10_laysCuspidals.cls ∈ tb := (tq q_10 rfl)
theorem kdX10_laysCuspidals : yX10_laysCuspidals.cls ≠ "java/lang/invoke/MethodHandle" ∧ yX10_laysCuspidals.cls ≠ "java/lang/invoke/VarHandle" ∧ (parseMethodDescriptor yX10_laysCuspidals.desc).map (fun d => d.parameters.length) = some 0 := ⟨by decide +kernel, by decide +kernel, by decide +kernel⟩
theorem kiX10_laysCuspidals : Cond.instanceMethod yX10_laysCuspidals ∈ tb := (tq q_965 rfl)
theorem ksX10_laysCuspidals : Cond.selects yX10_laysCuspidals.cls yX10_laysCuspidals yX10_laysCuspidals ∈ tb := (tq z_50 rfl)
theorem tgX10_laysCuspidals {x0 : Nat} {h : PH} {r : Unit × PH} (hf : (fX10_laysCuspidals x0).1 h = some r) : ∃ n x, nth h x0 = some (9, n, x) := by
  obtain ⟨_, _, e, _⟩ := pb_some hf
  exact (chk_some e).2
set_option maxHeartbeats 4000000 in
set_option maxRecDepth 100000 in
theorem wX10_laysCuspidals_B41 {p : Program} {l : Launch} {e : Env} {s : State} {m : MethodId} {args : Array Value} {below : List Frame} {meth : Method} {c : Code} {G : GG} {ρ : Nat → Nat} {h0 hE hB : PH} {Q : State → Prop} {x0 : Nat} {x1 : Int32} (C : Cx G "PairSymbolsModel" cX10_laysCuspidals 4 none "laysCuspidals" p s m args meth c) {x2 : Int32} {h : PH} {H : Heap} {locs : List Loc} {cells slots : Nat} {ls : Array Slot} {r : (Int32) ⊕ (Unit)} (hf : (fX10_laysCuspidals_b41 x0 x1 x2).1 h = some (r, hB)) (hX : Ext hB hE) (hW : Wd G ρ h0.length (sl h0) s.heap h H locs cells slots) (hl : lv_has ls 4 [(0, .ref (ρ x0)), (1, .int x1), (2, .int x2)]) (kc : ∀ y : Int32, r = .inl y → ∀ (H : Heap) (locs : List Loc) (c1 s1 : Nat) (ls : Array Slot), Wd G ρ h0.length (sl h0) s.heap hB H locs c1 s1 → lv_has ls 4 [(0, .ref (ρ x0)), (1, .int x1), (2, .int y)] → W p l e (RM 6 166 h0 hE) s m args below meth c H locs c1 s1 Q (F0 m 41 ls [])) (ke : ∀ z : Unit, r = .inr z → ∀ (H : Heap) (locs : List Loc) (c1 s1 : Nat) (ls : Array Slot), Wd G ρ h0.length (sl h0) s.heap hB H locs c1 s1 → lv_has ls 4 [(0, .ref (ρ x0)), (1, .int x1)] → W p l e (RM 6 166 h0 hE) s m args below meth c H locs c1 s1 Q (F0 m 147 ls [])) : W p l e (RM 6 166 h0 hE) s m args below meth c H locs cells slots Q (F0 m 41 ls []) := by
  have hx := C.1
  have hb := C.2.1
  unfold fX10_laysCuspidals_b41 at hf
  refine lv_iload_n hx hb dX10_laysCuspidals_41 rfl (lv_at hl 2 rfl) ?_
  refine lv_aload_n hx hb dX10_laysCuspidals_42 rfl (lv_at hl 0 rfl) ?_
  obtain ⟨v12, e12, hf⟩ := pb_rd (rd_gI _ _ _) hf
  refine r_gI C hW e12 flX10_192 rfl dX10_laysCuspidals_43 ?_
  refine lv_icmp_ge (tgt := 147) hx hb dX10_laysCuspidals_46 (by decide) (fun c13 => ?_) (fun c13 => ?_)
  · rw [if_pos c13] at hf
    obtain ⟨rfl, rfl⟩ := pp_some hf
    exact ke _ rfl _ _ _ _ _ hW (lv_sub hl [0, 1] rfl)
  · rw [if_neg c13] at hf
    refine lv_bipush (v := 16) hx hb dX10_laysCuspidals_49 (by decide) ?_
    refine lv_aload_n hx hb dX10_laysCuspidals_51 rfl (lv_at hl 0 rfl) ?_
    obtain ⟨v14, e14, hf⟩ := pb_rd (rd_gI _ _ _) hf
    refine r_gI C hW e14 flX10_231 rfl dX10_laysCuspidals_52 ?_
    refine lv_imul hx hb dX10_laysCuspidals_55 ?_
    refine lv_iload_n hx hb dX10_laysCuspidals_56 rfl (lv_at hl 2 rfl) ?_
    refine lv_iadd hx hb dX10_laysCuspidals_57 ?_
    refine lv_istore_n (lv' := [(3, .int (((16 : Int32) * v14) + x2)), (0, .ref (ρ x0)), (1, .int x1), (2, .int x2)]) hx hb dX10_laysCuspidals_58 rfl hl (by decide) rfl (fun ls hl => ?_)
    refine lv_aload_n hx hb dX10_laysCuspidals_59 rfl (lv_at hl 1 rfl) ?_
    obtain ⟨v15, e15, hf⟩ := pb_rd (rd_gA _ _ _) hf
    refine r_gA C hW e15 flX10_72 rfl dX10_laysCuspidals_60 ?_
    refine lv_iload_n hx hb dX10_laysCuspidals_63 rfl (lv_at hl 0 rfl) ?_
    refine lv_aload_n hx hb dX10_laysCuspidals_64 rfl (lv_at hl 1 rfl) ?_
    obtain ⟨v16, e16, hf⟩ := pb_rd (rd_gA _ _ _) hf
    refine r_gA C hW e16 flX10_78 rfl dX10_laysCuspidals_65 ?_
    refine lv_iload_n hx hb dX10_laysCuspidals_68 rfl (lv_at hl 3 rfl) ?_
    obtain ⟨v17, e17, hf⟩ := pb_rd (rd_lI _ _ _) hf
    refine r_iald C hW e17 dX10_laysCuspidals_69 ?_
    refine lv_iconst (v := -1) hx hb dX10_laysCuspidals_70 (by decide) ?_
    refine lv_icmp_ne (tgt := 87) hx hb dX10_laysCuspidals_71 (by decide) (fun c18 => ?_) (fun c18 => ?_)
    · rw [if_neg c18] at hf
      refine lv_aload_n hx hb dX10_laysCuspidals_87 rfl (lv_at hl 1 rfl) ?_
      obtain ⟨v19, e19, hf⟩ := pb_rd (rd_gA _ _ _) hf
      refine r_gA C hW e19 flX10_63 rfl dX10_laysCuspidals_88 ?_
      refine lv_bipush (v := 16) hx hb dX10_laysCuspidals_91 (by decide) ?_
      refine lv_aload_n hx hb dX10_laysCuspidals_93 rfl (lv_at hl 1 rfl) ?_
      obtain ⟨v20, e20, hf⟩ := pb_rd (rd_gA _ _ _) hf
      refine r_gA C hW e20 flX10_78 rfl dX10_laysCuspidals_94 ?_
      refine lv_iload_n hx hb dX10_laysCuspidals_97 rfl (lv_at hl 3 rfl) ?_
      obtain ⟨v21, e21, hf⟩ := pb_rd (rd_lI _ _ _) hf
      refine r_iald C hW e21 dX10_laysCuspidals_98 ?_
      refine lv_imul hx hb dX10_laysCuspidals_99 ?_
      refine lv_iload_n hx hb dX10_laysCuspidals_100 rfl (lv_at hl 2 rfl) ?_
      refine lv_iadd hx hb dX10_laysCuspidals_101 ?_
      obtain ⟨v22, e22, hf⟩ := pb_rd (rd_lJ _ _ _) hf
      refine r_lald C hW e22 dX10_laysCuspidals_102 ?_
      refine lv_lneg hx hb dX10_laysCuspidals_103 ?_
      obtain ⟨_, h23, e23, hf⟩ := pb_some hf
      refine r_last C hW e23 dX10_laysCuspidals_104 (fun H locs hW => ?_)
      refine lv_aload_n hx hb dX10_laysCuspidals_105 rfl (lv_at hl 1 rfl) ?_
      obtain ⟨v24, e24, hf⟩ := pb_rd (rd_gA _ _ _) hf
      refine r_gA C hW e24 flX10_75 rfl dX10_laysCuspidals_106 ?_
      refine lv_iload_n hx hb dX10_laysCuspidals_109 rfl (lv_at hl 0 rfl) ?_
      refine lv_aload_n hx hb dX10_laysCuspidals_110 rfl (lv_at hl 1 rfl) ?_
      obtain ⟨v25, e25, hf⟩ := pb_rd (rd_gA _ _ _) hf
      refine r_gA C hW e25 flX10_78 rfl dX10_laysCuspidals_111 ?_
      refine lv_iload_n hx hb dX10_laysCuspidals_114 rfl (lv_at hl 3 rfl) ?_
      obtain ⟨v26, e26, hf⟩ := pb_rd (rd_lI _ _ _) hf
      refine r_iald C hW e26 dX10_laysCuspidals_115 ?_
      refine lv_iconst (v := -1) hx hb dX10_laysCuspidals_116 (by decide) ?_
      refine lv_icmp_ne (tgt := 124) hx hb dX10_laysCuspidals_117 (by decide) (fun c27 => ?_) (fun c27 => ?_)
      · rw [if_neg c27] at hf
        refine lv_aload_n hx hb dX10_laysCuspidals_124 rfl (lv_at hl 1 rfl) ?_
        obtain ⟨v28, e28, hf⟩ := pb_rd (rd_gA _ _ _) hf
        refine r_gA C hW e28 flX10_66 rfl dX10_laysCuspidals_125 ?_
        refine lv_bipush (v := 16) hx hb dX10_laysCuspidals_128 (by decide) ?_
        refine lv_aload_n hx hb dX10_laysCuspidals_130 rfl (lv_at hl 1 rfl) ?_
        obtain ⟨v29, e29, hf⟩ := pb_rd (rd_gA _ _ _) hf
        refine r_gA C hW e29 flX10_78 rfl dX10_laysCuspidals_131 ?_
        refine lv_iload_n hx hb dX10_laysCuspidals_134 rfl (lv_at hl 3 rfl) ?_
        obtain ⟨v30, e30, hf⟩ := pb_rd (rd_lI _ _ _) hf
        refine r_iald C hW e30 dX10_laysCuspidals_135 ?_
        refine lv_imul hx hb dX10_laysCuspidals_136 ?_
        refine lv_iload_n hx hb dX10_laysCuspidals_137 rfl (lv_at hl 2 rfl) ?_
        refine lv_iadd hx hb dX10_laysCuspidals_138 ?_
        obtain ⟨v31, e31, hf⟩ := pb_rd (rd_lJ _ _ _) hf
        refine r_lald C hW e31 dX10_laysCuspidals_139 ?_
        obtain ⟨_, h32, e32, hf⟩ := pb_some hf
        refine r_last C hW e32 dX10_laysCuspidals_140 (fun H locs hW => ?_)
        refine lv_iinc (v := (x2 + 1)) (lv' := [(2, .int (x2 + 1)), (3, .int (((16 : Int32) * v14) + x2)), (0, .ref (ρ x0)), (1, .int x1)]) hx hb dX10_laysCuspidals_141 hl (k := 3) rfl rfl (by decide) rfl (fun ls hl => ?_)
        refine lv_goto (tgt := 41) hx hb dX10_laysCuspidals_144 (by decide) ?_
        obtain ⟨rfl, rfl⟩ := pp_some hf
        exact kc _ rfl _ _ _ _ _ hW (lv_sub hl [2, 3, 0] rfl)
      · rw [if_pos c27] at hf
        refine lv_lconst (v := 1) hx hb dX10_laysCuspidals_120 (by decide) ?_
        refine lv_goto (tgt := 140) hx hb dX10_laysCuspidals_121 (by decide) ?_
        obtain ⟨_, h33, e33, hf⟩ := pb_some hf
        refine r_last C hW e33 dX10_laysCuspidals_140 (fun H locs hW => ?_)
        refine lv_iinc (v := (x2 + 1)) (lv' := [(2, .int (x2 + 1)), (3, .int (((16 : Int32) * v14) + x2)), (0, .ref (ρ x0)), (1, .int x1)]) hx hb dX10_laysCuspidals_141 hl (k := 3) rfl rfl (by decide) rfl (fun ls hl => ?_)
        refine lv_goto (tgt := 41) hx hb dX10_laysCuspidals_144 (by decide) ?_
        obtain ⟨rfl, rfl⟩ := pp_some hf
        exact kc _ rfl _ _ _ _ _ hW (lv_sub hl [2, 3, 0] rfl)
    · rw [if_pos c18] at hf
      refine lv_iload_n hx hb dX10_laysCuspidals_74 rfl (lv_at hl 3 rfl) ?_
      refine lv_iload_n hx hb dX10_laysCuspidals_75 rfl (lv_at hl 2 rfl) ?_
      refine lv_icmp_ne (tgt := 83) hx hb dX10_laysCuspidals_76 (by decide) (fun c34 => ?_) (fun c34 => ?_)
      · rw [if_neg c34] at hf
        refine lv_lconst (v := 0) hx hb dX10_laysCuspidals_83 (by decide) ?_
        refine lv_goto (tgt := 104) hx hb dX10_laysCuspidals_84 (by decide) ?_
        obtain ⟨_, h35, e35, hf⟩ := pb_some hf
        refine r_last C hW e35 dX10_laysCuspidals_104 (fun H locs hW => ?_)
        refine lv_aload_n hx hb dX10_laysCuspidals_105 rfl (lv_at hl 1 rfl) ?_
        obtain ⟨v36, e36, hf⟩ := pb_rd (rd_gA _ _ _) hf
        refine r_gA C hW e36 flX10_75 rfl dX10_laysCuspidals_106 ?_
        refine lv_iload_n hx hb dX10_laysCuspidals_109 rfl (lv_at hl 0 rfl) ?_
        refine lv_aload_n hx hb dX10_laysCuspidals_110 rfl (lv_at hl 1 rfl) ?_
        obtain ⟨v37, e37, hf⟩ := pb_rd (rd_gA _ _ _) hf
        refine r_gA C hW e37 flX10_78 rfl dX10_laysCuspidals_111 ?_
        refine lv_iload_n hx hb dX10_laysCuspidals_114 rfl (lv_at hl 3 rfl) ?_
        obtain ⟨v38, e38, hf⟩ := pb_rd (rd_lI _ _ _) hf
        refine r_iald C hW e38 dX10_laysCuspidals_115 ?_
        refine lv_iconst (v := -1) hx hb dX10_laysCuspidals_116 (by decide) ?_
        refine lv_icmp_ne (tgt := 124) hx hb dX10_laysCuspidals_117 (by decide) (fun c39 => ?_) (fun c39 => ?_)
        · rw [if_neg c39] at hf
          refine lv_aload_n hx hb dX10_laysCuspidals_124 rfl (lv_at hl 1 rfl) ?_
          obtain ⟨v40, e40, hf⟩ := pb_rd (rd_gA _ _ _) hf
          refine r_gA C hW e40 flX10_66 rfl dX10_laysCuspidals_125 ?_
          refine lv_bipush (v := 16) hx hb dX10_laysCuspidals_128 (by decide) ?_
          refine lv_aload_n hx hb dX10_laysCuspidals_130 rfl (lv_at hl 1 rfl) ?_
          obtain ⟨v41, e41, hf⟩ := pb_rd (rd_gA _ _ _) hf
          refine r_gA C hW e41 flX10_78 rfl dX10_laysCuspidals_131 ?_
          refine lv_iload_n hx hb dX10_laysCuspidals_134 rfl (lv_at hl 3 rfl) ?_
          obtain ⟨v42, e42, hf⟩ := pb_rd (rd_lI _ _ _) hf
          refine r_iald C hW e42 dX10_laysCuspidals_135 ?_
          refine lv_imul hx hb dX10_laysCuspidals_136 ?_
          refine lv_iload_n hx hb dX10_laysCuspidals_137 rfl (lv_at hl 2 rfl) ?_
          refine lv_iadd hx hb dX10_laysCuspidals_138 ?_
          obtain ⟨v43, e43, hf⟩ := pb_rd (rd_lJ _ _ _) hf
          refine r_lald C hW e43 dX10_laysCuspidals_139 ?_
          obtain ⟨_, h44, e44, hf⟩ := pb_some hf
          refine r_last C hW e44 dX10_laysCuspidals_140 (fun H locs hW => ?_)
          refine lv_iinc (v := (x2 + 1)) (lv' := [(2, .int (x2 + 1)), (3, .int (((16 : Int32) * v14) + x2)), (0, .ref (ρ x0)), (1, .int x1)]) hx hb dX10_laysCuspidals_141 hl (k := 3) rfl rfl (by decide) rfl (fun ls hl => ?_)
          refine lv_goto (tgt := 41) hx hb dX10_laysCuspidals_144 (by decide) ?_
          obtain ⟨rfl, rfl⟩ := pp_some hf
          exact kc _ rfl _ _ _ _ _ hW (lv_sub hl [2, 3, 0] rfl)
        · rw [if_pos c39] at hf
          refine lv_lconst (v := 1) hx hb dX10_laysCuspidals_120 (by decide) ?_
          refine lv_goto (tgt := 140) hx hb dX10_laysCuspidals_121 (by decide) ?_
          obtain ⟨_, h45, e45, hf⟩ := pb_some hf
          refine r_last C hW e45 dX10_laysCuspidals_140 (fun H locs hW => ?_)
          refine lv_iinc (v := (x2 + 1)) (lv' := [(2, .int (x2 + 1)), (3, .int (((16 : Int32) * v14) + x2)), (0, .ref (ρ x0)), (1, .int x1)]) hx hb dX10_laysCuspidals_141 hl (k := 3) rfl rfl (by decide) rfl (fun ls hl => ?_)
          refine lv_goto (tgt := 41) hx hb dX10_laysCuspidals_144 (by decide) ?_
          obtain ⟨rfl, rfl⟩ := pp_some hf
          exact kc _ rfl _ _ _ _ _ hW (lv_sub hl [2, 3, 0] rfl)
      · rw [if_pos c34] at hf
        refine lv_lconst (v := 1) hx hb dX10_laysCuspidals_79 (by decide) ?_
        refine lv_goto (tgt := 104) hx hb dX10_laysCuspidals_80 (by decide) ?_
        obtain ⟨_, h46, e46, hf⟩ := pb_some hf
        refine r_last C hW e46 dX10_laysCuspidals_104 (fun H locs hW => ?_)
        refine lv_aload_n hx hb dX10_laysCuspidals_105 rfl (lv_at hl 1 rfl) ?_
        obtain ⟨v47, e47, hf⟩ := pb_rd (rd_gA _ _ _) hf
        refine r_gA C hW e47 flX10_75 rfl dX10_laysCuspidals_106 ?_
        refine lv_iload_n hx hb dX10_laysCuspidals_109 rfl (lv_at hl 0 rfl) ?_
        refine lv_aload_n hx hb dX10_laysCuspidals_110 rfl (lv_at hl 1 rfl) ?_
        obtain ⟨v48, e48, hf⟩ := pb_rd (rd_gA _ _ _) hf
        refine r_gA C hW e48 flX10_78 rfl dX10_laysCuspidals_111 ?_
        refine lv_iload_n hx hb dX10_laysCuspidals_114 rfl (lv_at hl 3 rfl) ?_
        obtain ⟨v49, e49, hf⟩ := pb_rd (rd_lI _ _ _) hf
        refine r_iald C hW e49 dX10_laysCuspidals_115 ?_
        refine lv_iconst (v := -1) hx hb dX10_laysCuspidals_116 (by decide) ?_
        refine lv_icmp_ne (tgt := 124) hx hb dX10_laysCuspidals_117 (by decide) (fun c50 => ?_) (fun c50 => ?_)
        · rw [if_neg c50] at hf
          refine lv_aload_n hx hb dX10_laysCuspidals_124 rfl (lv_at hl 1 rfl) ?_
          obtain ⟨v51, e51, hf⟩ := pb_rd (rd_gA _ _ _) hf
          refine r_gA C hW e51 flX10_66 rfl dX10_laysCuspidals_125 ?_
          refine lv_bipush (v := 16) hx hb dX10_laysCuspidals_128 (by decide) ?_
          refine lv_aload_n hx hb dX10_laysCuspidals_130 rfl (lv_at hl 1 rfl) ?_
          obtain ⟨v52, e52, hf⟩ := pb_rd (rd_gA _ _ _) hf
          refine r_gA C hW e52 flX10_78 rfl dX10_laysCuspidals_131 ?_
          refine lv_iload_n hx hb dX10_laysCuspidals_134 rfl (lv_at hl 3 rfl) ?_
          obtain ⟨v53, e53, hf⟩ := pb_rd (rd_lI _ _ _) hf
          refine r_iald C hW e53 dX10_laysCuspidals_135 ?_
          refine lv_imul hx hb dX10_laysCuspidals_136 ?_
          refine lv_iload_n hx hb dX10_laysCuspidals_137 rfl (lv_at hl 2 rfl) ?_
          refine lv_iadd hx hb dX10_laysCuspidals_138 ?_
          obtain ⟨v54, e54, hf⟩ := pb_rd (rd_lJ _ _ _) hf
          refine r_lald C hW e54 dX10_laysCuspidals_139 ?_
          obtain ⟨_, h55, e55, hf⟩ := pb_some hf
          refine r_last C hW e55 dX10_laysCuspidals_140 (fun H locs hW => ?_)
          refine lv_iinc (v := (x2 + 1)) (lv' := [(2, .int (x2 + 1)), (3, .int (((16 : Int32) * v14) + x2)), (0, .ref (ρ x0)), (1, .int x1)]) hx hb dX10_laysCuspidals_141 hl (k := 3) rfl rfl (by decide) rfl (fun ls hl => ?_)
          refine lv_goto (tgt := 41) hx hb dX10_laysCuspidals_144 (by decide) ?_
          obtain ⟨rfl, rfl⟩ := pp_some hf
          exact kc _ rfl _ _ _ _ _ hW (lv_sub hl [2, 3, 0] rfl)
        · rw [if_pos c50] at hf
          refine lv_lconst (v := 1) hx hb dX10_laysCuspidals_120 (by decide) ?_
          refine lv_goto (tgt := 140) hx hb dX10_laysCuspidals_121 (by decide) ?_
          obtain ⟨_, h56, e56, hf⟩ := pb_some hf
          refine r_last C hW e56 dX10_laysCuspidals_140 (fun H locs hW => ?_)
          refine lv_iinc (v := (x2 + 1)) (lv' := [(2, .int (x2 + 1)), (3, .int (((16 : Int32) * v14) + x2)), (0, .ref (ρ x0)), (1, .int x1)]) hx hb dX10_laysCuspidals_141 hl (k := 3) rfl rfl (by decide) rfl (fun ls hl => ?_)
          refine lv_goto (tgt := 41) hx hb dX10_laysCuspidals_144 (by decide) ?_
          obtain ⟨rfl, rfl⟩ := pp_some hf
          exact kc _ rfl _ _ _ _ _ hW (lv_sub hl [2, 3, 0] rfl)
set_option maxHeartbeats 4000000 in
theorem wX10_laysCuspidals_L41 {p : Program} {l : Launch} {e : Env} {s : State} {m : MethodId} {args : Array Value} {below : List Frame} {meth : Method} {c : Code} {G : GG} {ρ : Nat → Nat} {h0 hE hB : PH} {Q : State → Prop} {x0 : Nat} {x1 : Int32} (C : Cx G "PairSymbolsModel" cX10_laysCuspidals 4 none "laysCuspidals" p s m args meth c) {z : (Unit)} (n : Nat) : ∀ (x : Int32) {h : PH} {H : Heap} {locs : List Loc} {cells slots : Nat} {ls : Array Slot}, (plo (fX10_laysCuspidals_B41 x0 x1) n x).1 h = some (z, hB) → Ext hB hE → Wd G ρ h0.length (sl h0) s.heap h H locs cells slots → lv_has ls 4 [(0, .ref (ρ x0)), (1, .int x1), (2, .int x)] → (ke : ∀ (H : Heap) (locs : List Loc) (c1 s1 : Nat) (ls : Array Slot), Wd G ρ h0.length (sl h0) s.heap hB H locs c1 s1 → lv_has ls 4 [(0, .ref (ρ x0)), (1, .int x1)] → W p l e (RM 6 166 h0 hE) s m args below meth c H locs c1 s1 Q (F0 m 147 ls [])) → W p l e (RM 6 166 h0 hE) s m args below meth c H locs cells slots Q (F0 m 41 ls []) := by
  induction n with
  | zero =>
    intro x h H locs cells slots ls hf
    rw [plo_0] at hf
    exact (pf_no hf).elim
  | succ n ih =>
    intro x h H locs cells slots ls hf hX hW hl ke
    rw [plo_s] at hf
    obtain ⟨r, h1, e1, hf⟩ := pb_some hf
    unfold fX10_laysCuspidals_B41 at e1
    rw [frI_eq] at e1
    refine wX10_laysCuspidals_B41 C e1 ((pext hf).tr hX) hW hl (fun y hr H locs c1 s1 ls hW hl => ?_) (fun y hr H locs c1 s1 ls hW hl => ?_)
    · subst hr
      exact ih y hf hX hW hl ke
    · subst hr
      obtain ⟨rfl, rfl⟩ := pp_some hf
      exact ke H locs c1 s1 ls hW hl
set_option maxHeartbeats 4000000 in
set_option maxRecDepth 100000 in
theorem wX10_laysCuspidals_B11 {p : Program} {l : Launch} {e : Env} {s : State} {m : MethodId} {args : Array Value} {below : List Frame} {meth : Method} {c : Code} {G : GG} {ρ : Nat → Nat} {h0 hE hB : PH} {Q : State → Prop} {x0 : Nat} (C : Cx G "PairSymbolsModel" cX10_laysCuspidals 4 none "laysCuspidals" p s m args meth c) {x1 : Int32} {h : PH} {H : Heap} {locs : List Loc} {cells slots : Nat} {ls : Array Slot} {r : (Int32) ⊕ (Unit)} (hf : (fX10_laysCuspidals_b11 x0 x1).1 h = some (r, hB)) (hX : Ext hB hE) (hW : Wd G ρ h0.length (sl h0) s.heap h H locs cells slots) (hl : lv_has ls 4 [(0, .ref (ρ x0)), (1, .int x1)]) (kc : ∀ y : Int32, r = .inl y → ∀ (H : Heap) (locs : List Loc) (c1 s1 : Nat) (ls : Array Slot), Wd G ρ h0.length (sl h0) s.heap hB H locs c1 s1 → lv_has ls 4 [(0, .ref (ρ x0)), (1, .int y)] → W p l e (RM 6 166 h0 hE) s m args below meth c H locs c1 s1 Q (F0 m 11 ls [])) (ke : ∀ z : Unit, r = .inr z → ∀ (H : Heap) (locs : List Loc) (c1 s1 : Nat) (ls : Array Slot), Wd G ρ h0.length (sl h0) s.heap hB H locs c1 s1 → lv_has ls 4 [] → W p l e (RM 6 166 h0 hE) s m args below meth c H locs c1 s1 Q (F0 m 163 ls [])) : W p l e (RM 6 166 h0 hE) s m args below meth c H locs cells slots Q (F0 m 11 ls []) := by
  have hx := C.1
  have hb := C.2.1
  unfold fX10_laysCuspidals_b11 at hf
  refine lv_iload_n hx hb dX10_laysCuspidals_11 rfl (lv_at hl 1 rfl) ?_
  refine lv_aload_n hx hb dX10_laysCuspidals_12 rfl (lv_at hl 0 rfl) ?_
  obtain ⟨v4, e4, hf⟩ := pb_rd (rd_gI _ _ _) hf
  refine r_gI C hW e4 flX10_192 rfl dX10_laysCuspidals_13 ?_
  refine lv_icmp_ge (tgt := 163) hx hb dX10_laysCuspidals_16 (by decide) (fun c5 => ?_) (fun c5 => ?_)
  · rw [if_pos c5] at hf
    obtain ⟨rfl, rfl⟩ := pp_some hf
    exact ke _ rfl _ _ _ _ _ hW (lv_sub hl [] rfl)
  · rw [if_neg c5] at hf
    refine lv_aload_n hx hb dX10_laysCuspidals_19 rfl (lv_at hl 0 rfl) ?_
    obtain ⟨v6, e6, hf⟩ := pb_rd (rd_gA _ _ _) hf
    refine r_gA C hW e6 flX10_78 rfl dX10_laysCuspidals_20 ?_
    refine lv_iload_n hx hb dX10_laysCuspidals_23 rfl (lv_at hl 1 rfl) ?_
    obtain ⟨v7, e7, hf⟩ := pb_rd (rd_lI _ _ _) hf
    refine r_iald C hW e7 dX10_laysCuspidals_24 ?_
    refine lv_iconst (v := -1) hx hb dX10_laysCuspidals_25 (by decide) ?_
    refine lv_icmp_ne (tgt := 157) hx hb dX10_laysCuspidals_26 (by decide) (fun c8 => ?_) (fun c8 => ?_)
    · rw [if_neg c8] at hf
      refine lv_iinc (v := (x1 + 1)) (lv' := [(1, .int (x1 + 1)), (0, .ref (ρ x0))]) hx hb dX10_laysCuspidals_157 hl (k := 1) rfl rfl (by decide) rfl (fun ls hl => ?_)
      refine lv_goto (tgt := 11) hx hb dX10_laysCuspidals_160 (by decide) ?_
      obtain ⟨rfl, rfl⟩ := pp_some hf
      exact kc _ rfl _ _ _ _ _ hW (lv_sub hl [1, 0] rfl)
    · rw [if_pos c8] at hf
      refine lv_aload_n hx hb dX10_laysCuspidals_29 rfl (lv_at hl 0 rfl) ?_
      obtain ⟨v9, e9, hf⟩ := pb_rd (rd_gA _ _ _) hf
      refine r_gA C hW e9 flX10_69 rfl dX10_laysCuspidals_30 ?_
      refine lv_aload_n hx hb dX10_laysCuspidals_33 rfl (lv_at hl 0 rfl) ?_
      obtain ⟨v10, e10, hf⟩ := pb_rd (rd_gI _ _ _) hf
      refine r_gI C hW e10 flX10_231 rfl dX10_laysCuspidals_34 ?_
      refine lv_iload_n hx hb dX10_laysCuspidals_37 rfl (lv_at hl 1 rfl) ?_
      obtain ⟨_, h11, e11, hf⟩ := pb_some hf
      refine r_iast C hW e11 dX10_laysCuspidals_38 (fun H locs hW => ?_)
      refine lv_iconst (v := 0) hx hb dX10_laysCuspidals_39 (by decide) ?_
      refine lv_istore_n (lv' := [(2, .int (0 : Int32)), (0, .ref (ρ x0)), (1, .int x1)]) hx hb dX10_laysCuspidals_40 rfl hl (by decide) rfl (fun ls hl => ?_)
      obtain ⟨z57, h57, e57, hf⟩ := pb_some hf
      refine wX10_laysCuspidals_L41 C fu _ e57 ((pext hf).tr hX) hW (lv_sub hl [1, 2, 0] rfl) (fun H locs c1 s1 ls hW hl => ?_)
      refine lv_aload_n hx hb dX10_laysCuspidals_147 rfl (lv_at hl 0 rfl) ?_
      refine lv_dup hx hb dX10_laysCuspidals_148 rfl ?_
      obtain ⟨v58, e58, hf⟩ := pb_rd (rd_gI _ _ _) hf
      refine r_gI C hW e58 flX10_231 rfl dX10_laysCuspidals_149 ?_
      refine lv_iconst (v := 1) hx hb dX10_laysCuspidals_152 (by decide) ?_
      refine lv_iadd hx hb dX10_laysCuspidals_153 ?_
      obtain ⟨_, h59, e59, hf⟩ := pb_some hf
      refine r_sI C hW e59 flX10_231 (Or.inl rfl) rfl dX10_laysCuspidals_154 (fun H locs hW => ?_)
      refine lv_iinc (v := (x1 + 1)) (lv' := [(1, .int (x1 + 1)), (0, .ref (ρ x0))]) hx hb dX10_laysCuspidals_157 hl (k := 1) rfl rfl (by decide) rfl (fun ls hl => ?_)
      refine lv_goto (tgt := 11) hx hb dX10_laysCuspidals_160 (by decide) ?_
      obtain ⟨rfl, rfl⟩ := pp_some hf
      exact kc _ rfl _ _ _ _ _ hW (lv_sub hl [1, 0] rfl)
set_option maxHeartbeats 4000000 in
theorem wX10_laysCuspidals_L11 {p : Program} {l : Launch} {e : Env} {s : State} {m : MethodId} {args : Array Value} {below : List Frame} {meth : Method} {c : Code} {G : GG} {ρ : Nat → Nat} {h0 hE hB : PH} {Q : State → Prop} {x0 : Nat} (C : Cx G "PairSymbolsModel" cX10_laysCuspidals 4 none "laysCuspidals" p s m args meth c) {z : (Unit)} (n : Nat) : ∀ (x : Int32) {h : PH} {H : Heap} {locs : List Loc} {cells slots : Nat} {ls : Array Slot}, (plo (fX10_laysCuspidals_B11 x0) n x).1 h = some (z, hB) → Ext hB hE → Wd G ρ h0.length (sl h0) s.heap h H locs cells slots → lv_has ls 4 [(0, .ref (ρ x0)), (1, .int x)] → (ke : ∀ (H : Heap) (locs : List Loc) (c1 s1 : Nat) (ls : Array Slot), Wd G ρ h0.length (sl h0) s.heap hB H locs c1 s1 → lv_has ls 4 [] → W p l e (RM 6 166 h0 hE) s m args below meth c H locs c1 s1 Q (F0 m 163 ls [])) → W p l e (RM 6 166 h0 hE) s m args below meth c H locs cells slots Q (F0 m 11 ls []) := by
  induction n with
  | zero =>
    intro x h H locs cells slots ls hf
    rw [plo_0] at hf
    exact (pf_no hf).elim
  | succ n ih =>
    intro x h H locs cells slots ls hf hX hW hl ke
    rw [plo_s] at hf
    obtain ⟨r, h1, e1, hf⟩ := pb_some hf
    unfold fX10_laysCuspidals_B11 at e1
    rw [frI_eq] at e1
    refine wX10_laysCuspidals_B11 C e1 ((pext hf).tr hX) hW hl (fun y hr H locs c1 s1 ls hW hl => ?_) (fun y hr H locs c1 s1 ls hW hl => ?_)
    · subst hr
      exact ih y hf hX hW hl ke
    · subst hr
      obtain ⟨rfl, rfl⟩ := pp_some hf
      exact ke H locs c1 s1 ls hW hl
set_option maxHeartbeats 4000000 in
set_option maxRecDepth 100000 in
theorem metX10_laysCuspidals (l : Launch) (G : GG) (ρ : Nat → Nat) {z : Nat} {x0 : Nat} {h hE : PH} {v : Unit} (hf : (fX10_laysCuspidals x0).1 h = some (v, hE)) : Met l yX10_laysCuspidals (wsY yX10_laysCuspidals cX10_laysCuspidals 4 none) (RM 6 166 h hE) (va_Pc [.ref (ρ x0)] (PcB G ρ h z)) (QV G ρ hE h.length z) (DC h hE) (DS h hE) (Af ρ h.length z) := by
  refine met_start (by decide) (Nat.le_of_ble_eq_true rfl) ?_
  intro p e s m below meth c ls hz C hW hl
  subst hz
  have C : Cx G "PairSymbolsModel" cX10_laysCuspidals 4 none "laysCuspidals" p s m _ meth c := C
  have hx := C.1
  have hb := C.2.1
  have hX : Ext hE hE := Ext.rf hE
  have hl : lv_has ls 4 [(0, .ref (ρ x0))] := hl
  have hW : Wd G ρ h.length (sl h) s.heap h s.heap [] 0 0 := hW
  unfold fX10_laysCuspidals at hf
  obtain ⟨_, e0, hf⟩ := pb_rd (rd_chk _ _) hf
  refine lv_aload_n hx hb dX10_laysCuspidals_0 rfl (lv_at hl 0 rfl) ?_
  obtain ⟨_, h1, e1, hf⟩ := pb_some hf
  obtain ⟨_, _, t2⟩ := tgX10_solvesBoundary e1
  refine r_callv hW (pext e1) (run_V (b := x0) (As := []) (rest := []) C hW (metX10_solvesBoundary l G ρ e1) ⟨rfl, rfl⟩ kcX10_solvesBoundary (tq q_967 rfl) kiX10_solvesBoundary ksX10_solvesBoundary knX10_solvesBoundary kdX10_solvesBoundary t2 rfl rfl ⟨Nat.le_of_ble_eq_true rfl, Nat.le_of_ble_eq_true rfl⟩ hl.1 (Nat.le_of_ble_eq_true rfl) (room_of hW (pext e1) ((pext hf).tr hX)) dX10_laysCuspidals_1 rfl) (fun H locs c1 s1 hW => ?_)
  refine lv_aload_n hx hb dX10_laysCuspidals_4 rfl (lv_at hl 0 rfl) ?_
  refine lv_iconst (v := 0) hx hb dX10_laysCuspidals_5 (by decide) ?_
  obtain ⟨_, h3, e3, hf⟩ := pb_some hf
  refine r_sI C hW e3 flX10_231 (Or.inl rfl) rfl dX10_laysCuspidals_6 (fun H locs hW => ?_)
  refine lv_iconst (v := 0) hx hb dX10_laysCuspidals_9 (by decide) ?_
  refine lv_istore_n (lv' := [(1, .int (0 : Int32)), (0, .ref (ρ x0))]) hx hb dX10_laysCuspidals_10 rfl hl (by decide) rfl (fun ls hl => ?_)
  obtain ⟨z60, h60, e60, hf⟩ := pb_some hf
  refine wX10_laysCuspidals_L11 C fu _ e60 ((pext hf).tr hX) hW (lv_sub hl [1, 0] rfl) (fun H locs c1 s1 ls hW hl => ?_)
  obtain ⟨rfl, rfl⟩ := pp_some hf
  exact r_vret C hW dX10_laysCuspidals_163

theorem dX10_levelNow_0 : decode cX10_levelNow 0 = .ok (.aload_n 0, 1) := by decide +kernel
theorem dX10_levelNow_1 : decode cX10_levelNow 1 = .ok (.invokevirtual 148, 3) := by decide +kernel
theorem dX10_levelNow_4 : decode cX10_levelNow 4 = .ok (.istore_n 2, 1) := by decide +kernel
theorem dX10_levelNow_5 : decode cX10_levelNow 5 = .ok (.aload_n 0, 1) := by decide +kernel
theorem dX10_levelNow_6 : decode cX10_levelNow 6 = .ok (.getfield 7, 3) := by decide +kernel
theorem dX10_levelNow_9 : decode cX10_levelNow 9 = .ok (.iconst 0, 1) := by decide +kernel
theorem dX10_levelNow_10 : decode cX10_levelNow 10 = .ok (.iload_n 1, 1) := by decide +kernel
theorem dX10_levelNow_11 : decode cX10_levelNow 11 = .ok (.i2l, 1) := by decide +kernel
theorem dX10_levelNow_12 : decode cX10_levelNow 12 = .ok (.lastore, 1) := by decide +kernel
theorem dX10_levelNow_13 : decode cX10_levelNow 13 = .ok (.aload_n 0, 1) := by decide +kernel
theorem dX10_levelNow_14 : decode cX10_levelNow 14 = .ok (.invokevirtual 122, 3) := by decide +kernel
theorem dX10_levelNow_17 : decode cX10_levelNow 17 = .ok (.iload_n 2, 1) := by decide +kernel
theorem dX10_levelNow_18 : decode cX10_levelNow 18 = .ok (.ireturn, 1) := by decide +kernel
theorem kcX10_levelNow : Cond.code yX10_levelNow cX10_levelNow 3 (some .int) ∈ tb := tq q_848 rfl
theorem knX10_levelNow : Cond.initialized yX10_levelNow.cls ∈ tb := (tq q_10 rfl)
theorem kdX10_levelNow : yX10_levelNow.cls ≠ "java/lang/invoke/MethodHandle" ∧ yX10_levelNow.cls ≠ "java/lang/invoke/VarHandle" ∧ (parseMethodDescriptor yX10_levelNow.desc).map (fun d => d.parameters.length) = some 1 := ⟨by decide +kernel, by decide +kernel, by decide +kernel⟩
theorem kiX10_levelNow : Cond.instanceMethod yX10_levelNow ∈ tb := (tq q_847 rfl)
theorem ksX10_levelNow : Cond.selects yX10_levelNow.cls yX10_levelNow yX10_levelNow ∈ tb := (tq z_27 rfl)
theorem tgX10_levelNow {x0 : Nat} {x1 : Int32} {h : PH} {r : Int32 × PH} (hf : (fX10_levelNow x0 x1).1 h = some r) : ∃ n x, nth h x0 = some (9, n, x) := by
  obtain ⟨_, _, e, _⟩ := pb_some hf
  exact (chk_some e).2
set_option maxHeartbeats 4000000 in
set_option maxRecDepth 100000 in
theorem metX10_levelNow (l : Launch) (G : GG) (ρ : Nat → Nat) {z : Nat} {x0 : Nat} {x1 : Int32} {h hE : PH} {v : Int32} (hf : (fX10_levelNow x0 x1).1 h = some (v, hE)) : Met l yX10_levelNow (wsY yX10_levelNow cX10_levelNow 3 (some .int)) (RM 1 21 h hE) (va_Pc [.ref (ρ x0), .int x1] (PcB G ρ h z)) (QI G ρ v hE h.length z) (DC h hE) (DS h hE) (Af ρ h.length z) := by
  refine met_start (by decide) (Nat.le_of_ble_eq_true rfl) ?_
  intro p e s m below meth c ls hz C hW hl
  subst hz
  have C : Cx G "PairSymbolsModel" cX10_levelNow 3 (some .int) "levelNow" p s m _ meth c := C
  have hx := C.1
  have hb := C.2.1
  have hX : Ext hE hE := Ext.rf hE
  have hl : lv_has ls 3 [(0, .ref (ρ x0)), (1, .int x1)] := hl
  have hW : Wd G ρ h.length (sl h) s.heap h s.heap [] 0 0 := hW
  unfold fX10_levelNow at hf
  obtain ⟨_, e0, hf⟩ := pb_rd (rd_chk _ _) hf
  refine lv_aload_n hx hb dX10_levelNow_0 rfl (lv_at hl 0 rfl) ?_
  obtain ⟨v1, h1, e1, hf⟩ := pb_some hf
  obtain ⟨_, _, t2⟩ := tgX10_levelHere e1
  refine r_calli hW (pext e1) (run_V (b := x0) (As := []) (rest := []) C hW (metX10_levelHere l G ρ e1) ⟨rfl, rfl⟩ kcX10_levelHere (tq q_849 rfl) kiX10_levelHere ksX10_levelHere knX10_levelHere kdX10_levelHere t2 rfl rfl ⟨Nat.le_of_ble_eq_true rfl, Nat.le_of_ble_eq_true rfl⟩ hl.1 (Nat.le_of_ble_eq_true rfl) (room_of hW (pext e1) ((pext hf).tr hX)) dX10_levelNow_1 rfl) (fun H locs c1 s1 hW => ?_)
  refine lv_istore_n (lv' := [(2, .int v1), (0, .ref (ρ x0)), (1, .int x1)]) hx hb dX10_levelNow_4 rfl hl (by decide) rfl (fun ls hl => ?_)
  refine lv_aload_n hx hb dX10_levelNow_5 rfl (lv_at hl 1 rfl) ?_
  obtain ⟨v3, e3, hf⟩ := pb_rd (rd_gA _ _ _) hf
  refine r_gA C hW e3 flX10_7 rfl dX10_levelNow_6 ?_
  refine lv_iconst (v := 0) hx hb dX10_levelNow_9 (by decide) ?_
  refine lv_iload_n hx hb dX10_levelNow_10 rfl (lv_at hl 2 rfl) ?_
  refine lv_i2l (v := x1.toInt64) hx hb dX10_levelNow_11 rfl ?_
  obtain ⟨_, h4, e4, hf⟩ := pb_some hf
  refine r_last C hW e4 dX10_levelNow_12 (fun H locs hW => ?_)
  refine lv_aload_n hx hb dX10_levelNow_13 rfl (lv_at hl 1 rfl) ?_
  obtain ⟨_, h5, e5, hf⟩ := pb_some hf
  obtain ⟨_, _, t6⟩ := tgX10_zeroes e5
  refine r_callv hW (pext e5) (run_V (b := x0) (As := []) (rest := []) C hW (metX10_zeroes l G ρ e5) ⟨rfl, rfl⟩ kcX10_zeroes (tq q_671 rfl) kiX10_zeroes ksX10_zeroes knX10_zeroes kdX10_zeroes t6 rfl rfl ⟨Nat.le_of_ble_eq_true rfl, Nat.le_of_ble_eq_true rfl⟩ hl.1 (Nat.le_of_ble_eq_true rfl) (room_of hW (pext e5) ((pext hf).tr hX)) dX10_levelNow_14 rfl) (fun H locs c1 s1 hW => ?_)
  refine lv_iload_n hx hb dX10_levelNow_17 rfl (lv_at hl 0 rfl) ?_
  obtain ⟨rfl, rfl⟩ := pp_some hf
  exact r_iret C hW dX10_levelNow_18

theorem dX10_level_0 : decode cX10_level 0 = .ok (.iload_n 1, 1) := by decide +kernel
theorem dX10_level_1 : decode cX10_level 1 = .ok (.i2l, 1) := by decide +kernel
theorem dX10_level_2 : decode cX10_level 2 = .ok (.lconst 1, 1) := by decide +kernel
theorem dX10_level_3 : decode cX10_level 3 = .ok (.ldc2_w 234, 3) := by decide +kernel
theorem dX10_level_6 : decode cX10_level 6 = .ok (.invokestatic 236, 3) := by decide +kernel
theorem dX10_level_9 : decode cX10_level 9 = .ok (.ifCond .ne 10, 3) := by decide +kernel
theorem dX10_level_12 : decode cX10_level 12 = .ok (.aload_n 0, 1) := by decide +kernel
theorem dX10_level_13 : decode cX10_level 13 = .ok (.bipush (-2), 2) := by decide +kernel
theorem dX10_level_15 : decode cX10_level 15 = .ok (.invokevirtual 240, 3) := by decide +kernel
theorem dX10_level_18 : decode cX10_level 18 = .ok (.ireturn, 1) := by decide +kernel
theorem dX10_level_19 : decode cX10_level 19 = .ok (.aload_n 0, 1) := by decide +kernel
theorem dX10_level_20 : decode cX10_level 20 = .ok (.invokevirtual 243, 3) := by decide +kernel
theorem dX10_level_23 : decode cX10_level 23 = .ok (.aload_n 0, 1) := by decide +kernel
theorem dX10_level_24 : decode cX10_level 24 = .ok (.iload_n 1, 1) := by decide +kernel
theorem dX10_level_25 : decode cX10_level 25 = .ok (.invokevirtual 246, 3) := by decide +kernel
theorem dX10_level_28 : decode cX10_level 28 = .ok (.ireturn, 1) := by decide +kernel
theorem kcX10_level : Cond.code yX10_level cX10_level 2 (some .int) ∈ tb := tq q_832 rfl
theorem knX10_level : Cond.initialized yX10_level.cls ∈ tb := (tq q_10 rfl)
theorem kdX10_level : yX10_level.cls ≠ "java/lang/invoke/MethodHandle" ∧ yX10_level.cls ≠ "java/lang/invoke/VarHandle" ∧ (parseMethodDescriptor yX10_level.desc).map (fun d => d.parameters.length) = some 1 := ⟨by decide +kernel, by decide +kernel, by decide +kernel⟩
theorem kiX10_level : Cond.instanceMethod yX10_level ∈ tb := (tq q_830 rfl)
theorem ksX10_level : Cond.selects yX10_level.cls yX10_level yX10_level ∈ tb := (tq q_831 rfl)
theorem tgX10_level {x0 : Nat} {x1 : Int32} {h : PH} {r : Int32 × PH} (hf : (fX10_level x0 x1).1 h = some r) : ∃ n x, nth h x0 = some (9, n, x) := by
  obtain ⟨_, _, e, _⟩ := pb_some hf
  exact (chk_some e).2
set_option maxHeartbeats 4000000 in
set_option maxRecDepth 100000 in
theorem metX10_level (l : Launch) (G : GG) (ρ : Nat → Nat) {z : Nat} {x0 : Nat} {x1 : Int32} {h hE : PH} {v : Int32} (hf : (fX10_level x0 x1).1 h = some (v, hE)) : Met l yX10_level (wsY yX10_level cX10_level 2 (some .int)) (RM 2 43 h hE) (va_Pc [.ref (ρ x0), .int x1] (PcB G ρ h z)) (QI G ρ v hE h.length z) (DC h hE) (DS h hE) (Af ρ h.length z) := by
  refine met_start (by decide) (Nat.le_of_ble_eq_true rfl) ?_
  intro p e s m below meth c ls hz C hW hl
  subst hz
  have C : Cx G "PairSymbolsModel" cX10_level 2 (some .int) "level" p s m _ meth c := C
  have hx := C.1
  have hb := C.2.1
  have hX : Ext hE hE := Ext.rf hE
  have hl : lv_has ls 2 [(0, .ref (ρ x0)), (1, .int x1)] := hl
  have hW : Wd G ρ h.length (sl h) s.heap h s.heap [] 0 0 := hW
  unfold fX10_level at hf
  obtain ⟨_, e0, hf⟩ := pb_rd (rd_chk _ _) hf
  refine lv_iload_n hx hb dX10_level_0 rfl (lv_at hl 1 rfl) ?_
  refine lv_i2l (v := x1.toInt64) hx hb dX10_level_1 rfl ?_
  refine lv_lconst (v := 1) hx hb dX10_level_2 (by decide) ?_
  refine r_ldc2 (v := 25) C (tq q_833 rfl) dX10_level_3 ?_
  obtain ⟨v1, h1, e1, hf⟩ := pb_some hf
  refine r_calli hW (pext e1) (run_S (As := [.long x1.toInt64, .long (1 : Int64), .long (25 : Int64)]) (rest := []) C hW (metX10_in l G ρ e1) ⟨rfl, rfl⟩ kcX10_in (tq q_834 rfl) kiX10_in knX10_in kdX10_in ⟨Nat.le_of_ble_eq_true rfl, Nat.le_of_ble_eq_true rfl⟩ hl.1 (Nat.le_of_ble_eq_true rfl) (room_of hW (pext e1) ((pext hf).tr hX)) dX10_level_6 rfl) (fun H locs c1 s1 hW => ?_)
  refine lv_if_ne (tgt := 19) hx hb dX10_level_9 (by decide) (fun c2 => ?_) (fun c2 => ?_)
  · rw [if_neg c2] at hf
    refine lv_aload_n hx hb dX10_level_19 rfl (lv_at hl 0 rfl) ?_
    obtain ⟨_, h3, e3, hf⟩ := pb_some hf
    obtain ⟨_, _, t4⟩ := tgX10_keep e3
    refine r_callv hW (pext e3) (run_V (b := x0) (As := []) (rest := []) C hW (metX10_keep l G ρ e3) ⟨rfl, rfl⟩ kcX10_keep (tq q_841 rfl) kiX10_keep ksX10_keep knX10_keep kdX10_keep t4 rfl rfl ⟨Nat.le_of_ble_eq_true rfl, Nat.le_of_ble_eq_true rfl⟩ hl.1 (Nat.le_of_ble_eq_true rfl) (room_of hW (pext e3) ((pext hf).tr hX)) dX10_level_20 rfl) (fun H locs c1 s1 hW => ?_)
    refine lv_aload_n hx hb dX10_level_23 rfl (lv_at hl 0 rfl) ?_
    refine lv_iload_n hx hb dX10_level_24 rfl (lv_at hl 1 rfl) ?_
    obtain ⟨v5, h5, e5, hf⟩ := pb_some hf
    obtain ⟨_, _, t6⟩ := tgX10_levelNow e5
    refine r_calli hW (pext e5) (run_V (b := x0) (As := [.int x1]) (rest := []) C hW (metX10_levelNow l G ρ e5) ⟨rfl, rfl⟩ kcX10_levelNow (tq q_845 rfl) kiX10_levelNow ksX10_levelNow knX10_levelNow kdX10_levelNow t6 rfl rfl ⟨Nat.le_of_ble_eq_true rfl, Nat.le_of_ble_eq_true rfl⟩ hl.1 (Nat.le_of_ble_eq_true rfl) (room_of hW (pext e5) ((pext hf).tr hX)) dX10_level_25 rfl) (fun H locs c1 s1 hW => ?_)
    obtain ⟨rfl, rfl⟩ := pp_some hf
    exact r_iret C hW dX10_level_28
  · rw [if_pos c2] at hf
    refine lv_aload_n hx hb dX10_level_12 rfl (lv_at hl 0 rfl) ?_
    refine lv_bipush (v := -2) hx hb dX10_level_13 (by decide) ?_
    obtain ⟨v7, h7, e7, hf⟩ := pb_some hf
    obtain ⟨_, _, t8⟩ := tgX10_refuses e7
    refine r_calli hW (pext e7) (run_V (b := x0) (As := [.int (-2 : Int32)]) (rest := []) C hW (metX10_refuses l G ρ e7) ⟨rfl, rfl⟩ kcX10_refuses (tq q_837 rfl) kiX10_refuses ksX10_refuses knX10_refuses kdX10_refuses t8 rfl rfl ⟨Nat.le_of_ble_eq_true rfl, Nat.le_of_ble_eq_true rfl⟩ hl.1 (Nat.le_of_ble_eq_true rfl) (room_of hW (pext e7) ((pext hf).tr hX)) dX10_level_15 rfl) (fun H locs c1 s1 hW => ?_)
    obtain ⟨rfl, rfl⟩ := pp_some hf
    exact r_iret C hW dX10_level_18

theorem dX10_symbols_0 : decode cX10_symbols 0 = .ok (.aload_n 0, 1) := by decide +kernel
theorem dX10_symbols_1 : decode cX10_symbols 1 = .ok (.invokevirtual 249, 3) := by decide +kernel
theorem dX10_symbols_4 : decode cX10_symbols 4 = .ok (.aload_n 0, 1) := by decide +kernel
theorem dX10_symbols_5 : decode cX10_symbols 5 = .ok (.getfield 156, 3) := by decide +kernel
theorem dX10_symbols_8 : decode cX10_symbols 8 = .ok (.ireturn, 1) := by decide +kernel
theorem kcX10_symbols : Cond.code yX10_symbols cX10_symbols 1 (some .int) ∈ tb := tq q_856 rfl
theorem knX10_symbols : Cond.initialized yX10_symbols.cls ∈ tb := (tq q_10 rfl)
theorem kdX10_symbols : yX10_symbols.cls ≠ "java/lang/invoke/MethodHandle" ∧ yX10_symbols.cls ≠ "java/lang/invoke/VarHandle" ∧ (parseMethodDescriptor yX10_symbols.desc).map (fun d => d.parameters.length) = some 0 := ⟨by decide +kernel, by decide +kernel, by decide +kernel⟩
theorem kiX10_symbols : Cond.instanceMethod yX10_symbols ∈ tb := (tq q_854 rfl)
theorem ksX10_symbols : Cond.selects yX10_symbols.cls yX10_symbols yX10_symbols ∈ tb := (tq q_855 rfl)
theorem tgX10_symbols {x0 : Nat} {h : PH} {r : Int32 × PH} (hf : (fX10_symbols x0).1 h = some r) : ∃ n x, nth h x0 = some (9, n, x) := by
  obtain ⟨_, _, e, _⟩ := pb_some hf
  exact (chk_some e).2
set_option maxHeartbeats 4000000 in
set_option maxRecDepth 100000 in
theorem metX10_symbols (l : Launch) (G : GG) (ρ : Nat → Nat) {z : Nat} {x0 : Nat} {h hE : PH} {v : Int32} (hf : (fX10_symbols x0).1 h = some (v, hE)) : Met l yX10_symbols (wsY yX10_symbols cX10_symbols 1 (some .int)) (RM 8 207 h hE) (va_Pc [.ref (ρ x0)] (PcB G ρ h z)) (QI G ρ v hE h.length z) (DC h hE) (DS h hE) (Af ρ h.length z) := by
  refine met_start (by decide) (Nat.le_of_ble_eq_true rfl) ?_
  intro p e s m below meth c ls hz C hW hl
  subst hz
  have C : Cx G "PairSymbolsModel" cX10_symbols 1 (some .int) "symbols" p s m _ meth c := C
  have hx := C.1
  have hb := C.2.1
  have hX : Ext hE hE := Ext.rf hE
  have hl : lv_has ls 1 [(0, .ref (ρ x0))] := hl
  have hW : Wd G ρ h.length (sl h) s.heap h s.heap [] 0 0 := hW
  unfold fX10_symbols at hf
  obtain ⟨_, e0, hf⟩ := pb_rd (rd_chk _ _) hf
  refine lv_aload_n hx hb dX10_symbols_0 rfl (lv_at hl 0 rfl) ?_
  obtain ⟨_, h1, e1, hf⟩ := pb_some hf
  obtain ⟨_, _, t2⟩ := tgX10_lays e1
  refine r_callv hW (pext e1) (run_V (b := x0) (As := []) (rest := []) C hW (metX10_lays l G ρ e1) ⟨rfl, rfl⟩ kcX10_lays (tq q_857 rfl) kiX10_lays ksX10_lays knX10_lays kdX10_lays t2 rfl rfl ⟨Nat.le_of_ble_eq_true rfl, Nat.le_of_ble_eq_true rfl⟩ hl.1 (Nat.le_of_ble_eq_true rfl) (room_of hW (pext e1) ((pext hf).tr hX)) dX10_symbols_1 rfl) (fun H locs c1 s1 hW => ?_)
  refine lv_aload_n hx hb dX10_symbols_4 rfl (lv_at hl 0 rfl) ?_
  obtain ⟨v3, e3, hf⟩ := pb_rd (rd_gI _ _ _) hf
  refine r_gI C hW e3 flX10_156 rfl dX10_symbols_5 ?_
  obtain ⟨rfl, rfl⟩ := pp_some hf
  exact r_iret C hW dX10_symbols_8

theorem dX10_isSymbol_0 : decode cX10_isSymbol 0 = .ok (.aload_n 0, 1) := by decide +kernel
theorem dX10_isSymbol_1 : decode cX10_isSymbol 1 = .ok (.invokevirtual 249, 3) := by decide +kernel
theorem dX10_isSymbol_4 : decode cX10_isSymbol 4 = .ok (.iload_n 1, 1) := by decide +kernel
theorem dX10_isSymbol_5 : decode cX10_isSymbol 5 = .ok (.i2l, 1) := by decide +kernel
theorem dX10_isSymbol_6 : decode cX10_isSymbol 6 = .ok (.lconst 0, 1) := by decide +kernel
theorem dX10_isSymbol_7 : decode cX10_isSymbol 7 = .ok (.aload_n 0, 1) := by decide +kernel
theorem dX10_isSymbol_8 : decode cX10_isSymbol 8 = .ok (.getfield 156, 3) := by decide +kernel
theorem dX10_isSymbol_11 : decode cX10_isSymbol 11 = .ok (.iconst 1, 1) := by decide +kernel
theorem dX10_isSymbol_12 : decode cX10_isSymbol 12 = .ok (.isub, 1) := by decide +kernel
theorem dX10_isSymbol_13 : decode cX10_isSymbol 13 = .ok (.i2l, 1) := by decide +kernel
theorem dX10_isSymbol_14 : decode cX10_isSymbol 14 = .ok (.invokestatic 236, 3) := by decide +kernel
theorem dX10_isSymbol_17 : decode cX10_isSymbol 17 = .ok (.ireturn, 1) := by decide +kernel
theorem kcX10_isSymbol : Cond.code yX10_isSymbol cX10_isSymbol 2 (some .boolean) ∈ tb := tq q_938 rfl
theorem knX10_isSymbol : Cond.initialized yX10_isSymbol.cls ∈ tb := (tq q_10 rfl)
theorem kdX10_isSymbol : yX10_isSymbol.cls ≠ "java/lang/invoke/MethodHandle" ∧ yX10_isSymbol.cls ≠ "java/lang/invoke/VarHandle" ∧ (parseMethodDescriptor yX10_isSymbol.desc).map (fun d => d.parameters.length) = some 1 := ⟨by decide +kernel, by decide +kernel, by decide +kernel⟩
theorem kiX10_isSymbol : Cond.instanceMethod yX10_isSymbol ∈ tb := (tq q_937 rfl)
theorem ksX10_isSymbol : Cond.selects yX10_isSymbol.cls yX10_isSymbol yX10_isSymbol ∈ tb := (tq z_46 rfl)
theorem tgX10_isSymbol {x0 : Nat} {x1 : Int32} {h : PH} {r : Int32 × PH} (hf : (fX10_isSymbol x0 x1).1 h = some r) : ∃ n x, nth h x0 = some (9, n, x) := by
  obtain ⟨_, _, e, _⟩ := pb_some hf
  exact (chk_some e).2
set_option maxHeartbeats 4000000 in
set_option maxRecDepth 100000 in
theorem metX10_isSymbol (l : Launch) (G : GG) (ρ : Nat → Nat) {z : Nat} {x0 : Nat} {x1 : Int32} {h hE : PH} {v : Int32} (hf : (fX10_isSymbol x0 x1).1 h = some (v, hE)) : Met l yX10_isSymbol (wsY yX10_isSymbol cX10_isSymbol 2 (some .boolean)) (RM 8 207 h hE) (va_Pc [.ref (ρ x0), .int x1] (PcB G ρ h z)) (QI G ρ v hE h.length z) (DC h hE) (DS h hE) (Af ρ h.length z) := by
  refine met_start (by decide) (Nat.le_of_ble_eq_true rfl) ?_
  intro p e s m below meth c ls hz C hW hl
  subst hz
  have C : Cx G "PairSymbolsModel" cX10_isSymbol 2 (some .boolean) "isSymbol" p s m _ meth c := C
  have hx := C.1
  have hb := C.2.1
  have hX : Ext hE hE := Ext.rf hE
  have hl : lv_has ls 2 [(0, .ref (ρ x0)), (1, .int x1)] := hl
  have hW : Wd G ρ h.length (sl h) s.heap h s.heap [] 0 0 := hW
  unfold fX10_isSymbol at hf
  obtain ⟨_, e0, hf⟩ := pb_rd (rd_chk _ _) hf
  refine lv_aload_n hx hb dX10_isSymbol_0 rfl (lv_at hl 0 rfl) ?_
  obtain ⟨_, h1, e1, hf⟩ := pb_some hf
  obtain ⟨_, _, t2⟩ := tgX10_lays e1
  refine r_callv hW (pext e1) (run_V (b := x0) (As := []) (rest := []) C hW (metX10_lays l G ρ e1) ⟨rfl, rfl⟩ kcX10_lays (tq q_857 rfl) kiX10_lays ksX10_lays knX10_lays kdX10_lays t2 rfl rfl ⟨Nat.le_of_ble_eq_true rfl, Nat.le_of_ble_eq_true rfl⟩ hl.1 (Nat.le_of_ble_eq_true rfl) (room_of hW (pext e1) ((pext hf).tr hX)) dX10_isSymbol_1 rfl) (fun H locs c1 s1 hW => ?_)
  refine lv_iload_n hx hb dX10_isSymbol_4 rfl (lv_at hl 1 rfl) ?_
  refine lv_i2l (v := x1.toInt64) hx hb dX10_isSymbol_5 rfl ?_
  refine lv_lconst (v := 0) hx hb dX10_isSymbol_6 (by decide) ?_
  refine lv_aload_n hx hb dX10_isSymbol_7 rfl (lv_at hl 0 rfl) ?_
  obtain ⟨v3, e3, hf⟩ := pb_rd (rd_gI _ _ _) hf
  refine r_gI C hW e3 flX10_156 rfl dX10_isSymbol_8 ?_
  refine lv_iconst (v := 1) hx hb dX10_isSymbol_11 (by decide) ?_
  refine lv_isub hx hb dX10_isSymbol_12 ?_
  refine lv_i2l (v := (v3 - (1 : Int32)).toInt64) hx hb dX10_isSymbol_13 rfl ?_
  obtain ⟨v4, h4, e4, hf⟩ := pb_some hf
  refine r_calli hW (pext e4) (run_S (As := [.long x1.toInt64, .long (0 : Int64), .long (v3 - (1 : Int32)).toInt64]) (rest := []) C hW (metX10_in l G ρ e4) ⟨rfl, rfl⟩ kcX10_in (tq q_834 rfl) kiX10_in knX10_in kdX10_in ⟨Nat.le_of_ble_eq_true rfl, Nat.le_of_ble_eq_true rfl⟩ hl.1 (Nat.le_of_ble_eq_true rfl) (room_of hW (pext e4) ((pext hf).tr hX)) dX10_isSymbol_14 rfl) (fun H locs c1 s1 hW => ?_)
  obtain ⟨hz, hf⟩ := pz_some hf
  obtain ⟨rfl, rfl⟩ := pp_some hf
  exact r_zret C hW (pz_nar hz) dX10_isSymbol_17

theorem dX10_symbolNow_0 : decode cX10_symbolNow 0 = .ok (.iload_n 2, 1) := by decide +kernel
theorem dX10_symbolNow_1 : decode cX10_symbolNow 1 = .ok (.tableswitch 78 0 5 #[39, 46, 53, 59, 65, 71], 39) := by decide +kernel
theorem dX10_symbolNow_40 : decode cX10_symbolNow 40 = .ok (.aload_n 0, 1) := by decide +kernel
theorem dX10_symbolNow_41 : decode cX10_symbolNow 41 = .ok (.getfield 26, 3) := by decide +kernel
theorem dX10_symbolNow_44 : decode cX10_symbolNow 44 = .ok (.iload_n 1, 1) := by decide +kernel
theorem dX10_symbolNow_45 : decode cX10_symbolNow 45 = .ok (.iaload, 1) := by decide +kernel
theorem dX10_symbolNow_46 : decode cX10_symbolNow 46 = .ok (.ireturn, 1) := by decide +kernel
theorem dX10_symbolNow_47 : decode cX10_symbolNow 47 = .ok (.aload_n 0, 1) := by decide +kernel
theorem dX10_symbolNow_48 : decode cX10_symbolNow 48 = .ok (.getfield 29, 3) := by decide +kernel
theorem dX10_symbolNow_51 : decode cX10_symbolNow 51 = .ok (.iload_n 1, 1) := by decide +kernel
theorem dX10_symbolNow_52 : decode cX10_symbolNow 52 = .ok (.iaload, 1) := by decide +kernel
theorem dX10_symbolNow_53 : decode cX10_symbolNow 53 = .ok (.ireturn, 1) := by decide +kernel
theorem dX10_symbolNow_54 : decode cX10_symbolNow 54 = .ok (.aload_n 0, 1) := by decide +kernel
theorem dX10_symbolNow_55 : decode cX10_symbolNow 55 = .ok (.iload_n 1, 1) := by decide +kernel
theorem dX10_symbolNow_56 : decode cX10_symbolNow 56 = .ok (.invokevirtual 183, 3) := by decide +kernel
theorem dX10_symbolNow_59 : decode cX10_symbolNow 59 = .ok (.ireturn, 1) := by decide +kernel
theorem dX10_symbolNow_60 : decode cX10_symbolNow 60 = .ok (.aload_n 0, 1) := by decide +kernel
theorem dX10_symbolNow_61 : decode cX10_symbolNow 61 = .ok (.iload_n 1, 1) := by decide +kernel
theorem dX10_symbolNow_62 : decode cX10_symbolNow 62 = .ok (.invokevirtual 189, 3) := by decide +kernel
theorem dX10_symbolNow_65 : decode cX10_symbolNow 65 = .ok (.ireturn, 1) := by decide +kernel
theorem dX10_symbolNow_66 : decode cX10_symbolNow 66 = .ok (.aload_n 0, 1) := by decide +kernel
theorem dX10_symbolNow_67 : decode cX10_symbolNow 67 = .ok (.iload_n 1, 1) := by decide +kernel
theorem dX10_symbolNow_68 : decode cX10_symbolNow 68 = .ok (.invokevirtual 165, 3) := by decide +kernel
theorem dX10_symbolNow_71 : decode cX10_symbolNow 71 = .ok (.ireturn, 1) := by decide +kernel
theorem dX10_symbolNow_72 : decode cX10_symbolNow 72 = .ok (.aload_n 0, 1) := by decide +kernel
theorem dX10_symbolNow_73 : decode cX10_symbolNow 73 = .ok (.getfield 32, 3) := by decide +kernel
theorem dX10_symbolNow_76 : decode cX10_symbolNow 76 = .ok (.iload_n 1, 1) := by decide +kernel
theorem dX10_symbolNow_77 : decode cX10_symbolNow 77 = .ok (.iaload, 1) := by decide +kernel
theorem dX10_symbolNow_78 : decode cX10_symbolNow 78 = .ok (.ireturn, 1) := by decide +kernel
theorem dX10_symbolNow_79 : decode cX10_symbolNow 79 = .ok (.aload_n 0, 1) := by decide +kernel
theorem dX10_symbolNow_80 : decode cX10_symbolNow 80 = .ok (.getfield 35, 3) := by decide +kernel
theorem dX10_symbolNow_83 : decode cX10_symbolNow 83 = .ok (.iload_n 1, 1) := by decide +kernel
theorem dX10_symbolNow_84 : decode cX10_symbolNow 84 = .ok (.iaload, 1) := by decide +kernel
theorem dX10_symbolNow_85 : decode cX10_symbolNow 85 = .ok (.ireturn, 1) := by decide +kernel
theorem kcX10_symbolNow : Cond.code yX10_symbolNow cX10_symbolNow 3 (some .int) ∈ tb := tq q_943 rfl
theorem knX10_symbolNow : Cond.initialized yX10_symbolNow.cls ∈ tb := (tq q_10 rfl)
theorem kdX10_symbolNow : yX10_symbolNow.cls ≠ "java/lang/invoke/MethodHandle" ∧ yX10_symbolNow.cls ≠ "java/lang/invoke/VarHandle" ∧ (parseMethodDescriptor yX10_symbolNow.desc).map (fun d => d.parameters.length) = some 2 := ⟨by decide +kernel, by decide +kernel, by decide +kernel⟩
theorem kiX10_symbolNow : Cond.instanceMethod yX10_symbolNow ∈ tb := (tq q_942 rfl)
theorem ksX10_symbolNow : Cond.selects yX10_symbolNow.cls yX10_symbolNow yX10_symbolNow ∈ tb := (tq z_47 rfl)
theorem tgX10_symbolNow {x0 : Nat} {x1 : Int32} {x2 : Int32} {h : PH} {r : Int32 × PH} (hf : (fX10_symbolNow x0 x1 x2).1 h = some r) : ∃ n x, nth h x0 = some (9, n, x) := by
  obtain ⟨_, _, e, _⟩ := pb_some hf
  exact (chk_some e).2
set_option maxHeartbeats 4000000 in
set_option maxRecDepth 100000 in
theorem metX10_symbolNow (l : Launch) (G : GG) (ρ : Nat → Nat) {z : Nat} {x0 : Nat} {x1 : Int32} {x2 : Int32} {h hE : PH} {v : Int32} (hf : (fX10_symbolNow x0 x1 x2).1 h = some (v, hE)) : Met l yX10_symbolNow (wsY yX10_symbolNow cX10_symbolNow 3 (some .int)) (RM 3 66 h hE) (va_Pc [.ref (ρ x0), .int x1, .int x2] (PcB G ρ h z)) (QI G ρ v hE h.length z) (DC h hE) (DS h hE) (Af ρ h.length z) := by
  refine met_start (by decide) (Nat.le_of_ble_eq_true rfl) ?_
  intro p e s m below meth c ls hz C hW hl
  subst hz
  have C : Cx G "PairSymbolsModel" cX10_symbolNow 3 (some .int) "symbolNow" p s m _ meth c := C
  have hx := C.1
  have hb := C.2.1
  have hX : Ext hE hE := Ext.rf hE
  have hl : lv_has ls 3 [(0, .ref (ρ x0)), (1, .int x1), (2, .int x2)] := hl
  have hW : Wd G ρ h.length (sl h) s.heap h s.heap [] 0 0 := hW
  unfold fX10_symbolNow at hf
  obtain ⟨_, e0, hf⟩ := pb_rd (rd_chk _ _) hf
  refine lv_iload_n hx hb dX10_symbolNow_0 rfl (lv_at hl 2 rfl) ?_
  by_cases c1 : x2 = 0
  · rw [if_pos c1] at hf
    refine lv_tableIn (off := 39) (tgt := 40) hx hb dX10_symbolNow_1 (by rw [c1]; decide) (by rw [c1]; decide) (by rw [c1]; decide) (by decide) ?_
    refine lv_aload_n hx hb dX10_symbolNow_40 rfl (lv_at hl 0 rfl) ?_
    obtain ⟨v2, e2, hf⟩ := pb_rd (rd_gA _ _ _) hf
    refine r_gA C hW e2 flX10_26 rfl dX10_symbolNow_41 ?_
    refine lv_iload_n hx hb dX10_symbolNow_44 rfl (lv_at hl 1 rfl) ?_
    obtain ⟨v3, e3, hf⟩ := pb_rd (rd_lI _ _ _) hf
    refine r_iald C hW e3 dX10_symbolNow_45 ?_
    obtain ⟨rfl, rfl⟩ := pp_some hf
    exact r_iret C hW dX10_symbolNow_46
  rw [if_neg c1] at hf
  by_cases c4 : x2 = 1
  · rw [if_pos c4] at hf
    refine lv_tableIn (off := 46) (tgt := 47) hx hb dX10_symbolNow_1 (by rw [c4]; decide) (by rw [c4]; decide) (by rw [c4]; decide) (by decide) ?_
    refine lv_aload_n hx hb dX10_symbolNow_47 rfl (lv_at hl 0 rfl) ?_
    obtain ⟨v5, e5, hf⟩ := pb_rd (rd_gA _ _ _) hf
    refine r_gA C hW e5 flX10_29 rfl dX10_symbolNow_48 ?_
    refine lv_iload_n hx hb dX10_symbolNow_51 rfl (lv_at hl 1 rfl) ?_
    obtain ⟨v6, e6, hf⟩ := pb_rd (rd_lI _ _ _) hf
    refine r_iald C hW e6 dX10_symbolNow_52 ?_
    obtain ⟨rfl, rfl⟩ := pp_some hf
    exact r_iret C hW dX10_symbolNow_53
  rw [if_neg c4] at hf
  by_cases c7 : x2 = 2
  · rw [if_pos c7] at hf
    refine lv_tableIn (off := 53) (tgt := 54) hx hb dX10_symbolNow_1 (by rw [c7]; decide) (by rw [c7]; decide) (by rw [c7]; decide) (by decide) ?_
    refine lv_aload_n hx hb dX10_symbolNow_54 rfl (lv_at hl 0 rfl) ?_
    refine lv_iload_n hx hb dX10_symbolNow_55 rfl (lv_at hl 1 rfl) ?_
    obtain ⟨v8, h8, e8, hf⟩ := pb_some hf
    obtain ⟨_, _, t9⟩ := tgX10_s e8
    refine r_calli hW (pext e8) (run_V (b := x0) (As := [.int x1]) (rest := []) C hW (metX10_s l G ρ e8) ⟨rfl, rfl⟩ kcX10_s (tq q_907 rfl) kiX10_s ksX10_s knX10_s kdX10_s t9 rfl rfl ⟨Nat.le_of_ble_eq_true rfl, Nat.le_of_ble_eq_true rfl⟩ hl.1 (Nat.le_of_ble_eq_true rfl) (room_of hW (pext e8) ((pext hf).tr hX)) dX10_symbolNow_56 rfl) (fun H locs c1 s1 hW => ?_)
    obtain ⟨rfl, rfl⟩ := pp_some hf
    exact r_iret C hW dX10_symbolNow_59
  rw [if_neg c7] at hf
  by_cases c10 : x2 = 3
  · rw [if_pos c10] at hf
    refine lv_tableIn (off := 59) (tgt := 60) hx hb dX10_symbolNow_1 (by rw [c10]; decide) (by rw [c10]; decide) (by rw [c10]; decide) (by decide) ?_
    refine lv_aload_n hx hb dX10_symbolNow_60 rfl (lv_at hl 0 rfl) ?_
    refine lv_iload_n hx hb dX10_symbolNow_61 rfl (lv_at hl 1 rfl) ?_
    obtain ⟨v11, h11, e11, hf⟩ := pb_some hf
    obtain ⟨_, _, t12⟩ := tgX10_r e11
    refine r_calli hW (pext e11) (run_V (b := x0) (As := [.int x1]) (rest := []) C hW (metX10_r l G ρ e11) ⟨rfl, rfl⟩ kcX10_r (tq q_923 rfl) kiX10_r ksX10_r knX10_r kdX10_r t12 rfl rfl ⟨Nat.le_of_ble_eq_true rfl, Nat.le_of_ble_eq_true rfl⟩ hl.1 (Nat.le_of_ble_eq_true rfl) (room_of hW (pext e11) ((pext hf).tr hX)) dX10_symbolNow_62 rfl) (fun H locs c1 s1 hW => ?_)
    obtain ⟨rfl, rfl⟩ := pp_some hf
    exact r_iret C hW dX10_symbolNow_65
  rw [if_neg c10] at hf
  by_cases c13 : x2 = 4
  · rw [if_pos c13] at hf
    refine lv_tableIn (off := 65) (tgt := 66) hx hb dX10_symbolNow_1 (by rw [c13]; decide) (by rw [c13]; decide) (by rw [c13]; decide) (by decide) ?_
    refine lv_aload_n hx hb dX10_symbolNow_66 rfl (lv_at hl 0 rfl) ?_
    refine lv_iload_n hx hb dX10_symbolNow_67 rfl (lv_at hl 1 rfl) ?_
    obtain ⟨v14, h14, e14, hf⟩ := pb_some hf
    obtain ⟨_, _, t15⟩ := tgX10_u e14
    refine r_calli hW (pext e14) (run_V (b := x0) (As := [.int x1]) (rest := []) C hW (metX10_u l G ρ e14) ⟨rfl, rfl⟩ kcX10_u (tq q_883 rfl) kiX10_u ksX10_u knX10_u kdX10_u t15 rfl rfl ⟨Nat.le_of_ble_eq_true rfl, Nat.le_of_ble_eq_true rfl⟩ hl.1 (Nat.le_of_ble_eq_true rfl) (room_of hW (pext e14) ((pext hf).tr hX)) dX10_symbolNow_68 rfl) (fun H locs c1 s1 hW => ?_)
    obtain ⟨rfl, rfl⟩ := pp_some hf
    exact r_iret C hW dX10_symbolNow_71
  rw [if_neg c13] at hf
  by_cases c16 : x2 = 5
  · rw [if_pos c16] at hf
    refine lv_tableIn (off := 71) (tgt := 72) hx hb dX10_symbolNow_1 (by rw [c16]; decide) (by rw [c16]; decide) (by rw [c16]; decide) (by decide) ?_
    refine lv_aload_n hx hb dX10_symbolNow_72 rfl (lv_at hl 0 rfl) ?_
    obtain ⟨v17, e17, hf⟩ := pb_rd (rd_gA _ _ _) hf
    refine r_gA C hW e17 flX10_32 rfl dX10_symbolNow_73 ?_
    refine lv_iload_n hx hb dX10_symbolNow_76 rfl (lv_at hl 1 rfl) ?_
    obtain ⟨v18, e18, hf⟩ := pb_rd (rd_lI _ _ _) hf
    refine r_iald C hW e18 dX10_symbolNow_77 ?_
    obtain ⟨rfl, rfl⟩ := pp_some hf
    exact r_iret C hW dX10_symbolNow_78
  rw [if_neg c16] at hf
  refine lv_tableOut (tgt := 79) hx hb dX10_symbolNow_1 (sw_out [0, 1, 2, 3, 4, 5] (List.forall_mem_cons.mpr ⟨c1, List.forall_mem_cons.mpr ⟨c4, List.forall_mem_cons.mpr ⟨c7, List.forall_mem_cons.mpr ⟨c10, List.forall_mem_cons.mpr ⟨c13, List.forall_mem_cons.mpr ⟨c16, fun _ h => absurd h List.not_mem_nil⟩⟩⟩⟩⟩⟩) (by decide)) (by decide) ?_
  refine lv_aload_n hx hb dX10_symbolNow_79 rfl (lv_at hl 0 rfl) ?_
  obtain ⟨v19, e19, hf⟩ := pb_rd (rd_gA _ _ _) hf
  refine r_gA C hW e19 flX10_35 rfl dX10_symbolNow_80 ?_
  refine lv_iload_n hx hb dX10_symbolNow_83 rfl (lv_at hl 1 rfl) ?_
  obtain ⟨v20, e20, hf⟩ := pb_rd (rd_lI _ _ _) hf
  refine r_iald C hW e20 dX10_symbolNow_84 ?_
  obtain ⟨rfl, rfl⟩ := pp_some hf
  exact r_iret C hW dX10_symbolNow_85

theorem dX10_symbol_0 : decode cX10_symbol 0 = .ok (.aload_n 0, 1) := by decide +kernel
theorem dX10_symbol_1 : decode cX10_symbol 1 = .ok (.iload_n 1, 1) := by decide +kernel
theorem dX10_symbol_2 : decode cX10_symbol 2 = .ok (.invokevirtual 252, 3) := by decide +kernel
theorem dX10_symbol_5 : decode cX10_symbol 5 = .ok (.ifCond .eq 24, 3) := by decide +kernel
theorem dX10_symbol_8 : decode cX10_symbol 8 = .ok (.iload_n 2, 1) := by decide +kernel
theorem dX10_symbol_9 : decode cX10_symbol 9 = .ok (.i2l, 1) := by decide +kernel
theorem dX10_symbol_10 : decode cX10_symbol 10 = .ok (.lconst 0, 1) := by decide +kernel
theorem dX10_symbol_11 : decode cX10_symbol 11 = .ok (.ldc2_w 256, 3) := by decide +kernel
theorem dX10_symbol_14 : decode cX10_symbol 14 = .ok (.invokestatic 236, 3) := by decide +kernel
theorem dX10_symbol_17 : decode cX10_symbol 17 = .ok (.ifCond .eq 12, 3) := by decide +kernel
theorem dX10_symbol_20 : decode cX10_symbol 20 = .ok (.aload_n 0, 1) := by decide +kernel
theorem dX10_symbol_21 : decode cX10_symbol 21 = .ok (.iload_n 1, 1) := by decide +kernel
theorem dX10_symbol_22 : decode cX10_symbol 22 = .ok (.iload_n 2, 1) := by decide +kernel
theorem dX10_symbol_23 : decode cX10_symbol 23 = .ok (.invokevirtual 258, 3) := by decide +kernel
theorem dX10_symbol_26 : decode cX10_symbol 26 = .ok (.goto 9, 3) := by decide +kernel
theorem dX10_symbol_29 : decode cX10_symbol 29 = .ok (.aload_n 0, 1) := by decide +kernel
theorem dX10_symbol_30 : decode cX10_symbol 30 = .ok (.bipush (-2), 2) := by decide +kernel
theorem dX10_symbol_32 : decode cX10_symbol 32 = .ok (.invokevirtual 240, 3) := by decide +kernel
theorem dX10_symbol_35 : decode cX10_symbol 35 = .ok (.ireturn, 1) := by decide +kernel
theorem kcX10_symbol : Cond.code yX10_symbol cX10_symbol 3 (some .int) ∈ tb := tq q_934 rfl
theorem knX10_symbol : Cond.initialized yX10_symbol.cls ∈ tb := (tq q_10 rfl)
theorem kdX10_symbol : yX10_symbol.cls ≠ "java/lang/invoke/MethodHandle" ∧ yX10_symbol.cls ≠ "java/lang/invoke/VarHandle" ∧ (parseMethodDescriptor yX10_symbol.desc).map (fun d => d.parameters.length) = some 2 := ⟨by decide +kernel, by decide +kernel, by decide +kernel⟩
theorem kiX10_symbol : Cond.instanceMethod yX10_symbol ∈ tb := (tq q_932 rfl)
theorem ksX10_symbol : Cond.selects yX10_symbol.cls yX10_symbol yX10_symbol ∈ tb := (tq q_933 rfl)
theorem tgX10_symbol {x0 : Nat} {x1 : Int32} {x2 : Int32} {h : PH} {r : Int32 × PH} (hf : (fX10_symbol x0 x1 x2).1 h = some r) : ∃ n x, nth h x0 = some (9, n, x) := by
  obtain ⟨_, _, e, _⟩ := pb_some hf
  exact (chk_some e).2
set_option maxHeartbeats 4000000 in
set_option maxRecDepth 100000 in
theorem metX10_symbol (l : Launch) (G : GG) (ρ : Nat → Nat) {z : Nat} {x0 : Nat} {x1 : Int32} {x2 : Int32} {h hE : PH} {v : Int32} (hf : (fX10_symbol x0 x1 x2).1 h = some (v, hE)) : Met l yX10_symbol (wsY yX10_symbol cX10_symbol 3 (some .int)) (RM 9 228 h hE) (va_Pc [.ref (ρ x0), .int x1, .int x2] (PcB G ρ h z)) (QI G ρ v hE h.length z) (DC h hE) (DS h hE) (Af ρ h.length z) := by
  refine met_start (by decide) (Nat.le_of_ble_eq_true rfl) ?_
  intro p e s m below meth c ls hz C hW hl
  subst hz
  have C : Cx G "PairSymbolsModel" cX10_symbol 3 (some .int) "symbol" p s m _ meth c := C
  have hx := C.1
  have hb := C.2.1
  have hX : Ext hE hE := Ext.rf hE
  have hl : lv_has ls 3 [(0, .ref (ρ x0)), (1, .int x1), (2, .int x2)] := hl
  have hW : Wd G ρ h.length (sl h) s.heap h s.heap [] 0 0 := hW
  unfold fX10_symbol at hf
  obtain ⟨_, e0, hf⟩ := pb_rd (rd_chk _ _) hf
  refine lv_aload_n hx hb dX10_symbol_0 rfl (lv_at hl 0 rfl) ?_
  refine lv_iload_n hx hb dX10_symbol_1 rfl (lv_at hl 1 rfl) ?_
  obtain ⟨v1, h1, e1, hf⟩ := pb_some hf
  obtain ⟨_, _, t2⟩ := tgX10_isSymbol e1
  refine r_calli hW (pext e1) (run_V (b := x0) (As := [.int x1]) (rest := []) C hW (metX10_isSymbol l G ρ e1) ⟨rfl, rfl⟩ kcX10_isSymbol (tq q_935 rfl) kiX10_isSymbol ksX10_isSymbol knX10_isSymbol kdX10_isSymbol t2 rfl rfl ⟨Nat.le_of_ble_eq_true rfl, Nat.le_of_ble_eq_true rfl⟩ hl.1 (Nat.le_of_ble_eq_true rfl) (room_of hW (pext e1) ((pext hf).tr hX)) dX10_symbol_2 rfl) (fun H locs c1 s1 hW => ?_)
  refine lv_if_eq (tgt := 29) hx hb dX10_symbol_5 (by decide) (fun c3 => ?_) (fun c3 => ?_)
  · rw [if_pos c3] at hf
    refine lv_aload_n hx hb dX10_symbol_29 rfl (lv_at hl 0 rfl) ?_
    refine lv_bipush (v := -2) hx hb dX10_symbol_30 (by decide) ?_
    obtain ⟨v4, h4, e4, hf⟩ := pb_some hf
    obtain ⟨_, _, t5⟩ := tgX10_refuses e4
    refine r_calli hW (pext e4) (run_V (b := x0) (As := [.int (-2 : Int32)]) (rest := []) C hW (metX10_refuses l G ρ e4) ⟨rfl, rfl⟩ kcX10_refuses (tq q_837 rfl) kiX10_refuses ksX10_refuses knX10_refuses kdX10_refuses t5 rfl rfl ⟨Nat.le_of_ble_eq_true rfl, Nat.le_of_ble_eq_true rfl⟩ hl.1 (Nat.le_of_ble_eq_true rfl) (room_of hW (pext e4) ((pext hf).tr hX)) dX10_symbol_32 rfl) (fun H locs c1 s1 hW => ?_)
    obtain ⟨rfl, rfl⟩ := pp_some hf
    exact r_iret C hW dX10_symbol_35
  · rw [if_neg c3] at hf
    refine lv_iload_n hx hb dX10_symbol_8 rfl (lv_at hl 2 rfl) ?_
    refine lv_i2l (v := x2.toInt64) hx hb dX10_symbol_9 rfl ?_
    refine lv_lconst (v := 0) hx hb dX10_symbol_10 (by decide) ?_
    refine r_ldc2 (v := 6) C (tq q_939 rfl) dX10_symbol_11 ?_
    obtain ⟨v6, h6, e6, hf⟩ := pb_some hf
    refine r_calli hW (pext e6) (run_S (As := [.long x2.toInt64, .long (0 : Int64), .long (6 : Int64)]) (rest := []) C hW (metX10_in l G ρ e6) ⟨rfl, rfl⟩ kcX10_in (tq q_834 rfl) kiX10_in knX10_in kdX10_in ⟨Nat.le_of_ble_eq_true rfl, Nat.le_of_ble_eq_true rfl⟩ hl.1 (Nat.le_of_ble_eq_true rfl) (room_of hW (pext e6) ((pext hf).tr hX)) dX10_symbol_14 rfl) (fun H locs c1 s1 hW => ?_)
    refine lv_if_eq (tgt := 29) hx hb dX10_symbol_17 (by decide) (fun c7 => ?_) (fun c7 => ?_)
    · rw [if_pos c7] at hf
      refine lv_aload_n hx hb dX10_symbol_29 rfl (lv_at hl 0 rfl) ?_
      refine lv_bipush (v := -2) hx hb dX10_symbol_30 (by decide) ?_
      obtain ⟨v8, h8, e8, hf⟩ := pb_some hf
      obtain ⟨_, _, t9⟩ := tgX10_refuses e8
      refine r_calli hW (pext e8) (run_V (b := x0) (As := [.int (-2 : Int32)]) (rest := []) C hW (metX10_refuses l G ρ e8) ⟨rfl, rfl⟩ kcX10_refuses (tq q_837 rfl) kiX10_refuses ksX10_refuses knX10_refuses kdX10_refuses t9 rfl rfl ⟨Nat.le_of_ble_eq_true rfl, Nat.le_of_ble_eq_true rfl⟩ hl.1 (Nat.le_of_ble_eq_true rfl) (room_of hW (pext e8) ((pext hf).tr hX)) dX10_symbol_32 rfl) (fun H locs c1 s1 hW => ?_)
      obtain ⟨rfl, rfl⟩ := pp_some hf
      exact r_iret C hW dX10_symbol_35
    · rw [if_neg c7] at hf
      refine lv_aload_n hx hb dX10_symbol_20 rfl (lv_at hl 0 rfl) ?_
      refine lv_iload_n hx hb dX10_symbol_21 rfl (lv_at hl 1 rfl) ?_
      refine lv_iload_n hx hb dX10_symbol_22 rfl (lv_at hl 2 rfl) ?_
      obtain ⟨v10, h10, e10, hf⟩ := pb_some hf
      obtain ⟨_, _, t11⟩ := tgX10_symbolNow e10
      refine r_calli hW (pext e10) (run_V (b := x0) (As := [.int x1, .int x2]) (rest := []) C hW (metX10_symbolNow l G ρ e10) ⟨rfl, rfl⟩ kcX10_symbolNow (tq q_940 rfl) kiX10_symbolNow ksX10_symbolNow knX10_symbolNow kdX10_symbolNow t11 rfl rfl ⟨Nat.le_of_ble_eq_true rfl, Nat.le_of_ble_eq_true rfl⟩ hl.1 (Nat.le_of_ble_eq_true rfl) (room_of hW (pext e10) ((pext hf).tr hX)) dX10_symbol_23 rfl) (fun H locs c1 s1 hW => ?_)
      refine lv_goto (tgt := 35) hx hb dX10_symbol_26 (by decide) ?_
      obtain ⟨rfl, rfl⟩ := pp_some hf
      exact r_iret C hW dX10_symbol_35

theorem dX10_pair_0 : decode cX10_pair 0 = .ok (.iload_n 1, 1) := by decide +kernel
theorem dX10_pair_1 : decode cX10_pair 1 = .ok (.i2l, 1) := by decide +kernel
theorem dX10_pair_2 : decode cX10_pair 2 = .ok (.ldc2_w 261, 3) := by decide +kernel
theorem dX10_pair_5 : decode cX10_pair 5 = .ok (.ldc2_w 263, 3) := by decide +kernel
theorem dX10_pair_8 : decode cX10_pair 8 = .ok (.invokestatic 236, 3) := by decide +kernel
theorem dX10_pair_11 : decode cX10_pair 11 = .ok (.ifCond .eq 17, 3) := by decide +kernel
theorem dX10_pair_14 : decode cX10_pair 14 = .ok (.iload_n 2, 1) := by decide +kernel
theorem dX10_pair_15 : decode cX10_pair 15 = .ok (.i2l, 1) := by decide +kernel
theorem dX10_pair_16 : decode cX10_pair 16 = .ok (.ldc2_w 261, 3) := by decide +kernel
theorem dX10_pair_19 : decode cX10_pair 19 = .ok (.ldc2_w 263, 3) := by decide +kernel
theorem dX10_pair_22 : decode cX10_pair 22 = .ok (.invokestatic 236, 3) := by decide +kernel
theorem dX10_pair_25 : decode cX10_pair 25 = .ok (.ifCond .ne 10, 3) := by decide +kernel
theorem dX10_pair_28 : decode cX10_pair 28 = .ok (.aload_n 0, 1) := by decide +kernel
theorem dX10_pair_29 : decode cX10_pair 29 = .ok (.bipush (-2), 2) := by decide +kernel
theorem dX10_pair_31 : decode cX10_pair 31 = .ok (.invokevirtual 240, 3) := by decide +kernel
theorem dX10_pair_34 : decode cX10_pair 34 = .ok (.ireturn, 1) := by decide +kernel
theorem dX10_pair_35 : decode cX10_pair 35 = .ok (.aload_n 0, 1) := by decide +kernel
theorem dX10_pair_36 : decode cX10_pair 36 = .ok (.invokevirtual 249, 3) := by decide +kernel
theorem dX10_pair_39 : decode cX10_pair 39 = .ok (.aload_n 0, 1) := by decide +kernel
theorem dX10_pair_40 : decode cX10_pair 40 = .ok (.iload_n 1, 1) := by decide +kernel
theorem dX10_pair_41 : decode cX10_pair 41 = .ok (.iload_n 2, 1) := by decide +kernel
theorem dX10_pair_42 : decode cX10_pair 42 = .ok (.invokevirtual 159, 3) := by decide +kernel
theorem dX10_pair_45 : decode cX10_pair 45 = .ok (.ireturn, 1) := by decide +kernel
theorem kcX10_pair : Cond.code yX10_pair cX10_pair 3 (some .int) ∈ tb := tq q_947 rfl
theorem knX10_pair : Cond.initialized yX10_pair.cls ∈ tb := (tq q_10 rfl)
theorem kdX10_pair : yX10_pair.cls ≠ "java/lang/invoke/MethodHandle" ∧ yX10_pair.cls ≠ "java/lang/invoke/VarHandle" ∧ (parseMethodDescriptor yX10_pair.desc).map (fun d => d.parameters.length) = some 2 := ⟨by decide +kernel, by decide +kernel, by decide +kernel⟩
theorem kiX10_pair : Cond.instanceMethod yX10_pair ∈ tb := (tq q_945 rfl)
theorem ksX10_pair : Cond.selects yX10_pair.cls yX10_pair yX10_pair ∈ tb := (tq q_946 rfl)
theorem tgX10_pair {x0 : Nat} {x1 : Int32} {x2 : Int32} {h : PH} {r : Int32 × PH} (hf : (fX10_pair x0 x1 x2).1 h = some r) : ∃ n x, nth h x0 = some (9, n, x) := by
  obtain ⟨_, _, e, _⟩ := pb_some hf
  exact (chk_some e).2
set_option maxHeartbeats 4000000 in
set_option maxRecDepth 100000 in
theorem metX10_pair (l : Launch) (G : GG) (ρ : Nat → Nat) {z : Nat} {x0 : Nat} {x1 : Int32} {x2 : Int32} {h hE : PH} {v : Int32} (hf : (fX10_pair x0 x1 x2).1 h = some (v, hE)) : Met l yX10_pair (wsY yX10_pair cX10_pair 3 (some .int)) (RM 8 207 h hE) (va_Pc [.ref (ρ x0), .int x1, .int x2] (PcB G ρ h z)) (QI G ρ v hE h.length z) (DC h hE) (DS h hE) (Af ρ h.length z) := by
  refine met_start (by decide) (Nat.le_of_ble_eq_true rfl) ?_
  intro p e s m below meth c ls hz C hW hl
  subst hz
  have C : Cx G "PairSymbolsModel" cX10_pair 3 (some .int) "pai\x72" p s m _ meth c := C
  have hx := C.1
  have hb := C.2.1
  have hX : Ext hE hE := Ext.rf hE
  have hl : lv_has ls 3 [(0, .ref (ρ x0)), (1, .int x1), (2, .int x2)] := hl
  have hW : Wd G ρ h.length (sl h) s.heap h s.heap [] 0 0 := hW
  unfold fX10_pair at hf
  obtain ⟨_, e0, hf⟩ := pb_rd (rd_chk _ _) hf
  refine lv_iload_n hx hb dX10_pair_0 rfl (lv_at hl 1 rfl) ?_
  refine lv_i2l (v := x1.toInt64) hx hb dX10_pair_1 rfl ?_
  refine r_ldc2 (v := -9999) C (tq q_948 rfl) dX10_pair_2 ?_
  refine r_ldc2 (v := 9999) C (tq q_949 rfl) dX10_pair_5 ?_
  obtain ⟨v1, h1, e1, hf⟩ := pb_some hf
  refine r_calli hW (pext e1) (run_S (As := [.long x1.toInt64, .long (-9999 : Int64), .long (9999 : Int64)]) (rest := []) C hW (metX10_in l G ρ e1) ⟨rfl, rfl⟩ kcX10_in (tq q_834 rfl) kiX10_in knX10_in kdX10_in ⟨Nat.le_of_ble_eq_true rfl, Nat.le_of_ble_eq_true rfl⟩ hl.1 (Nat.le_of_ble_eq_true rfl) (room_of hW (pext e1) ((pext hf).tr hX)) dX10_pair_8 rfl) (fun H locs c1 s1 hW => ?_)
  refine lv_if_eq (tgt := 28) hx hb dX10_pair_11 (by decide) (fun c2 => ?_) (fun c2 => ?_)
  · rw [if_pos c2] at hf
    refine lv_aload_n hx hb dX10_pair_28 rfl (lv_at hl 0 rfl) ?_
    refine lv_bipush (v := -2) hx hb dX10_pair_29 (by decide) ?_
    obtain ⟨v3, h3, e3, hf⟩ := pb_some hf
    obtain ⟨_, _, t4⟩ := tgX10_refuses e3
    refine r_calli hW (pext e3) (run_V (b := x0) (As := [.int (-2 : Int32)]) (rest := []) C hW (metX10_refuses l G ρ e3) ⟨rfl, rfl⟩ kcX10_refuses (tq q_837 rfl) kiX10_refuses ksX10_refuses knX10_refuses kdX10_refuses t4 rfl rfl ⟨Nat.le_of_ble_eq_true rfl, Nat.le_of_ble_eq_true rfl⟩ hl.1 (Nat.le_of_ble_eq_true rfl) (room_of hW (pext e3) ((pext hf).tr hX)) dX10_pair_31 rfl) (fun H locs c1 s1 hW => ?_)
    obtain ⟨rfl, rfl⟩ := pp_some hf
    exact r_iret C hW dX10_pair_34
  · rw [if_neg c2] at hf
    refine lv_iload_n hx hb dX10_pair_14 rfl (lv_at hl 2 rfl) ?_
    refine lv_i2l (v := x2.toInt64) hx hb dX10_pair_15 rfl ?_
    refine r_ldc2 (v := -9999) C (tq q_948 rfl) dX10_pair_16 ?_
    refine r_ldc2 (v := 9999) C (tq q_949 rfl) dX10_pair_19 ?_
    obtain ⟨v5, h5, e5, hf⟩ := pb_some hf
    refine r_calli hW (pext e5) (run_S (As := [.long x2.toInt64, .long (-9999 : Int64), .long (9999 : Int64)]) (rest := []) C hW (metX10_in l G ρ e5) ⟨rfl, rfl⟩ kcX10_in (tq q_834 rfl) kiX10_in knX10_in kdX10_in ⟨Nat.le_of_ble_eq_true rfl, Nat.le_of_ble_eq_true rfl⟩ hl.1 (Nat.le_of_ble_eq_true rfl) (room_of hW (pext e5) ((pext hf).tr hX)) dX10_pair_22 rfl) (fun H locs c1 s1 hW => ?_)
    refine lv_if_ne (tgt := 35) hx hb dX10_pair_25 (by decide) (fun c6 => ?_) (fun c6 => ?_)
    · rw [if_neg c6] at hf
      refine lv_aload_n hx hb dX10_pair_35 rfl (lv_at hl 0 rfl) ?_
      obtain ⟨_, h7, e7, hf⟩ := pb_some hf
      obtain ⟨_, _, t8⟩ := tgX10_lays e7
      refine r_callv hW (pext e7) (run_V (b := x0) (As := []) (rest := []) C hW (metX10_lays l G ρ e7) ⟨rfl, rfl⟩ kcX10_lays (tq q_857 rfl) kiX10_lays ksX10_lays knX10_lays kdX10_lays t8 rfl rfl ⟨Nat.le_of_ble_eq_true rfl, Nat.le_of_ble_eq_true rfl⟩ hl.1 (Nat.le_of_ble_eq_true rfl) (room_of hW (pext e7) ((pext hf).tr hX)) dX10_pair_36 rfl) (fun H locs c1 s1 hW => ?_)
      refine lv_aload_n hx hb dX10_pair_39 rfl (lv_at hl 0 rfl) ?_
      refine lv_iload_n hx hb dX10_pair_40 rfl (lv_at hl 1 rfl) ?_
      refine lv_iload_n hx hb dX10_pair_41 rfl (lv_at hl 2 rfl) ?_
      obtain ⟨v9, h9, e9, hf⟩ := pb_some hf
      obtain ⟨_, _, t10⟩ := tgX10_of e9
      refine r_calli hW (pext e9) (run_V (b := x0) (As := [.int x1, .int x2]) (rest := []) C hW (metX10_of l G ρ e9) ⟨rfl, rfl⟩ kcX10_of (tq q_868 rfl) kiX10_of ksX10_of knX10_of kdX10_of t10 rfl rfl ⟨Nat.le_of_ble_eq_true rfl, Nat.le_of_ble_eq_true rfl⟩ hl.1 (Nat.le_of_ble_eq_true rfl) (room_of hW (pext e9) ((pext hf).tr hX)) dX10_pair_42 rfl) (fun H locs c1 s1 hW => ?_)
      obtain ⟨rfl, rfl⟩ := pp_some hf
      exact r_iret C hW dX10_pair_45
    · rw [if_pos c6] at hf
      refine lv_aload_n hx hb dX10_pair_28 rfl (lv_at hl 0 rfl) ?_
      refine lv_bipush (v := -2) hx hb dX10_pair_29 (by decide) ?_
      obtain ⟨v11, h11, e11, hf⟩ := pb_some hf
      obtain ⟨_, _, t12⟩ := tgX10_refuses e11
      refine r_calli hW (pext e11) (run_V (b := x0) (As := [.int (-2 : Int32)]) (rest := []) C hW (metX10_refuses l G ρ e11) ⟨rfl, rfl⟩ kcX10_refuses (tq q_837 rfl) kiX10_refuses ksX10_refuses knX10_refuses kdX10_refuses t12 rfl rfl ⟨Nat.le_of_ble_eq_true rfl, Nat.le_of_ble_eq_true rfl⟩ hl.1 (Nat.le_of_ble_eq_true rfl) (room_of hW (pext e11) ((pext hf).tr hX)) dX10_pair_31 rfl) (fun H locs c1 s1 hW => ?_)
      obtain ⟨rfl, rfl⟩ := pp_some hf
      exact r_iret C hW dX10_pair_34

theorem dX10_plain_0 : decode cX10_plain 0 = .ok (.iconst 0, 1) := by decide +kernel
theorem dX10_plain_1 : decode cX10_plain 1 = .ok (.istore_n 1, 1) := by decide +kernel
theorem dX10_plain_2 : decode cX10_plain 2 = .ok (.iconst 0, 1) := by decide +kernel
theorem dX10_plain_3 : decode cX10_plain 3 = .ok (.istore_n 2, 1) := by decide +kernel
theorem dX10_plain_4 : decode cX10_plain 4 = .ok (.iload_n 2, 1) := by decide +kernel
theorem dX10_plain_5 : decode cX10_plain 5 = .ok (.aload_n 0, 1) := by decide +kernel
theorem dX10_plain_6 : decode cX10_plain 6 = .ok (.getfield 192, 3) := by decide +kernel
theorem dX10_plain_9 : decode cX10_plain 9 = .ok (.if_icmp .ge 46, 3) := by decide +kernel
theorem dX10_plain_12 : decode cX10_plain 12 = .ok (.iload_n 1, 1) := by decide +kernel
theorem dX10_plain_13 : decode cX10_plain 13 = .ok (.aload_n 0, 1) := by decide +kernel
theorem dX10_plain_14 : decode cX10_plain 14 = .ok (.getfield 32, 3) := by decide +kernel
theorem dX10_plain_17 : decode cX10_plain 17 = .ok (.aload_n 0, 1) := by decide +kernel
theorem dX10_plain_18 : decode cX10_plain 18 = .ok (.getfield 38, 3) := by decide +kernel
theorem dX10_plain_21 : decode cX10_plain 21 = .ok (.iload_n 2, 1) := by decide +kernel
theorem dX10_plain_22 : decode cX10_plain 22 = .ok (.iaload, 1) := by decide +kernel
theorem dX10_plain_23 : decode cX10_plain 23 = .ok (.iaload, 1) := by decide +kernel
theorem dX10_plain_24 : decode cX10_plain 24 = .ok (.aload_n 0, 1) := by decide +kernel
theorem dX10_plain_25 : decode cX10_plain 25 = .ok (.getfield 32, 3) := by decide +kernel
theorem dX10_plain_28 : decode cX10_plain 28 = .ok (.aload_n 0, 1) := by decide +kernel
theorem dX10_plain_29 : decode cX10_plain 29 = .ok (.aload_n 0, 1) := by decide +kernel
theorem dX10_plain_30 : decode cX10_plain 30 = .ok (.getfield 38, 3) := by decide +kernel
theorem dX10_plain_33 : decode cX10_plain 33 = .ok (.iload_n 2, 1) := by decide +kernel
theorem dX10_plain_34 : decode cX10_plain 34 = .ok (.iaload, 1) := by decide +kernel
theorem dX10_plain_35 : decode cX10_plain 35 = .ok (.invokevirtual 183, 3) := by decide +kernel
theorem dX10_plain_38 : decode cX10_plain 38 = .ok (.iaload, 1) := by decide +kernel
theorem dX10_plain_39 : decode cX10_plain 39 = .ok (.if_icmp .ne 7, 3) := by decide +kernel
theorem dX10_plain_42 : decode cX10_plain 42 = .ok (.iconst 1, 1) := by decide +kernel
theorem dX10_plain_43 : decode cX10_plain 43 = .ok (.goto 4, 3) := by decide +kernel
theorem dX10_plain_46 : decode cX10_plain 46 = .ok (.iconst 0, 1) := by decide +kernel
theorem dX10_plain_47 : decode cX10_plain 47 = .ok (.iadd, 1) := by decide +kernel
theorem dX10_plain_48 : decode cX10_plain 48 = .ok (.istore_n 1, 1) := by decide +kernel
theorem dX10_plain_49 : decode cX10_plain 49 = .ok (.iinc 2 1, 3) := by decide +kernel
theorem dX10_plain_52 : decode cX10_plain 52 = .ok (.goto (-48), 3) := by decide +kernel
theorem dX10_plain_55 : decode cX10_plain 55 = .ok (.iload_n 1, 1) := by decide +kernel
theorem dX10_plain_56 : decode cX10_plain 56 = .ok (.ireturn, 1) := by decide +kernel
theorem kcX10_plain : Cond.code yX10_plain cX10_plain 3 (some .int) ∈ tb := tq q_990 rfl
theorem knX10_plain : Cond.initialized yX10_plain.cls ∈ tb := (tq q_10 rfl)
theorem kdX10_plain : yX10_plain.cls ≠ "java/lang/invoke/MethodHandle" ∧ yX10_plain.cls ≠ "java/lang/invoke/VarHandle" ∧ (parseMethodDescriptor yX10_plain.desc).map (fun d => d.parameters.length) = some 0 := ⟨by decide +kernel, by decide +kernel, by decide +kernel⟩
theorem kiX10_plain : Cond.instanceMethod yX10_plain ∈ tb := (tq q_989 rfl)
theorem ksX10_plain : Cond.selects yX10_plain.cls yX10_plain yX10_plain ∈ tb := (tq z_56 rfl)
theorem tgX10_plain {x0 : Nat} {h : PH} {r : Int32 × PH} (hf : (fX10_plain x0).1 h = some r) : ∃ n x, nth h x0 = some (9, n, x) := by
  obtain ⟨_, _, e, _⟩ := pb_some hf
  exact (chk_some e).2
set_option maxHeartbeats 4000000 in
set_option maxRecDepth 100000 in
theorem wX10_plain_B4 {p : Program} {l : Launch} {e : Env} {s : State} {m : MethodId} {args : Array Value} {below : List Frame} {meth : Method} {c : Code} {G : GG} {ρ : Nat → Nat} {h0 hE hB : PH} {Q : State → Prop} {x0 : Nat} (C : Cx G "PairSymbolsModel" cX10_plain 3 (some .int) "plain" p s m args meth c) {x1 : Int32} {x2 : Int32} {h : PH} {H : Heap} {locs : List Loc} {cells slots : Nat} {ls : Array Slot} {r : (Int32 × Int32) ⊕ (Int32)} (hf : (fX10_plain_b4 x0 x1 x2).1 h = some (r, hB)) (hX : Ext hB hE) (hW : Wd G ρ h0.length (sl h0) s.heap h H locs cells slots) (hl : lv_has ls 3 [(0, .ref (ρ x0)), (1, .int x1), (2, .int x2)]) (kc : ∀ y : Int32 × Int32, r = .inl y → ∀ (H : Heap) (locs : List Loc) (c1 s1 : Nat) (ls : Array Slot), Wd G ρ h0.length (sl h0) s.heap hB H locs c1 s1 → lv_has ls 3 [(0, .ref (ρ x0)), (1, .int y.1), (2, .int y.2)] → W p l e (RM 3 66 h0 hE) s m args below meth c H locs c1 s1 Q (F0 m 4 ls [])) (ke : ∀ z : Int32, r = .inr z → ∀ (H : Heap) (locs : List Loc) (c1 s1 : Nat) (ls : Array Slot), Wd G ρ h0.length (sl h0) s.heap hB H locs c1 s1 → lv_has ls 3 [(1, .int z)] → W p l e (RM 3 66 h0 hE) s m args below meth c H locs c1 s1 Q (F0 m 55 ls [])) : W p l e (RM 3 66 h0 hE) s m args below meth c H locs cells slots Q (F0 m 4 ls []) := by
  have hx := C.1
  have hb := C.2.1
  unfold fX10_plain_b4 at hf
  refine lv_iload_n hx hb dX10_plain_4 rfl (lv_at hl 2 rfl) ?_
  refine lv_aload_n hx hb dX10_plain_5 rfl (lv_at hl 0 rfl) ?_
  obtain ⟨v1, e1, hf⟩ := pb_rd (rd_gI _ _ _) hf
  refine r_gI C hW e1 flX10_192 rfl dX10_plain_6 ?_
  refine lv_icmp_ge (tgt := 55) hx hb dX10_plain_9 (by decide) (fun c2 => ?_) (fun c2 => ?_)
  · rw [if_pos c2] at hf
    obtain ⟨rfl, rfl⟩ := pp_some hf
    exact ke _ rfl _ _ _ _ _ hW (lv_sub hl [1] rfl)
  · rw [if_neg c2] at hf
    refine lv_iload_n hx hb dX10_plain_12 rfl (lv_at hl 1 rfl) ?_
    refine lv_aload_n hx hb dX10_plain_13 rfl (lv_at hl 0 rfl) ?_
    obtain ⟨v3, e3, hf⟩ := pb_rd (rd_gA _ _ _) hf
    refine r_gA C hW e3 flX10_32 rfl dX10_plain_14 ?_
    refine lv_aload_n hx hb dX10_plain_17 rfl (lv_at hl 0 rfl) ?_
    obtain ⟨v4, e4, hf⟩ := pb_rd (rd_gA _ _ _) hf
    refine r_gA C hW e4 flX10_38 rfl dX10_plain_18 ?_
    refine lv_iload_n hx hb dX10_plain_21 rfl (lv_at hl 2 rfl) ?_
    obtain ⟨v5, e5, hf⟩ := pb_rd (rd_lI _ _ _) hf
    refine r_iald C hW e5 dX10_plain_22 ?_
    obtain ⟨v6, e6, hf⟩ := pb_rd (rd_lI _ _ _) hf
    refine r_iald C hW e6 dX10_plain_23 ?_
    refine lv_aload_n hx hb dX10_plain_24 rfl (lv_at hl 0 rfl) ?_
    obtain ⟨v7, e7, hf⟩ := pb_rd (rd_gA _ _ _) hf
    refine r_gA C hW e7 flX10_32 rfl dX10_plain_25 ?_
    refine lv_aload_n hx hb dX10_plain_28 rfl (lv_at hl 0 rfl) ?_
    refine lv_aload_n hx hb dX10_plain_29 rfl (lv_at hl 0 rfl) ?_
    obtain ⟨v8, e8, hf⟩ := pb_rd (rd_gA _ _ _) hf
    refine r_gA C hW e8 flX10_38 rfl dX10_plain_30 ?_
    refine lv_iload_n hx hb dX10_plain_33 rfl (lv_at hl 2 rfl) ?_
    obtain ⟨v9, e9, hf⟩ := pb_rd (rd_lI _ _ _) hf
    refine r_iald C hW e9 dX10_plain_34 ?_
    obtain ⟨v10, h10, e10, hf⟩ := pb_some hf
    obtain ⟨_, _, t11⟩ := tgX10_s e10
    refine r_calli hW (pext e10) (run_V (b := x0) (As := [.int v9]) (rest := [.ref (ρ v7), .int v6, .int x1]) C hW (metX10_s l G ρ e10) ⟨rfl, rfl⟩ kcX10_s (tq q_907 rfl) kiX10_s ksX10_s knX10_s kdX10_s t11 rfl rfl ⟨Nat.le_of_ble_eq_true rfl, Nat.le_of_ble_eq_true rfl⟩ hl.1 (Nat.le_of_ble_eq_true rfl) (room_of hW (pext e10) ((pext hf).tr hX)) dX10_plain_35 rfl) (fun H locs c1 s1 hW => ?_)
    obtain ⟨v12, e12, hf⟩ := pb_rd (rd_lI _ _ _) hf
    refine r_iald C hW e12 dX10_plain_38 ?_
    refine lv_icmp_ne (tgt := 46) hx hb dX10_plain_39 (by decide) (fun c13 => ?_) (fun c13 => ?_)
    · rw [if_neg c13] at hf
      refine lv_iconst (v := 0) hx hb dX10_plain_46 (by decide) ?_
      refine lv_iadd hx hb dX10_plain_47 ?_
      refine lv_istore_n (lv' := [(1, .int (x1 + (0 : Int32))), (0, .ref (ρ x0)), (2, .int x2)]) hx hb dX10_plain_48 rfl hl (by decide) rfl (fun ls hl => ?_)
      refine lv_iinc (v := (x2 + 1)) (lv' := [(2, .int (x2 + 1)), (1, .int (x1 + (0 : Int32))), (0, .ref (ρ x0))]) hx hb dX10_plain_49 hl (k := 2) rfl rfl (by decide) rfl (fun ls hl => ?_)
      refine lv_goto (tgt := 4) hx hb dX10_plain_52 (by decide) ?_
      obtain ⟨rfl, rfl⟩ := pp_some hf
      exact kc _ rfl _ _ _ _ _ hW (lv_sub hl [2, 1, 0] rfl)
    · rw [if_pos c13] at hf
      refine lv_iconst (v := 1) hx hb dX10_plain_42 (by decide) ?_
      refine lv_goto (tgt := 47) hx hb dX10_plain_43 (by decide) ?_
      refine lv_iadd hx hb dX10_plain_47 ?_
      refine lv_istore_n (lv' := [(1, .int (x1 + (1 : Int32))), (0, .ref (ρ x0)), (2, .int x2)]) hx hb dX10_plain_48 rfl hl (by decide) rfl (fun ls hl => ?_)
      refine lv_iinc (v := (x2 + 1)) (lv' := [(2, .int (x2 + 1)), (1, .int (x1 + (1 : Int32))), (0, .ref (ρ x0))]) hx hb dX10_plain_49 hl (k := 2) rfl rfl (by decide) rfl (fun ls hl => ?_)
      refine lv_goto (tgt := 4) hx hb dX10_plain_52 (by decide) ?_
      obtain ⟨rfl, rfl⟩ := pp_some hf
      exact kc _ rfl _ _ _ _ _ hW (lv_sub hl [2, 1, 0] rfl)
set_option maxHeartbeats 4000000 in
theorem wX10_plain_L4 {p : Program} {l : Launch} {e : Env} {s : State} {m : MethodId} {args : Array Value} {below : List Frame} {meth : Method} {c : Code} {G : GG} {ρ : Nat → Nat} {h0 hE hB : PH} {Q : State → Prop} {x0 : Nat} (C : Cx G "PairSymbolsModel" cX10_plain 3 (some .int) "plain" p s m args meth c) {z : (Int32)} (n : Nat) : ∀ (x : Int32 × Int32) {h : PH} {H : Heap} {locs : List Loc} {cells slots : Nat} {ls : Array Slot}, (plo (fX10_plain_B4 x0) n x).1 h = some (z, hB) → Ext hB hE → Wd G ρ h0.length (sl h0) s.heap h H locs cells slots → lv_has ls 3 [(0, .ref (ρ x0)), (1, .int x.1), (2, .int x.2)] → (ke : ∀ (H : Heap) (locs : List Loc) (c1 s1 : Nat) (ls : Array Slot), Wd G ρ h0.length (sl h0) s.heap hB H locs c1 s1 → lv_has ls 3 [(1, .int z)] → W p l e (RM 3 66 h0 hE) s m args below meth c H locs c1 s1 Q (F0 m 55 ls [])) → W p l e (RM 3 66 h0 hE) s m args below meth c H locs cells slots Q (F0 m 4 ls []) := by
  induction n with
  | zero =>
    intro x h H locs cells slots ls hf
    rw [plo_0] at hf
    exact (pf_no hf).elim
  | succ n ih =>
    intro x h H locs cells slots ls hf hX hW hl ke
    rw [plo_s] at hf
    obtain ⟨r, h1, e1, hf⟩ := pb_some hf
    unfold fX10_plain_B4 at e1
    rw [frI_eq, frI_eq] at e1
    refine wX10_plain_B4 C e1 ((pext hf).tr hX) hW hl (fun y hr H locs c1 s1 ls hW hl => ?_) (fun y hr H locs c1 s1 ls hW hl => ?_)
    · subst hr
      exact ih y hf hX hW hl ke
    · subst hr
      obtain ⟨rfl, rfl⟩ := pp_some hf
      exact ke H locs c1 s1 ls hW hl
set_option maxHeartbeats 4000000 in
set_option maxRecDepth 100000 in
theorem metX10_plain (l : Launch) (G : GG) (ρ : Nat → Nat) {z : Nat} {x0 : Nat} {h hE : PH} {v : Int32} (hf : (fX10_plain x0).1 h = some (v, hE)) : Met l yX10_plain (wsY yX10_plain cX10_plain 3 (some .int)) (RM 3 66 h hE) (va_Pc [.ref (ρ x0)] (PcB G ρ h z)) (QI G ρ v hE h.length z) (DC h hE) (DS h hE) (Af ρ h.length z) := by
  refine met_start (by decide) (Nat.le_of_ble_eq_true rfl) ?_
  intro p e s m below meth c ls hz C hW hl
  subst hz
  have C : Cx G "PairSymbolsModel" cX10_plain 3 (some .int) "plain" p s m _ meth c := C
  have hx := C.1
  have hb := C.2.1
  have hX : Ext hE hE := Ext.rf hE
  have hl : lv_has ls 3 [(0, .ref (ρ x0))] := hl
  have hW : Wd G ρ h.length (sl h) s.heap h s.heap [] 0 0 := hW
  unfold fX10_plain at hf
  obtain ⟨_, e0, hf⟩ := pb_rd (rd_chk _ _) hf
  refine lv_iconst (v := 0) hx hb dX10_plain_0 (by decide) ?_
  refine lv_istore_n (lv' := [(1, .int (0 : Int32)), (0, .ref (ρ x0))]) hx hb dX10_plain_1 rfl hl (by decide) rfl (fun ls hl => ?_)
  refine lv_iconst (v := 0) hx hb dX10_plain_2 (by decide) ?_
  refine lv_istore_n (lv' := [(2, .int (0 : Int32)), (1, .int (0 : Int32)), (0, .ref (ρ x0))]) hx hb dX10_plain_3 rfl hl (by decide) rfl (fun ls hl => ?_)
  obtain ⟨z14, h14, e14, hf⟩ := pb_some hf
  refine wX10_plain_L4 C fu _ e14 ((pext hf).tr hX) hW (lv_sub hl [2, 1, 0] rfl) (fun H locs c1 s1 ls hW hl => ?_)
  refine lv_iload_n hx hb dX10_plain_55 rfl (lv_at hl 0 rfl) ?_
  obtain ⟨rfl, rfl⟩ := pp_some hf
  exact r_iret C hW dX10_plain_56

theorem dX10_genus_0 : decode cX10_genus 0 = .ok (.aload_n 0, 1) := by decide +kernel
theorem dX10_genus_1 : decode cX10_genus 1 = .ok (.invokevirtual 265, 3) := by decide +kernel
theorem dX10_genus_4 : decode cX10_genus 4 = .ok (.aload_n 0, 1) := by decide +kernel
theorem dX10_genus_5 : decode cX10_genus 5 = .ok (.getfield 231, 3) := by decide +kernel
theorem dX10_genus_8 : decode cX10_genus 8 = .ok (.iconst 2, 1) := by decide +kernel
theorem dX10_genus_9 : decode cX10_genus 9 = .ok (.idiv, 1) := by decide +kernel
theorem dX10_genus_10 : decode cX10_genus 10 = .ok (.ireturn, 1) := by decide +kernel
theorem kcX10_genus : Cond.code yX10_genus cX10_genus 1 (some .int) ∈ tb := tq q_962 rfl
theorem knX10_genus : Cond.initialized yX10_genus.cls ∈ tb := (tq q_10 rfl)
theorem kdX10_genus : yX10_genus.cls ≠ "java/lang/invoke/MethodHandle" ∧ yX10_genus.cls ≠ "java/lang/invoke/VarHandle" ∧ (parseMethodDescriptor yX10_genus.desc).map (fun d => d.parameters.length) = some 0 := ⟨by decide +kernel, by decide +kernel, by decide +kernel⟩
theorem kiX10_genus : Cond.instanceMethod yX10_genus ∈ tb := (tq q_961 rfl)
theorem ksX10_genus : Cond.selects yX10_genus.cls yX10_genus yX10_genus ∈ tb := (tq z_49 rfl)
theorem tgX10_genus {x0 : Nat} {h : PH} {r : Int32 × PH} (hf : (fX10_genus x0).1 h = some r) : ∃ n x, nth h x0 = some (9, n, x) := by
  obtain ⟨_, _, e, _⟩ := pb_some hf
  exact (chk_some e).2
set_option maxHeartbeats 4000000 in
set_option maxRecDepth 100000 in
theorem metX10_genus (l : Launch) (G : GG) (ρ : Nat → Nat) {z : Nat} {x0 : Nat} {h hE : PH} {v : Int32} (hf : (fX10_genus x0).1 h = some (v, hE)) : Met l yX10_genus (wsY yX10_genus cX10_genus 1 (some .int)) (RM 7 189 h hE) (va_Pc [.ref (ρ x0)] (PcB G ρ h z)) (QI G ρ v hE h.length z) (DC h hE) (DS h hE) (Af ρ h.length z) := by
  refine met_start (by decide) (Nat.le_of_ble_eq_true rfl) ?_
  intro p e s m below meth c ls hz C hW hl
  subst hz
  have C : Cx G "PairSymbolsModel" cX10_genus 1 (some .int) "genus" p s m _ meth c := C
  have hx := C.1
  have hb := C.2.1
  have hX : Ext hE hE := Ext.rf hE
  have hl : lv_has ls 1 [(0, .ref (ρ x0))] := hl
  have hW : Wd G ρ h.length (sl h) s.heap h s.heap [] 0 0 := hW
  unfold fX10_genus at hf
  obtain ⟨_, e0, hf⟩ := pb_rd (rd_chk _ _) hf
  refine lv_aload_n hx hb dX10_genus_0 rfl (lv_at hl 0 rfl) ?_
  obtain ⟨_, h1, e1, hf⟩ := pb_some hf
  obtain ⟨_, _, t2⟩ := tgX10_laysCuspidals e1
  refine r_callv hW (pext e1) (run_V (b := x0) (As := []) (rest := []) C hW (metX10_laysCuspidals l G ρ e1) ⟨rfl, rfl⟩ kcX10_laysCuspidals (tq q_963 rfl) kiX10_laysCuspidals ksX10_laysCuspidals knX10_laysCuspidals kdX10_laysCuspidals t2 rfl rfl ⟨Nat.le_of_ble_eq_true rfl, Nat.le_of_ble_eq_true rfl⟩ hl.1 (Nat.le_of_ble_eq_true rfl) (room_of hW (pext e1) ((pext hf).tr hX)) dX10_genus_1 rfl) (fun H locs c1 s1 hW => ?_)
  refine lv_aload_n hx hb dX10_genus_4 rfl (lv_at hl 0 rfl) ?_
  obtain ⟨v3, e3, hf⟩ := pb_rd (rd_gI _ _ _) hf
  refine r_gI C hW e3 flX10_231 rfl dX10_genus_5 ?_
  refine lv_iconst (v := 2) hx hb dX10_genus_8 (by decide) ?_
  refine lv_idiv hx hb dX10_genus_9 (by decide) ?_
  obtain ⟨rfl, rfl⟩ := pp_some hf
  exact r_iret C hW dX10_genus_10

theorem dX10_spaceNow_0 : decode cX10_spaceNow 0 = .ok (.aload_n 0, 1) := by decide +kernel
theorem dX10_spaceNow_1 : decode cX10_spaceNow 1 = .ok (.invokevirtual 249, 3) := by decide +kernel
theorem dX10_spaceNow_4 : decode cX10_spaceNow 4 = .ok (.iload_n 1, 1) := by decide +kernel
theorem dX10_spaceNow_5 : decode cX10_spaceNow 5 = .ok (.ifCond .ne 10, 3) := by decide +kernel
theorem dX10_spaceNow_8 : decode cX10_spaceNow 8 = .ok (.aload_n 0, 1) := by decide +kernel
theorem dX10_spaceNow_9 : decode cX10_spaceNow 9 = .ok (.getfield 192, 3) := by decide +kernel
theorem dX10_spaceNow_12 : decode cX10_spaceNow 12 = .ok (.goto 31, 3) := by decide +kernel
theorem dX10_spaceNow_15 : decode cX10_spaceNow 15 = .ok (.iload_n 1, 1) := by decide +kernel
theorem dX10_spaceNow_16 : decode cX10_spaceNow 16 = .ok (.iconst 1, 1) := by decide +kernel
theorem dX10_spaceNow_17 : decode cX10_spaceNow 17 = .ok (.if_icmp .ne 10, 3) := by decide +kernel
theorem dX10_spaceNow_20 : decode cX10_spaceNow 20 = .ok (.aload_n 0, 1) := by decide +kernel
theorem dX10_spaceNow_21 : decode cX10_spaceNow 21 = .ok (.getfield 162, 3) := by decide +kernel
theorem dX10_spaceNow_24 : decode cX10_spaceNow 24 = .ok (.goto 19, 3) := by decide +kernel
theorem dX10_spaceNow_27 : decode cX10_spaceNow 27 = .ok (.iload_n 1, 1) := by decide +kernel
theorem dX10_spaceNow_28 : decode cX10_spaceNow 28 = .ok (.iconst 2, 1) := by decide +kernel
theorem dX10_spaceNow_29 : decode cX10_spaceNow 29 = .ok (.if_icmp .ne 10, 3) := by decide +kernel
theorem dX10_spaceNow_32 : decode cX10_spaceNow 32 = .ok (.aload_n 0, 1) := by decide +kernel
theorem dX10_spaceNow_33 : decode cX10_spaceNow 33 = .ok (.invokevirtual 268, 3) := by decide +kernel
theorem dX10_spaceNow_36 : decode cX10_spaceNow 36 = .ok (.goto 7, 3) := by decide +kernel
theorem dX10_spaceNow_39 : decode cX10_spaceNow 39 = .ok (.aload_n 0, 1) := by decide +kernel
theorem dX10_spaceNow_40 : decode cX10_spaceNow 40 = .ok (.invokevirtual 271, 3) := by decide +kernel
theorem dX10_spaceNow_43 : decode cX10_spaceNow 43 = .ok (.ireturn, 1) := by decide +kernel
theorem kcX10_spaceNow : Cond.code yX10_spaceNow cX10_spaceNow 2 (some .int) ∈ tb := tq q_958 rfl
theorem knX10_spaceNow : Cond.initialized yX10_spaceNow.cls ∈ tb := (tq q_10 rfl)
theorem kdX10_spaceNow : yX10_spaceNow.cls ≠ "java/lang/invoke/MethodHandle" ∧ yX10_spaceNow.cls ≠ "java/lang/invoke/VarHandle" ∧ (parseMethodDescriptor yX10_spaceNow.desc).map (fun d => d.parameters.length) = some 1 := ⟨by decide +kernel, by decide +kernel, by decide +kernel⟩
theorem kiX10_spaceNow : Cond.instanceMethod yX10_spaceNow ∈ tb := (tq q_957 rfl)
theorem ksX10_spaceNow : Cond.selects yX10_spaceNow.cls yX10_spaceNow yX10_spaceNow ∈ tb := (tq z_48 rfl)
theorem tgX10_spaceNow {x0 : Nat} {x1 : Int32} {h : PH} {r : Int32 × PH} (hf : (fX10_spaceNow x0 x1).1 h = some r) : ∃ n x, nth h x0 = some (9, n, x) := by
  obtain ⟨_, _, e, _⟩ := pb_some hf
  exact (chk_some e).2
set_option maxHeartbeats 4000000 in
set_option maxRecDepth 100000 in
theorem metX10_spaceNow (l : Launch) (G : GG) (ρ : Nat → Nat) {z : Nat} {x0 : Nat} {x1 : Int32} {h hE : PH} {v : Int32} (hf : (fX10_spaceNow x0 x1).1 h = some (v, hE)) : Met l yX10_spaceNow (wsY yX10_spaceNow cX10_spaceNow 2 (some .int)) (RM 8 209 h hE) (va_Pc [.ref (ρ x0), .int x1] (PcB G ρ h z)) (QI G ρ v hE h.length z) (DC h hE) (DS h hE) (Af ρ h.length z) := by
  refine met_start (by decide) (Nat.le_of_ble_eq_true rfl) ?_
  intro p e s m below meth c ls hz C hW hl
  subst hz
  have C : Cx G "PairSymbolsModel" cX10_spaceNow 2 (some .int) "spaceNow" p s m _ meth c := C
  have hx := C.1
  have hb := C.2.1
  have hX : Ext hE hE := Ext.rf hE
  have hl : lv_has ls 2 [(0, .ref (ρ x0)), (1, .int x1)] := hl
  have hW : Wd G ρ h.length (sl h) s.heap h s.heap [] 0 0 := hW
  unfold fX10_spaceNow at hf
  obtain ⟨_, e0, hf⟩ := pb_rd (rd_chk _ _) hf
  refine lv_aload_n hx hb dX10_spaceNow_0 rfl (lv_at hl 0 rfl) ?_
  obtain ⟨_, h1, e1, hf⟩ := pb_some hf
  obtain ⟨_, _, t2⟩ := tgX10_lays e1
  refine r_callv hW (pext e1) (run_V (b := x0) (As := []) (rest := []) C hW (metX10_lays l G ρ e1) ⟨rfl, rfl⟩ kcX10_lays (tq q_857 rfl) kiX10_lays ksX10_lays knX10_lays kdX10_lays t2 rfl rfl ⟨Nat.le_of_ble_eq_true rfl, Nat.le_of_ble_eq_true rfl⟩ hl.1 (Nat.le_of_ble_eq_true rfl) (room_of hW (pext e1) ((pext hf).tr hX)) dX10_spaceNow_1 rfl) (fun H locs c1 s1 hW => ?_)
  refine lv_iload_n hx hb dX10_spaceNow_4 rfl (lv_at hl 1 rfl) ?_
  refine lv_if_ne (tgt := 15) hx hb dX10_spaceNow_5 (by decide) (fun c3 => ?_) (fun c3 => ?_)
  · rw [if_neg c3] at hf
    refine lv_iload_n hx hb dX10_spaceNow_15 rfl (lv_at hl 1 rfl) ?_
    refine lv_iconst (v := 1) hx hb dX10_spaceNow_16 (by decide) ?_
    refine lv_icmp_ne (tgt := 27) hx hb dX10_spaceNow_17 (by decide) (fun c4 => ?_) (fun c4 => ?_)
    · rw [if_neg c4] at hf
      refine lv_iload_n hx hb dX10_spaceNow_27 rfl (lv_at hl 1 rfl) ?_
      refine lv_iconst (v := 2) hx hb dX10_spaceNow_28 (by decide) ?_
      refine lv_icmp_ne (tgt := 39) hx hb dX10_spaceNow_29 (by decide) (fun c5 => ?_) (fun c5 => ?_)
      · rw [if_neg c5] at hf
        refine lv_aload_n hx hb dX10_spaceNow_39 rfl (lv_at hl 0 rfl) ?_
        obtain ⟨v6, h6, e6, hf⟩ := pb_some hf
        obtain ⟨_, _, t7⟩ := tgX10_plain e6
        refine r_calli hW (pext e6) (run_V (b := x0) (As := []) (rest := []) C hW (metX10_plain l G ρ e6) ⟨rfl, rfl⟩ kcX10_plain (tq q_987 rfl) kiX10_plain ksX10_plain knX10_plain kdX10_plain t7 rfl rfl ⟨Nat.le_of_ble_eq_true rfl, Nat.le_of_ble_eq_true rfl⟩ hl.1 (Nat.le_of_ble_eq_true rfl) (room_of hW (pext e6) ((pext hf).tr hX)) dX10_spaceNow_40 rfl) (fun H locs c1 s1 hW => ?_)
        obtain ⟨rfl, rfl⟩ := pp_some hf
        exact r_iret C hW dX10_spaceNow_43
      · rw [if_pos c5] at hf
        refine lv_aload_n hx hb dX10_spaceNow_32 rfl (lv_at hl 0 rfl) ?_
        obtain ⟨v8, h8, e8, hf⟩ := pb_some hf
        obtain ⟨_, _, t9⟩ := tgX10_genus e8
        refine r_calli hW (pext e8) (run_V (b := x0) (As := []) (rest := []) C hW (metX10_genus l G ρ e8) ⟨rfl, rfl⟩ kcX10_genus (tq q_959 rfl) kiX10_genus ksX10_genus knX10_genus kdX10_genus t9 rfl rfl ⟨Nat.le_of_ble_eq_true rfl, Nat.le_of_ble_eq_true rfl⟩ hl.1 (Nat.le_of_ble_eq_true rfl) (room_of hW (pext e8) ((pext hf).tr hX)) dX10_spaceNow_33 rfl) (fun H locs c1 s1 hW => ?_)
        refine lv_goto (tgt := 43) hx hb dX10_spaceNow_36 (by decide) ?_
        obtain ⟨rfl, rfl⟩ := pp_some hf
        exact r_iret C hW dX10_spaceNow_43
    · rw [if_pos c4] at hf
      refine lv_aload_n hx hb dX10_spaceNow_20 rfl (lv_at hl 0 rfl) ?_
      obtain ⟨v10, e10, hf⟩ := pb_rd (rd_gI _ _ _) hf
      refine r_gI C hW e10 flX10_162 rfl dX10_spaceNow_21 ?_
      refine lv_goto (tgt := 43) hx hb dX10_spaceNow_24 (by decide) ?_
      obtain ⟨rfl, rfl⟩ := pp_some hf
      exact r_iret C hW dX10_spaceNow_43
  · rw [if_pos c3] at hf
    refine lv_aload_n hx hb dX10_spaceNow_8 rfl (lv_at hl 0 rfl) ?_
    obtain ⟨v11, e11, hf⟩ := pb_rd (rd_gI _ _ _) hf
    refine r_gI C hW e11 flX10_192 rfl dX10_spaceNow_9 ?_
    refine lv_goto (tgt := 43) hx hb dX10_spaceNow_12 (by decide) ?_
    obtain ⟨rfl, rfl⟩ := pp_some hf
    exact r_iret C hW dX10_spaceNow_43

theorem dX10_space_0 : decode cX10_space 0 = .ok (.iload_n 1, 1) := by decide +kernel
theorem dX10_space_1 : decode cX10_space 1 = .ok (.i2l, 1) := by decide +kernel
theorem dX10_space_2 : decode cX10_space 2 = .ok (.lconst 0, 1) := by decide +kernel
theorem dX10_space_3 : decode cX10_space 3 = .ok (.ldc2_w 274, 3) := by decide +kernel
theorem dX10_space_6 : decode cX10_space 6 = .ok (.invokestatic 236, 3) := by decide +kernel
theorem dX10_space_9 : decode cX10_space 9 = .ok (.ifCond .eq 11, 3) := by decide +kernel
theorem dX10_space_12 : decode cX10_space 12 = .ok (.aload_n 0, 1) := by decide +kernel
theorem dX10_space_13 : decode cX10_space 13 = .ok (.iload_n 1, 1) := by decide +kernel
theorem dX10_space_14 : decode cX10_space 14 = .ok (.invokevirtual 276, 3) := by decide +kernel
theorem dX10_space_17 : decode cX10_space 17 = .ok (.goto 9, 3) := by decide +kernel
theorem dX10_space_20 : decode cX10_space 20 = .ok (.aload_n 0, 1) := by decide +kernel
theorem dX10_space_21 : decode cX10_space 21 = .ok (.bipush (-2), 2) := by decide +kernel
theorem dX10_space_23 : decode cX10_space 23 = .ok (.invokevirtual 240, 3) := by decide +kernel
theorem dX10_space_26 : decode cX10_space 26 = .ok (.ireturn, 1) := by decide +kernel
theorem kcX10_space : Cond.code yX10_space cX10_space 2 (some .int) ∈ tb := tq q_953 rfl
theorem knX10_space : Cond.initialized yX10_space.cls ∈ tb := (tq q_10 rfl)
theorem kdX10_space : yX10_space.cls ≠ "java/lang/invoke/MethodHandle" ∧ yX10_space.cls ≠ "java/lang/invoke/VarHandle" ∧ (parseMethodDescriptor yX10_space.desc).map (fun d => d.parameters.length) = some 1 := ⟨by decide +kernel, by decide +kernel, by decide +kernel⟩
theorem kiX10_space : Cond.instanceMethod yX10_space ∈ tb := (tq q_951 rfl)
theorem ksX10_space : Cond.selects yX10_space.cls yX10_space yX10_space ∈ tb := (tq q_952 rfl)
theorem tgX10_space {x0 : Nat} {x1 : Int32} {h : PH} {r : Int32 × PH} (hf : (fX10_space x0 x1).1 h = some r) : ∃ n x, nth h x0 = some (9, n, x) := by
  obtain ⟨_, _, e, _⟩ := pb_some hf
  exact (chk_some e).2
set_option maxHeartbeats 4000000 in
set_option maxRecDepth 100000 in
theorem metX10_space (l : Launch) (G : GG) (ρ : Nat → Nat) {z : Nat} {x0 : Nat} {x1 : Int32} {h hE : PH} {v : Int32} (hf : (fX10_space x0 x1).1 h = some (v, hE)) : Met l yX10_space (wsY yX10_space cX10_space 2 (some .int)) (RM 9 230 h hE) (va_Pc [.ref (ρ x0), .int x1] (PcB G ρ h z)) (QI G ρ v hE h.length z) (DC h hE) (DS h hE) (Af ρ h.length z) := by
  refine met_start (by decide) (Nat.le_of_ble_eq_true rfl) ?_
  intro p e s m below meth c ls hz C hW hl
  subst hz
  have C : Cx G "PairSymbolsModel" cX10_space 2 (some .int) "space" p s m _ meth c := C
  have hx := C.1
  have hb := C.2.1
  have hX : Ext hE hE := Ext.rf hE
  have hl : lv_has ls 2 [(0, .ref (ρ x0)), (1, .int x1)] := hl
  have hW : Wd G ρ h.length (sl h) s.heap h s.heap [] 0 0 := hW
  unfold fX10_space at hf
  obtain ⟨_, e0, hf⟩ := pb_rd (rd_chk _ _) hf
  refine lv_iload_n hx hb dX10_space_0 rfl (lv_at hl 1 rfl) ?_
  refine lv_i2l (v := x1.toInt64) hx hb dX10_space_1 rfl ?_
  refine lv_lconst (v := 0) hx hb dX10_space_2 (by decide) ?_
  refine r_ldc2 (v := 3) C (tq q_954 rfl) dX10_space_3 ?_
  obtain ⟨v1, h1, e1, hf⟩ := pb_some hf
  refine r_calli hW (pext e1) (run_S (As := [.long x1.toInt64, .long (0 : Int64), .long (3 : Int64)]) (rest := []) C hW (metX10_in l G ρ e1) ⟨rfl, rfl⟩ kcX10_in (tq q_834 rfl) kiX10_in knX10_in kdX10_in ⟨Nat.le_of_ble_eq_true rfl, Nat.le_of_ble_eq_true rfl⟩ hl.1 (Nat.le_of_ble_eq_true rfl) (room_of hW (pext e1) ((pext hf).tr hX)) dX10_space_6 rfl) (fun H locs c1 s1 hW => ?_)
  refine lv_if_eq (tgt := 20) hx hb dX10_space_9 (by decide) (fun c2 => ?_) (fun c2 => ?_)
  · rw [if_pos c2] at hf
    refine lv_aload_n hx hb dX10_space_20 rfl (lv_at hl 0 rfl) ?_
    refine lv_bipush (v := -2) hx hb dX10_space_21 (by decide) ?_
    obtain ⟨v3, h3, e3, hf⟩ := pb_some hf
    obtain ⟨_, _, t4⟩ := tgX10_refuses e3
    refine r_calli hW (pext e3) (run_V (b := x0) (As := [.int (-2 : Int32)]) (rest := []) C hW (metX10_refuses l G ρ e3) ⟨rfl, rfl⟩ kcX10_refuses (tq q_837 rfl) kiX10_refuses ksX10_refuses knX10_refuses kdX10_refuses t4 rfl rfl ⟨Nat.le_of_ble_eq_true rfl, Nat.le_of_ble_eq_true rfl⟩ hl.1 (Nat.le_of_ble_eq_true rfl) (room_of hW (pext e3) ((pext hf).tr hX)) dX10_space_23 rfl) (fun H locs c1 s1 hW => ?_)
    obtain ⟨rfl, rfl⟩ := pp_some hf
    exact r_iret C hW dX10_space_26
  · rw [if_neg c2] at hf
    refine lv_aload_n hx hb dX10_space_12 rfl (lv_at hl 0 rfl) ?_
    refine lv_iload_n hx hb dX10_space_13 rfl (lv_at hl 1 rfl) ?_
    obtain ⟨v5, h5, e5, hf⟩ := pb_some hf
    obtain ⟨_, _, t6⟩ := tgX10_spaceNow e5
    refine r_calli hW (pext e5) (run_V (b := x0) (As := [.int x1]) (rest := []) C hW (metX10_spaceNow l G ρ e5) ⟨rfl, rfl⟩ kcX10_spaceNow (tq q_955 rfl) kiX10_spaceNow ksX10_spaceNow knX10_spaceNow kdX10_spaceNow t6 rfl rfl ⟨Nat.le_of_ble_eq_true rfl, Nat.le_of_ble_eq_true rfl⟩ hl.1 (Nat.le_of_ble_eq_true rfl) (room_of hW (pext e5) ((pext hf).tr hX)) dX10_space_14 rfl) (fun H locs c1 s1 hW => ?_)
    refine lv_goto (tgt := 26) hx hb dX10_space_17 (by decide) ?_
    obtain ⟨rfl, rfl⟩ := pp_some hf
    exact r_iret C hW dX10_space_26

theorem dX10_fraction_0 : decode cX10_fraction 0 = .ok (.aload_n 0, 1) := by decide +kernel
theorem dX10_fraction_1 : decode cX10_fraction 1 = .ok (.iload_n 1, 1) := by decide +kernel
theorem dX10_fraction_2 : decode cX10_fraction 2 = .ok (.invokevirtual 252, 3) := by decide +kernel
theorem dX10_fraction_5 : decode cX10_fraction 5 = .ok (.ifCond .eq 29, 3) := by decide +kernel
theorem dX10_fraction_8 : decode cX10_fraction 8 = .ok (.iload_n 2, 1) := by decide +kernel
theorem dX10_fraction_9 : decode cX10_fraction 9 = .ok (.i2l, 1) := by decide +kernel
theorem dX10_fraction_10 : decode cX10_fraction 10 = .ok (.lconst 0, 1) := by decide +kernel
theorem dX10_fraction_11 : decode cX10_fraction 11 = .ok (.aload_n 0, 1) := by decide +kernel
theorem dX10_fraction_12 : decode cX10_fraction 12 = .ok (.getfield 192, 3) := by decide +kernel
theorem dX10_fraction_15 : decode cX10_fraction 15 = .ok (.iconst 1, 1) := by decide +kernel
theorem dX10_fraction_16 : decode cX10_fraction 16 = .ok (.isub, 1) := by decide +kernel
theorem dX10_fraction_17 : decode cX10_fraction 17 = .ok (.i2l, 1) := by decide +kernel
theorem dX10_fraction_18 : decode cX10_fraction 18 = .ok (.invokestatic 236, 3) := by decide +kernel
theorem dX10_fraction_21 : decode cX10_fraction 21 = .ok (.ifCond .eq 13, 3) := by decide +kernel
theorem dX10_fraction_24 : decode cX10_fraction 24 = .ok (.iload_n 3, 1) := by decide +kernel
theorem dX10_fraction_25 : decode cX10_fraction 25 = .ok (.i2l, 1) := by decide +kernel
theorem dX10_fraction_26 : decode cX10_fraction 26 = .ok (.lconst 0, 1) := by decide +kernel
theorem dX10_fraction_27 : decode cX10_fraction 27 = .ok (.lconst 1, 1) := by decide +kernel
theorem dX10_fraction_28 : decode cX10_fraction 28 = .ok (.invokestatic 236, 3) := by decide +kernel
theorem dX10_fraction_31 : decode cX10_fraction 31 = .ok (.ifCond .ne 11, 3) := by decide +kernel
theorem dX10_fraction_34 : decode cX10_fraction 34 = .ok (.aload_n 0, 1) := by decide +kernel
theorem dX10_fraction_35 : decode cX10_fraction 35 = .ok (.bipush (-2), 2) := by decide +kernel
theorem dX10_fraction_37 : decode cX10_fraction 37 = .ok (.invokevirtual 240, 3) := by decide +kernel
theorem dX10_fraction_40 : decode cX10_fraction 40 = .ok (.i2l, 1) := by decide +kernel
theorem dX10_fraction_41 : decode cX10_fraction 41 = .ok (.lreturn, 1) := by decide +kernel
theorem dX10_fraction_42 : decode cX10_fraction 42 = .ok (.iload_n 3, 1) := by decide +kernel
theorem dX10_fraction_43 : decode cX10_fraction 43 = .ok (.ifCond .ne 17, 3) := by decide +kernel
theorem dX10_fraction_46 : decode cX10_fraction 46 = .ok (.aload_n 0, 1) := by decide +kernel
theorem dX10_fraction_47 : decode cX10_fraction 47 = .ok (.getfield 51, 3) := by decide +kernel
theorem dX10_fraction_50 : decode cX10_fraction 50 = .ok (.bipush 16, 2) := by decide +kernel
theorem dX10_fraction_52 : decode cX10_fraction 52 = .ok (.iload_n 1, 1) := by decide +kernel
theorem dX10_fraction_53 : decode cX10_fraction 53 = .ok (.imul, 1) := by decide +kernel
theorem dX10_fraction_54 : decode cX10_fraction 54 = .ok (.iload_n 2, 1) := by decide +kernel
theorem dX10_fraction_55 : decode cX10_fraction 55 = .ok (.iadd, 1) := by decide +kernel
theorem dX10_fraction_56 : decode cX10_fraction 56 = .ok (.laload, 1) := by decide +kernel
theorem dX10_fraction_57 : decode cX10_fraction 57 = .ok (.goto 14, 3) := by decide +kernel
theorem dX10_fraction_60 : decode cX10_fraction 60 = .ok (.aload_n 0, 1) := by decide +kernel
theorem dX10_fraction_61 : decode cX10_fraction 61 = .ok (.getfield 54, 3) := by decide +kernel
theorem dX10_fraction_64 : decode cX10_fraction 64 = .ok (.bipush 16, 2) := by decide +kernel
theorem dX10_fraction_66 : decode cX10_fraction 66 = .ok (.iload_n 1, 1) := by decide +kernel
theorem dX10_fraction_67 : decode cX10_fraction 67 = .ok (.imul, 1) := by decide +kernel
theorem dX10_fraction_68 : decode cX10_fraction 68 = .ok (.iload_n 2, 1) := by decide +kernel
theorem dX10_fraction_69 : decode cX10_fraction 69 = .ok (.iadd, 1) := by decide +kernel
theorem dX10_fraction_70 : decode cX10_fraction 70 = .ok (.laload, 1) := by decide +kernel
theorem dX10_fraction_71 : decode cX10_fraction 71 = .ok (.lreturn, 1) := by decide +kernel
theorem kcX10_fraction : Cond.code yX10_fraction cX10_fraction 4 (some .long) ∈ tb := tq q_994 rfl
theorem knX10_fraction : Cond.initialized yX10_fraction.cls ∈ tb := (tq q_10 rfl)
theorem kdX10_fraction : yX10_fraction.cls ≠ "java/lang/invoke/MethodHandle" ∧ yX10_fraction.cls ≠ "java/lang/invoke/VarHandle" ∧ (parseMethodDescriptor yX10_fraction.desc).map (fun d => d.parameters.length) = some 3 := ⟨by decide +kernel, by decide +kernel, by decide +kernel⟩
theorem kiX10_fraction : Cond.instanceMethod yX10_fraction ∈ tb := (tq q_992 rfl)
theorem ksX10_fraction : Cond.selects yX10_fraction.cls yX10_fraction yX10_fraction ∈ tb := (tq q_993 rfl)
theorem tgX10_fraction {x0 : Nat} {x1 : Int32} {x2 : Int32} {x3 : Int32} {h : PH} {r : Int64 × PH} (hf : (fX10_fraction x0 x1 x2 x3).1 h = some r) : ∃ n x, nth h x0 = some (9, n, x) := by
  obtain ⟨_, _, e, _⟩ := pb_some hf
  exact (chk_some e).2
set_option maxHeartbeats 4000000 in
set_option maxRecDepth 100000 in
theorem metX10_fraction (l : Launch) (G : GG) (ρ : Nat → Nat) {z : Nat} {x0 : Nat} {x1 : Int32} {x2 : Int32} {x3 : Int32} {h hE : PH} {v : Int64} (hf : (fX10_fraction x0 x1 x2 x3).1 h = some (v, hE)) : Met l yX10_fraction (wsY yX10_fraction cX10_fraction 4 (some .long)) (RM 9 228 h hE) (va_Pc [.ref (ρ x0), .int x1, .int x2, .int x3] (PcB G ρ h z)) (QL G ρ v hE h.length z) (DC h hE) (DS h hE) (Af ρ h.length z) := by
  refine met_start (by decide) (Nat.le_of_ble_eq_true rfl) ?_
  intro p e s m below meth c ls hz C hW hl
  subst hz
  have C : Cx G "PairSymbolsModel" cX10_fraction 4 (some .long) "fraction" p s m _ meth c := C
  have hx := C.1
  have hb := C.2.1
  have hX : Ext hE hE := Ext.rf hE
  have hl : lv_has ls 4 [(0, .ref (ρ x0)), (1, .int x1), (2, .int x2), (3, .int x3)] := hl
  have hW : Wd G ρ h.length (sl h) s.heap h s.heap [] 0 0 := hW
  unfold fX10_fraction at hf
  obtain ⟨_, e0, hf⟩ := pb_rd (rd_chk _ _) hf
  refine lv_aload_n hx hb dX10_fraction_0 rfl (lv_at hl 0 rfl) ?_
  refine lv_iload_n hx hb dX10_fraction_1 rfl (lv_at hl 1 rfl) ?_
  obtain ⟨v1, h1, e1, hf⟩ := pb_some hf
  obtain ⟨_, _, t2⟩ := tgX10_isSymbol e1
  refine r_calli hW (pext e1) (run_V (b := x0) (As := [.int x1]) (rest := []) C hW (metX10_isSymbol l G ρ e1) ⟨rfl, rfl⟩ kcX10_isSymbol (tq q_935 rfl) kiX10_isSymbol ksX10_isSymbol knX10_isSymbol kdX10_isSymbol t2 rfl rfl ⟨Nat.le_of_ble_eq_true rfl, Nat.le_of_ble_eq_true rfl⟩ hl.1 (Nat.le_of_ble_eq_true rfl) (room_of hW (pext e1) ((pext hf).tr hX)) dX10_fraction_2 rfl) (fun H locs c1 s1 hW => ?_)
  refine lv_if_eq (tgt := 34) hx hb dX10_fraction_5 (by decide) (fun c3 => ?_) (fun c3 => ?_)
  · rw [if_pos c3] at hf
    refine lv_aload_n hx hb dX10_fraction_34 rfl (lv_at hl 0 rfl) ?_
    refine lv_bipush (v := -2) hx hb dX10_fraction_35 (by decide) ?_
    obtain ⟨v4, h4, e4, hf⟩ := pb_some hf
    obtain ⟨_, _, t5⟩ := tgX10_refuses e4
    refine r_calli hW (pext e4) (run_V (b := x0) (As := [.int (-2 : Int32)]) (rest := []) C hW (metX10_refuses l G ρ e4) ⟨rfl, rfl⟩ kcX10_refuses (tq q_837 rfl) kiX10_refuses ksX10_refuses knX10_refuses kdX10_refuses t5 rfl rfl ⟨Nat.le_of_ble_eq_true rfl, Nat.le_of_ble_eq_true rfl⟩ hl.1 (Nat.le_of_ble_eq_true rfl) (room_of hW (pext e4) ((pext hf).tr hX)) dX10_fraction_37 rfl) (fun H locs c1 s1 hW => ?_)
    refine lv_i2l (v := v4.toInt64) hx hb dX10_fraction_40 rfl ?_
    obtain ⟨rfl, rfl⟩ := pp_some hf
    exact r_lret C hW dX10_fraction_41
  · rw [if_neg c3] at hf
    refine lv_iload_n hx hb dX10_fraction_8 rfl (lv_at hl 2 rfl) ?_
    refine lv_i2l (v := x2.toInt64) hx hb dX10_fraction_9 rfl ?_
    refine lv_lconst (v := 0) hx hb dX10_fraction_10 (by decide) ?_
    refine lv_aload_n hx hb dX10_fraction_11 rfl (lv_at hl 0 rfl) ?_
    obtain ⟨v6, e6, hf⟩ := pb_rd (rd_gI _ _ _) hf
    refine r_gI C hW e6 flX10_192 rfl dX10_fraction_12 ?_
    refine lv_iconst (v := 1) hx hb dX10_fraction_15 (by decide) ?_
    refine lv_isub hx hb dX10_fraction_16 ?_
    refine lv_i2l (v := (v6 - (1 : Int32)).toInt64) hx hb dX10_fraction_17 rfl ?_
    obtain ⟨v7, h7, e7, hf⟩ := pb_some hf
    refine r_calli hW (pext e7) (run_S (As := [.long x2.toInt64, .long (0 : Int64), .long (v6 - (1 : Int32)).toInt64]) (rest := []) C hW (metX10_in l G ρ e7) ⟨rfl, rfl⟩ kcX10_in (tq q_834 rfl) kiX10_in knX10_in kdX10_in ⟨Nat.le_of_ble_eq_true rfl, Nat.le_of_ble_eq_true rfl⟩ hl.1 (Nat.le_of_ble_eq_true rfl) (room_of hW (pext e7) ((pext hf).tr hX)) dX10_fraction_18 rfl) (fun H locs c1 s1 hW => ?_)
    refine lv_if_eq (tgt := 34) hx hb dX10_fraction_21 (by decide) (fun c8 => ?_) (fun c8 => ?_)
    · rw [if_pos c8] at hf
      refine lv_aload_n hx hb dX10_fraction_34 rfl (lv_at hl 0 rfl) ?_
      refine lv_bipush (v := -2) hx hb dX10_fraction_35 (by decide) ?_
      obtain ⟨v9, h9, e9, hf⟩ := pb_some hf
      obtain ⟨_, _, t10⟩ := tgX10_refuses e9
      refine r_calli hW (pext e9) (run_V (b := x0) (As := [.int (-2 : Int32)]) (rest := []) C hW (metX10_refuses l G ρ e9) ⟨rfl, rfl⟩ kcX10_refuses (tq q_837 rfl) kiX10_refuses ksX10_refuses knX10_refuses kdX10_refuses t10 rfl rfl ⟨Nat.le_of_ble_eq_true rfl, Nat.le_of_ble_eq_true rfl⟩ hl.1 (Nat.le_of_ble_eq_true rfl) (room_of hW (pext e9) ((pext hf).tr hX)) dX10_fraction_37 rfl) (fun H locs c1 s1 hW => ?_)
      refine lv_i2l (v := v9.toInt64) hx hb dX10_fraction_40 rfl ?_
      obtain ⟨rfl, rfl⟩ := pp_some hf
      exact r_lret C hW dX10_fraction_41
    · rw [if_neg c8] at hf
      refine lv_iload_n hx hb dX10_fraction_24 rfl (lv_at hl 3 rfl) ?_
      refine lv_i2l (v := x3.toInt64) hx hb dX10_fraction_25 rfl ?_
      refine lv_lconst (v := 0) hx hb dX10_fraction_26 (by decide) ?_
      refine lv_lconst (v := 1) hx hb dX10_fraction_27 (by decide) ?_
      obtain ⟨v11, h11, e11, hf⟩ := pb_some hf
      refine r_calli hW (pext e11) (run_S (As := [.long x3.toInt64, .long (0 : Int64), .long (1 : Int64)]) (rest := []) C hW (metX10_in l G ρ e11) ⟨rfl, rfl⟩ kcX10_in (tq q_834 rfl) kiX10_in knX10_in kdX10_in ⟨Nat.le_of_ble_eq_true rfl, Nat.le_of_ble_eq_true rfl⟩ hl.1 (Nat.le_of_ble_eq_true rfl) (room_of hW (pext e11) ((pext hf).tr hX)) dX10_fraction_28 rfl) (fun H locs c1 s1 hW => ?_)
      refine lv_if_ne (tgt := 42) hx hb dX10_fraction_31 (by decide) (fun c12 => ?_) (fun c12 => ?_)
      · rw [if_neg c12] at hf
        refine lv_iload_n hx hb dX10_fraction_42 rfl (lv_at hl 3 rfl) ?_
        refine lv_if_ne (tgt := 60) hx hb dX10_fraction_43 (by decide) (fun c13 => ?_) (fun c13 => ?_)
        · rw [if_neg c13] at hf
          refine lv_aload_n hx hb dX10_fraction_60 rfl (lv_at hl 0 rfl) ?_
          obtain ⟨v14, e14, hf⟩ := pb_rd (rd_gA _ _ _) hf
          refine r_gA C hW e14 flX10_54 rfl dX10_fraction_61 ?_
          refine lv_bipush (v := 16) hx hb dX10_fraction_64 (by decide) ?_
          refine lv_iload_n hx hb dX10_fraction_66 rfl (lv_at hl 1 rfl) ?_
          refine lv_imul hx hb dX10_fraction_67 ?_
          refine lv_iload_n hx hb dX10_fraction_68 rfl (lv_at hl 2 rfl) ?_
          refine lv_iadd hx hb dX10_fraction_69 ?_
          obtain ⟨v15, e15, hf⟩ := pb_rd (rd_lJ _ _ _) hf
          refine r_lald C hW e15 dX10_fraction_70 ?_
          obtain ⟨rfl, rfl⟩ := pp_some hf
          exact r_lret C hW dX10_fraction_71
        · rw [if_pos c13] at hf
          refine lv_aload_n hx hb dX10_fraction_46 rfl (lv_at hl 0 rfl) ?_
          obtain ⟨v16, e16, hf⟩ := pb_rd (rd_gA _ _ _) hf
          refine r_gA C hW e16 flX10_51 rfl dX10_fraction_47 ?_
          refine lv_bipush (v := 16) hx hb dX10_fraction_50 (by decide) ?_
          refine lv_iload_n hx hb dX10_fraction_52 rfl (lv_at hl 1 rfl) ?_
          refine lv_imul hx hb dX10_fraction_53 ?_
          refine lv_iload_n hx hb dX10_fraction_54 rfl (lv_at hl 2 rfl) ?_
          refine lv_iadd hx hb dX10_fraction_55 ?_
          obtain ⟨v17, e17, hf⟩ := pb_rd (rd_lJ _ _ _) hf
          refine r_lald C hW e17 dX10_fraction_56 ?_
          refine lv_goto (tgt := 71) hx hb dX10_fraction_57 (by decide) ?_
          obtain ⟨rfl, rfl⟩ := pp_some hf
          exact r_lret C hW dX10_fraction_71
      · rw [if_pos c12] at hf
        refine lv_aload_n hx hb dX10_fraction_34 rfl (lv_at hl 0 rfl) ?_
        refine lv_bipush (v := -2) hx hb dX10_fraction_35 (by decide) ?_
        obtain ⟨v18, h18, e18, hf⟩ := pb_some hf
        obtain ⟨_, _, t19⟩ := tgX10_refuses e18
        refine r_calli hW (pext e18) (run_V (b := x0) (As := [.int (-2 : Int32)]) (rest := []) C hW (metX10_refuses l G ρ e18) ⟨rfl, rfl⟩ kcX10_refuses (tq q_837 rfl) kiX10_refuses ksX10_refuses knX10_refuses kdX10_refuses t19 rfl rfl ⟨Nat.le_of_ble_eq_true rfl, Nat.le_of_ble_eq_true rfl⟩ hl.1 (Nat.le_of_ble_eq_true rfl) (room_of hW (pext e18) ((pext hf).tr hX)) dX10_fraction_37 rfl) (fun H locs c1 s1 hW => ?_)
        refine lv_i2l (v := v18.toInt64) hx hb dX10_fraction_40 rfl ?_
        obtain ⟨rfl, rfl⟩ := pp_some hf
        exact r_lret C hW dX10_fraction_41

theorem dX10_canOperate_0 : decode cX10_canOperate 0 = .ok (.iload_n 1, 1) := by decide +kernel
theorem dX10_canOperate_1 : decode cX10_canOperate 1 = .ok (.i2l, 1) := by decide +kernel
theorem dX10_canOperate_2 : decode cX10_canOperate 2 = .ok (.lconst 1, 1) := by decide +kernel
theorem dX10_canOperate_3 : decode cX10_canOperate 3 = .ok (.ldc2_w 279, 3) := by decide +kernel
theorem dX10_canOperate_6 : decode cX10_canOperate 6 = .ok (.invokestatic 236, 3) := by decide +kernel
theorem dX10_canOperate_9 : decode cX10_canOperate 9 = .ok (.ifCond .ne 8, 3) := by decide +kernel
theorem dX10_canOperate_12 : decode cX10_canOperate 12 = .ok (.bipush (-2), 2) := by decide +kernel
theorem dX10_canOperate_14 : decode cX10_canOperate 14 = .ok (.goto 24, 3) := by decide +kernel
theorem dX10_canOperate_17 : decode cX10_canOperate 17 = .ok (.iload_n 1, 1) := by decide +kernel
theorem dX10_canOperate_18 : decode cX10_canOperate 18 = .ok (.i2l, 1) := by decide +kernel
theorem dX10_canOperate_19 : decode cX10_canOperate 19 = .ok (.aload_n 0, 1) := by decide +kernel
theorem dX10_canOperate_20 : decode cX10_canOperate 20 = .ok (.invokevirtual 148, 3) := by decide +kernel
theorem dX10_canOperate_23 : decode cX10_canOperate 23 = .ok (.i2l, 1) := by decide +kernel
theorem dX10_canOperate_24 : decode cX10_canOperate 24 = .ok (.invokestatic 129, 3) := by decide +kernel
theorem dX10_canOperate_27 : decode cX10_canOperate 27 = .ok (.lconst 1, 1) := by decide +kernel
theorem dX10_canOperate_28 : decode cX10_canOperate 28 = .ok (.lcmp, 1) := by decide +kernel
theorem dX10_canOperate_29 : decode cX10_canOperate 29 = .ok (.ifCond .le 8, 3) := by decide +kernel
theorem dX10_canOperate_32 : decode cX10_canOperate 32 = .ok (.bipush (-3), 2) := by decide +kernel
theorem dX10_canOperate_34 : decode cX10_canOperate 34 = .ok (.goto 4, 3) := by decide +kernel
theorem dX10_canOperate_37 : decode cX10_canOperate 37 = .ok (.iconst 0, 1) := by decide +kernel
theorem dX10_canOperate_38 : decode cX10_canOperate 38 = .ok (.ireturn, 1) := by decide +kernel
theorem kcX10_canOperate : Cond.code yX10_canOperate cX10_canOperate 2 (some .int) ∈ tb := tq q_1002 rfl
theorem knX10_canOperate : Cond.initialized yX10_canOperate.cls ∈ tb := (tq q_10 rfl)
theorem kdX10_canOperate : yX10_canOperate.cls ≠ "java/lang/invoke/MethodHandle" ∧ yX10_canOperate.cls ≠ "java/lang/invoke/VarHandle" ∧ (parseMethodDescriptor yX10_canOperate.desc).map (fun d => d.parameters.length) = some 1 := ⟨by decide +kernel, by decide +kernel, by decide +kernel⟩
theorem kiX10_canOperate : Cond.instanceMethod yX10_canOperate ∈ tb := (tq q_1001 rfl)
theorem ksX10_canOperate : Cond.selects yX10_canOperate.cls yX10_canOperate yX10_canOperate ∈ tb := (tq z_57 rfl)
theorem tgX10_canOperate {x0 : Nat} {x1 : Int32} {h : PH} {r : Int32 × PH} (hf : (fX10_canOperate x0 x1).1 h = some r) : ∃ n x, nth h x0 = some (9, n, x) := by
  obtain ⟨_, _, e, _⟩ := pb_some hf
  exact (chk_some e).2
set_option maxHeartbeats 4000000 in
set_option maxRecDepth 100000 in
theorem metX10_canOperate (l : Launch) (G : GG) (ρ : Nat → Nat) {z : Nat} {x0 : Nat} {x1 : Int32} {h hE : PH} {v : Int32} (hf : (fX10_canOperate x0 x1).1 h = some (v, hE)) : Met l yX10_canOperate (wsY yX10_canOperate cX10_canOperate 2 (some .int)) (RM 1 29 h hE) (va_Pc [.ref (ρ x0), .int x1] (PcB G ρ h z)) (QI G ρ v hE h.length z) (DC h hE) (DS h hE) (Af ρ h.length z) := by
  refine met_start (by decide) (Nat.le_of_ble_eq_true rfl) ?_
  intro p e s m below meth c ls hz C hW hl
  subst hz
  have C : Cx G "PairSymbolsModel" cX10_canOperate 2 (some .int) "canOperate" p s m _ meth c := C
  have hx := C.1
  have hb := C.2.1
  have hX : Ext hE hE := Ext.rf hE
  have hl : lv_has ls 2 [(0, .ref (ρ x0)), (1, .int x1)] := hl
  have hW : Wd G ρ h.length (sl h) s.heap h s.heap [] 0 0 := hW
  unfold fX10_canOperate at hf
  obtain ⟨_, e0, hf⟩ := pb_rd (rd_chk _ _) hf
  refine lv_iload_n hx hb dX10_canOperate_0 rfl (lv_at hl 1 rfl) ?_
  refine lv_i2l (v := x1.toInt64) hx hb dX10_canOperate_1 rfl ?_
  refine lv_lconst (v := 1) hx hb dX10_canOperate_2 (by decide) ?_
  refine r_ldc2 (v := 7) C (tq q_1003 rfl) dX10_canOperate_3 ?_
  obtain ⟨v1, h1, e1, hf⟩ := pb_some hf
  refine r_calli hW (pext e1) (run_S (As := [.long x1.toInt64, .long (1 : Int64), .long (7 : Int64)]) (rest := []) C hW (metX10_in l G ρ e1) ⟨rfl, rfl⟩ kcX10_in (tq q_834 rfl) kiX10_in knX10_in kdX10_in ⟨Nat.le_of_ble_eq_true rfl, Nat.le_of_ble_eq_true rfl⟩ hl.1 (Nat.le_of_ble_eq_true rfl) (room_of hW (pext e1) ((pext hf).tr hX)) dX10_canOperate_6 rfl) (fun H locs c1 s1 hW => ?_)
  refine lv_if_ne (tgt := 17) hx hb dX10_canOperate_9 (by decide) (fun c2 => ?_) (fun c2 => ?_)
  · rw [if_neg c2] at hf
    refine lv_iload_n hx hb dX10_canOperate_17 rfl (lv_at hl 1 rfl) ?_
    refine lv_i2l (v := x1.toInt64) hx hb dX10_canOperate_18 rfl ?_
    refine lv_aload_n hx hb dX10_canOperate_19 rfl (lv_at hl 0 rfl) ?_
    obtain ⟨v3, h3, e3, hf⟩ := pb_some hf
    obtain ⟨_, _, t4⟩ := tgX10_levelHere e3
    refine r_calli hW (pext e3) (run_V (b := x0) (As := []) (rest := [.long x1.toInt64]) C hW (metX10_levelHere l G ρ e3) ⟨rfl, rfl⟩ kcX10_levelHere (tq q_849 rfl) kiX10_levelHere ksX10_levelHere knX10_levelHere kdX10_levelHere t4 rfl rfl ⟨Nat.le_of_ble_eq_true rfl, Nat.le_of_ble_eq_true rfl⟩ hl.1 (Nat.le_of_ble_eq_true rfl) (room_of hW (pext e3) ((pext hf).tr hX)) dX10_canOperate_20 rfl) (fun H locs c1 s1 hW => ?_)
    refine lv_i2l (v := v3.toInt64) hx hb dX10_canOperate_23 rfl ?_
    obtain ⟨v5, h5, e5, hf⟩ := pb_some hf
    refine r_calll hW (pext e5) (run_S (As := [.long x1.toInt64, .long v3.toInt64]) (rest := []) C hW (metX10_divisor l G ρ e5) ⟨rfl, rfl⟩ kcX10_divisor (tq q_865 rfl) kiX10_divisor knX10_divisor kdX10_divisor ⟨Nat.le_of_ble_eq_true rfl, Nat.le_of_ble_eq_true rfl⟩ hl.1 (Nat.le_of_ble_eq_true rfl) (room_of hW (pext e5) ((pext hf).tr hX)) dX10_canOperate_24 rfl) (fun H locs c1 s1 hW => ?_)
    refine lv_lconst (v := 1) hx hb dX10_canOperate_27 (by decide) ?_
    refine W.lcmp hx hb dX10_canOperate_28 ?_
    refine lv_if_le (tgt := 37) hx hb dX10_canOperate_29 (by decide) (fun c6 => ?_) (fun c6 => ?_)
    · rw [if_pos c6] at hf
      refine lv_iconst (v := 0) hx hb dX10_canOperate_37 (by decide) ?_
      obtain ⟨rfl, rfl⟩ := pp_some hf
      exact r_iret C hW dX10_canOperate_38
    · rw [if_neg c6] at hf
      refine lv_bipush (v := -3) hx hb dX10_canOperate_32 (by decide) ?_
      refine lv_goto (tgt := 38) hx hb dX10_canOperate_34 (by decide) ?_
      obtain ⟨rfl, rfl⟩ := pp_some hf
      exact r_iret C hW dX10_canOperate_38
  · rw [if_pos c2] at hf
    refine lv_bipush (v := -2) hx hb dX10_canOperate_12 (by decide) ?_
    refine lv_goto (tgt := 38) hx hb dX10_canOperate_14 (by decide) ?_
    obtain ⟨rfl, rfl⟩ := pp_some hf
    exact r_iret C hW dX10_canOperate_38
