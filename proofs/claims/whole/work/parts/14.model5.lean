
theorem dX10_trace_0 : decode cX10_trace 0 = .ok (.aload_n 0, 1) := by decide +kernel
theorem dX10_trace_1 : decode cX10_trace 1 = .ok (.iload_n 1, 1) := by decide +kernel
theorem dX10_trace_2 : decode cX10_trace 2 = .ok (.invokevirtual 287, 3) := by decide +kernel
theorem dX10_trace_5 : decode cX10_trace 5 = .ok (.istore_n 3, 1) := by decide +kernel
theorem dX10_trace_6 : decode cX10_trace 6 = .ok (.iload_n 3, 1) := by decide +kernel
theorem dX10_trace_7 : decode cX10_trace 7 = .ok (.bipush (-2), 2) := by decide +kernel
theorem dX10_trace_9 : decode cX10_trace 9 = .ok (.if_icmp .eq 13, 3) := by decide +kernel
theorem dX10_trace_12 : decode cX10_trace 12 = .ok (.iload_n 2, 1) := by decide +kernel
theorem dX10_trace_13 : decode cX10_trace 13 = .ok (.i2l, 1) := by decide +kernel
theorem dX10_trace_14 : decode cX10_trace 14 = .ok (.lconst 0, 1) := by decide +kernel
theorem dX10_trace_15 : decode cX10_trace 15 = .ok (.lconst 1, 1) := by decide +kernel
theorem dX10_trace_16 : decode cX10_trace 16 = .ok (.invokestatic 236, 3) := by decide +kernel
theorem dX10_trace_19 : decode cX10_trace 19 = .ok (.ifCond .ne 13, 3) := by decide +kernel
theorem dX10_trace_22 : decode cX10_trace 22 = .ok (.aload_n 0, 1) := by decide +kernel
theorem dX10_trace_23 : decode cX10_trace 23 = .ok (.bipush (-2), 2) := by decide +kernel
theorem dX10_trace_25 : decode cX10_trace 25 = .ok (.ldc2_w 261, 3) := by decide +kernel
theorem dX10_trace_28 : decode cX10_trace 28 = .ok (.invokevirtual 306, 3) := by decide +kernel
theorem dX10_trace_31 : decode cX10_trace 31 = .ok (.lreturn, 1) := by decide +kernel
theorem dX10_trace_32 : decode cX10_trace 32 = .ok (.iload_n 3, 1) := by decide +kernel
theorem dX10_trace_33 : decode cX10_trace 33 = .ok (.bipush (-3), 2) := by decide +kernel
theorem dX10_trace_35 : decode cX10_trace 35 = .ok (.if_icmp .ne 13, 3) := by decide +kernel
theorem dX10_trace_38 : decode cX10_trace 38 = .ok (.aload_n 0, 1) := by decide +kernel
theorem dX10_trace_39 : decode cX10_trace 39 = .ok (.bipush (-3), 2) := by decide +kernel
theorem dX10_trace_41 : decode cX10_trace 41 = .ok (.ldc2_w 310, 3) := by decide +kernel
theorem dX10_trace_44 : decode cX10_trace 44 = .ok (.invokevirtual 306, 3) := by decide +kernel
theorem dX10_trace_47 : decode cX10_trace 47 = .ok (.lreturn, 1) := by decide +kernel
theorem dX10_trace_48 : decode cX10_trace 48 = .ok (.aload_n 0, 1) := by decide +kernel
theorem dX10_trace_49 : decode cX10_trace 49 = .ok (.iload_n 1, 1) := by decide +kernel
theorem dX10_trace_50 : decode cX10_trace 50 = .ok (.iload_n 2, 1) := by decide +kernel
theorem dX10_trace_51 : decode cX10_trace 51 = .ok (.iconst 1, 1) := by decide +kernel
theorem dX10_trace_52 : decode cX10_trace 52 = .ok (.if_icmp .ne 7, 3) := by decide +kernel
theorem dX10_trace_55 : decode cX10_trace 55 = .ok (.iconst 1, 1) := by decide +kernel
theorem dX10_trace_56 : decode cX10_trace 56 = .ok (.goto 4, 3) := by decide +kernel
theorem dX10_trace_59 : decode cX10_trace 59 = .ok (.iconst 0, 1) := by decide +kernel
theorem dX10_trace_60 : decode cX10_trace 60 = .ok (.invokevirtual 312, 3) := by decide +kernel
theorem dX10_trace_63 : decode cX10_trace 63 = .ok (.iconst 0, 1) := by decide +kernel
theorem dX10_trace_64 : decode cX10_trace 64 = .ok (.istore 4, 2) := by decide +kernel
theorem dX10_trace_66 : decode cX10_trace 66 = .ok (.iload 4, 2) := by decide +kernel
theorem dX10_trace_68 : decode cX10_trace 68 = .ok (.sipush 256, 3) := by decide +kernel
theorem dX10_trace_71 : decode cX10_trace 71 = .ok (.if_icmp .ge 37, 3) := by decide +kernel
theorem dX10_trace_74 : decode cX10_trace 74 = .ok (.aload_n 0, 1) := by decide +kernel
theorem dX10_trace_75 : decode cX10_trace 75 = .ok (.getfield 99, 3) := by decide +kernel
theorem dX10_trace_78 : decode cX10_trace 78 = .ok (.iload 4, 2) := by decide +kernel
theorem dX10_trace_80 : decode cX10_trace 80 = .ok (.aload_n 0, 1) := by decide +kernel
theorem dX10_trace_81 : decode cX10_trace 81 = .ok (.getfield 63, 3) := by decide +kernel
theorem dX10_trace_84 : decode cX10_trace 84 = .ok (.iload 4, 2) := by decide +kernel
theorem dX10_trace_86 : decode cX10_trace 86 = .ok (.laload, 1) := by decide +kernel
theorem dX10_trace_87 : decode cX10_trace 87 = .ok (.lastore, 1) := by decide +kernel
theorem dX10_trace_88 : decode cX10_trace 88 = .ok (.aload_n 0, 1) := by decide +kernel
theorem dX10_trace_89 : decode cX10_trace 89 = .ok (.getfield 102, 3) := by decide +kernel
theorem dX10_trace_92 : decode cX10_trace 92 = .ok (.iload 4, 2) := by decide +kernel
theorem dX10_trace_94 : decode cX10_trace 94 = .ok (.aload_n 0, 1) := by decide +kernel
theorem dX10_trace_95 : decode cX10_trace 95 = .ok (.getfield 66, 3) := by decide +kernel
theorem dX10_trace_98 : decode cX10_trace 98 = .ok (.iload 4, 2) := by decide +kernel
theorem dX10_trace_100 : decode cX10_trace 100 = .ok (.laload, 1) := by decide +kernel
theorem dX10_trace_101 : decode cX10_trace 101 = .ok (.lastore, 1) := by decide +kernel
theorem dX10_trace_102 : decode cX10_trace 102 = .ok (.iinc 4 1, 3) := by decide +kernel
theorem dX10_trace_105 : decode cX10_trace 105 = .ok (.goto (-39), 3) := by decide +kernel
theorem dX10_trace_108 : decode cX10_trace 108 = .ok (.aload_n 0, 1) := by decide +kernel
theorem dX10_trace_109 : decode cX10_trace 109 = .ok (.invokevirtual 302, 3) := by decide +kernel
theorem dX10_trace_112 : decode cX10_trace 112 = .ok (.lreturn, 1) := by decide +kernel
theorem kcX10_trace : Cond.code yX10_trace cX10_trace 5 (some .long) ∈ tb := tq q_1019 rfl
theorem knX10_trace : Cond.initialized yX10_trace.cls ∈ tb := (tq q_10 rfl)
theorem kdX10_trace : yX10_trace.cls ≠ "java/lang/invoke/MethodHandle" ∧ yX10_trace.cls ≠ "java/lang/invoke/VarHandle" ∧ (parseMethodDescriptor yX10_trace.desc).map (fun d => d.parameters.length) = some 2 := ⟨by decide +kernel, by decide +kernel, by decide +kernel⟩
theorem kiX10_trace : Cond.instanceMethod yX10_trace ∈ tb := (tq q_1017 rfl)
theorem ksX10_trace : Cond.selects yX10_trace.cls yX10_trace yX10_trace ∈ tb := (tq q_1018 rfl)
theorem tgX10_trace {x0 : Nat} {x1 : Int32} {x2 : Int32} {h : PH} {r : Int64 × PH} (hf : (fX10_trace x0 x1 x2).1 h = some r) : ∃ n x, nth h x0 = some (9, n, x) := by
  obtain ⟨_, _, e, _⟩ := pb_some hf
  exact (chk_some e).2
set_option maxHeartbeats 4000000 in
set_option maxRecDepth 100000 in
theorem wX10_trace_B66 {p : Program} {l : Launch} {e : Env} {s : State} {m : MethodId} {args : Array Value} {below : List Frame} {meth : Method} {c : Code} {G : GG} {ρ : Nat → Nat} {h0 hE hB : PH} {Q : State → Prop} {x0 : Nat} (C : Cx G "PairSymbolsModel" cX10_trace 5 (some .long) "trace" p s m args meth c) {x4 : Int32} {h : PH} {H : Heap} {locs : List Loc} {cells slots : Nat} {ls : Array Slot} {r : (Int32) ⊕ (Unit)} (hf : (fX10_trace_b66 x0 x4).1 h = some (r, hB)) (hX : Ext hB hE) (hW : Wd G ρ h0.length (sl h0) s.heap h H locs cells slots) (hl : lv_has ls 5 [(0, .ref (ρ x0)), (4, .int x4)]) (kc : ∀ y : Int32, r = .inl y → ∀ (H : Heap) (locs : List Loc) (c1 s1 : Nat) (ls : Array Slot), Wd G ρ h0.length (sl h0) s.heap hB H locs c1 s1 → lv_has ls 5 [(0, .ref (ρ x0)), (4, .int y)] → W p l e (RM 10 259 h0 hE) s m args below meth c H locs c1 s1 Q (F0 m 66 ls [])) (ke : ∀ z : Unit, r = .inr z → ∀ (H : Heap) (locs : List Loc) (c1 s1 : Nat) (ls : Array Slot), Wd G ρ h0.length (sl h0) s.heap hB H locs c1 s1 → lv_has ls 5 [(0, .ref (ρ x0))] → W p l e (RM 10 259 h0 hE) s m args below meth c H locs c1 s1 Q (F0 m 108 ls [])) : W p l e (RM 10 259 h0 hE) s m args below meth c H locs cells slots Q (F0 m 66 ls []) := by
  have hx := C.1
  have hb := C.2.1
  unfold fX10_trace_b66 at hf
  refine lv_iload hx hb dX10_trace_66 (lv_at hl 1 rfl) ?_
  refine lv_sipush (v := 256) hx hb dX10_trace_68 (by decide) ?_
  refine lv_icmp_ge (tgt := 108) hx hb dX10_trace_71 (by decide) (fun c12 => ?_) (fun c12 => ?_)
  · rw [if_pos c12] at hf
    obtain ⟨rfl, rfl⟩ := pp_some hf
    exact ke _ rfl _ _ _ _ _ hW (lv_sub hl [0] rfl)
  · rw [if_neg c12] at hf
    refine lv_aload_n hx hb dX10_trace_74 rfl (lv_at hl 0 rfl) ?_
    obtain ⟨v13, e13, hf⟩ := pb_rd (rd_gA _ _ _) hf
    refine r_gA C hW e13 flX10_99 rfl dX10_trace_75 ?_
    refine lv_iload hx hb dX10_trace_78 (lv_at hl 1 rfl) ?_
    refine lv_aload_n hx hb dX10_trace_80 rfl (lv_at hl 0 rfl) ?_
    obtain ⟨v14, e14, hf⟩ := pb_rd (rd_gA _ _ _) hf
    refine r_gA C hW e14 flX10_63 rfl dX10_trace_81 ?_
    refine lv_iload hx hb dX10_trace_84 (lv_at hl 1 rfl) ?_
    obtain ⟨v15, e15, hf⟩ := pb_rd (rd_lJ _ _ _) hf
    refine r_lald C hW e15 dX10_trace_86 ?_
    obtain ⟨_, h16, e16, hf⟩ := pb_some hf
    refine r_last C hW e16 dX10_trace_87 (fun H locs hW => ?_)
    refine lv_aload_n hx hb dX10_trace_88 rfl (lv_at hl 0 rfl) ?_
    obtain ⟨v17, e17, hf⟩ := pb_rd (rd_gA _ _ _) hf
    refine r_gA C hW e17 flX10_102 rfl dX10_trace_89 ?_
    refine lv_iload hx hb dX10_trace_92 (lv_at hl 1 rfl) ?_
    refine lv_aload_n hx hb dX10_trace_94 rfl (lv_at hl 0 rfl) ?_
    obtain ⟨v18, e18, hf⟩ := pb_rd (rd_gA _ _ _) hf
    refine r_gA C hW e18 flX10_66 rfl dX10_trace_95 ?_
    refine lv_iload hx hb dX10_trace_98 (lv_at hl 1 rfl) ?_
    obtain ⟨v19, e19, hf⟩ := pb_rd (rd_lJ _ _ _) hf
    refine r_lald C hW e19 dX10_trace_100 ?_
    obtain ⟨_, h20, e20, hf⟩ := pb_some hf
    refine r_last C hW e20 dX10_trace_101 (fun H locs hW => ?_)
    refine lv_iinc (v := (x4 + 1)) (lv' := [(4, .int (x4 + 1)), (0, .ref (ρ x0))]) hx hb dX10_trace_102 hl (k := 1) rfl rfl (by decide) rfl (fun ls hl => ?_)
    refine lv_goto (tgt := 66) hx hb dX10_trace_105 (by decide) ?_
    obtain ⟨rfl, rfl⟩ := pp_some hf
    exact kc _ rfl _ _ _ _ _ hW (lv_sub hl [1, 0] rfl)
set_option maxHeartbeats 4000000 in
theorem wX10_trace_L66 {p : Program} {l : Launch} {e : Env} {s : State} {m : MethodId} {args : Array Value} {below : List Frame} {meth : Method} {c : Code} {G : GG} {ρ : Nat → Nat} {h0 hE hB : PH} {Q : State → Prop} {x0 : Nat} (C : Cx G "PairSymbolsModel" cX10_trace 5 (some .long) "trace" p s m args meth c) {z : (Unit)} (n : Nat) : ∀ (x : Int32) {h : PH} {H : Heap} {locs : List Loc} {cells slots : Nat} {ls : Array Slot}, (plo (fX10_trace_B66 x0) n x).1 h = some (z, hB) → Ext hB hE → Wd G ρ h0.length (sl h0) s.heap h H locs cells slots → lv_has ls 5 [(0, .ref (ρ x0)), (4, .int x)] → (ke : ∀ (H : Heap) (locs : List Loc) (c1 s1 : Nat) (ls : Array Slot), Wd G ρ h0.length (sl h0) s.heap hB H locs c1 s1 → lv_has ls 5 [(0, .ref (ρ x0))] → W p l e (RM 10 259 h0 hE) s m args below meth c H locs c1 s1 Q (F0 m 108 ls [])) → W p l e (RM 10 259 h0 hE) s m args below meth c H locs cells slots Q (F0 m 66 ls []) := by
  induction n with
  | zero =>
    intro x h H locs cells slots ls hf
    rw [plo_0] at hf
    exact (pf_no hf).elim
  | succ n ih =>
    intro x h H locs cells slots ls hf hX hW hl ke
    rw [plo_s] at hf
    obtain ⟨r, h1, e1, hf⟩ := pb_some hf
    unfold fX10_trace_B66 at e1
    rw [frI_eq] at e1
    refine wX10_trace_B66 C e1 ((pext hf).tr hX) hW hl (fun y hr H locs c1 s1 ls hW hl => ?_) (fun y hr H locs c1 s1 ls hW hl => ?_)
    · subst hr
      exact ih y hf hX hW hl ke
    · subst hr
      obtain ⟨rfl, rfl⟩ := pp_some hf
      exact ke H locs c1 s1 ls hW hl
set_option maxHeartbeats 4000000 in
set_option maxRecDepth 100000 in
theorem metX10_trace (l : Launch) (G : GG) (ρ : Nat → Nat) {z : Nat} {x0 : Nat} {x1 : Int32} {x2 : Int32} {h hE : PH} {v : Int64} (hf : (fX10_trace x0 x1 x2).1 h = some (v, hE)) : Met l yX10_trace (wsY yX10_trace cX10_trace 5 (some .long)) (RM 10 259 h hE) (va_Pc [.ref (ρ x0), .int x1, .int x2] (PcB G ρ h z)) (QL G ρ v hE h.length z) (DC h hE) (DS h hE) (Af ρ h.length z) := by
  refine met_start (by decide) (Nat.le_of_ble_eq_true rfl) ?_
  intro p e s m below meth c ls hz C hW hl
  subst hz
  have C : Cx G "PairSymbolsModel" cX10_trace 5 (some .long) "trace" p s m _ meth c := C
  have hx := C.1
  have hb := C.2.1
  have hX : Ext hE hE := Ext.rf hE
  have hl : lv_has ls 5 [(0, .ref (ρ x0)), (1, .int x1), (2, .int x2)] := hl
  have hW : Wd G ρ h.length (sl h) s.heap h s.heap [] 0 0 := hW
  unfold fX10_trace at hf
  obtain ⟨_, e0, hf⟩ := pb_rd (rd_chk _ _) hf
  refine lv_aload_n hx hb dX10_trace_0 rfl (lv_at hl 0 rfl) ?_
  refine lv_iload_n hx hb dX10_trace_1 rfl (lv_at hl 1 rfl) ?_
  obtain ⟨v1, h1, e1, hf⟩ := pb_some hf
  obtain ⟨_, _, t2⟩ := tgX10_canOperate e1
  refine r_calli hW (pext e1) (run_V (b := x0) (As := [.int x1]) (rest := []) C hW (metX10_canOperate l G ρ e1) ⟨rfl, rfl⟩ kcX10_canOperate (tq q_999 rfl) kiX10_canOperate ksX10_canOperate knX10_canOperate kdX10_canOperate t2 rfl rfl ⟨Nat.le_of_ble_eq_true rfl, Nat.le_of_ble_eq_true rfl⟩ hl.1 (Nat.le_of_ble_eq_true rfl) (room_of hW (pext e1) ((pext hf).tr hX)) dX10_trace_2 rfl) (fun H locs c1 s1 hW => ?_)
  refine lv_istore_n (lv' := [(3, .int v1), (0, .ref (ρ x0)), (1, .int x1), (2, .int x2)]) hx hb dX10_trace_5 rfl hl (by decide) rfl (fun ls hl => ?_)
  refine lv_iload_n hx hb dX10_trace_6 rfl (lv_at hl 0 rfl) ?_
  refine lv_bipush (v := -2) hx hb dX10_trace_7 (by decide) ?_
  refine lv_icmp_eq (tgt := 22) hx hb dX10_trace_9 (by decide) (fun c3 => ?_) (fun c3 => ?_)
  · rw [if_pos c3] at hf
    refine lv_aload_n hx hb dX10_trace_22 rfl (lv_at hl 1 rfl) ?_
    refine lv_bipush (v := -2) hx hb dX10_trace_23 (by decide) ?_
    refine r_ldc2 (v := -9999) C (tq q_948 rfl) dX10_trace_25 ?_
    obtain ⟨v4, h4, e4, hf⟩ := pb_some hf
    obtain ⟨_, _, t5⟩ := tgX10_refusesBy e4
    refine r_calll hW (pext e4) (run_V (b := x0) (As := [.int (-2 : Int32), .long (-9999 : Int64)]) (rest := []) C hW (metX10_refusesBy l G ρ e4) ⟨rfl, rfl⟩ kcX10_refusesBy (tq q_1020 rfl) kiX10_refusesBy ksX10_refusesBy knX10_refusesBy kdX10_refusesBy t5 rfl rfl ⟨Nat.le_of_ble_eq_true rfl, Nat.le_of_ble_eq_true rfl⟩ hl.1 (Nat.le_of_ble_eq_true rfl) (room_of hW (pext e4) ((pext hf).tr hX)) dX10_trace_28 rfl) (fun H locs c1 s1 hW => ?_)
    obtain ⟨rfl, rfl⟩ := pp_some hf
    exact r_lret C hW dX10_trace_31
  · rw [if_neg c3] at hf
    refine lv_iload_n hx hb dX10_trace_12 rfl (lv_at hl 3 rfl) ?_
    refine lv_i2l (v := x2.toInt64) hx hb dX10_trace_13 rfl ?_
    refine lv_lconst (v := 0) hx hb dX10_trace_14 (by decide) ?_
    refine lv_lconst (v := 1) hx hb dX10_trace_15 (by decide) ?_
    obtain ⟨v6, h6, e6, hf⟩ := pb_some hf
    refine r_calli hW (pext e6) (run_S (As := [.long x2.toInt64, .long (0 : Int64), .long (1 : Int64)]) (rest := []) C hW (metX10_in l G ρ e6) ⟨rfl, rfl⟩ kcX10_in (tq q_834 rfl) kiX10_in knX10_in kdX10_in ⟨Nat.le_of_ble_eq_true rfl, Nat.le_of_ble_eq_true rfl⟩ hl.1 (Nat.le_of_ble_eq_true rfl) (room_of hW (pext e6) ((pext hf).tr hX)) dX10_trace_16 rfl) (fun H locs c1 s1 hW => ?_)
    refine lv_if_ne (tgt := 32) hx hb dX10_trace_19 (by decide) (fun c7 => ?_) (fun c7 => ?_)
    · rw [if_neg c7] at hf
      refine lv_iload_n hx hb dX10_trace_32 rfl (lv_at hl 0 rfl) ?_
      refine lv_bipush (v := -3) hx hb dX10_trace_33 (by decide) ?_
      refine lv_icmp_ne (tgt := 48) hx hb dX10_trace_35 (by decide) (fun c8 => ?_) (fun c8 => ?_)
      · rw [if_neg c8] at hf
        refine lv_aload_n hx hb dX10_trace_48 rfl (lv_at hl 1 rfl) ?_
        refine lv_iload_n hx hb dX10_trace_49 rfl (lv_at hl 2 rfl) ?_
        refine lv_iload_n hx hb dX10_trace_50 rfl (lv_at hl 3 rfl) ?_
        refine lv_iconst (v := 1) hx hb dX10_trace_51 (by decide) ?_
        refine lv_icmp_ne (tgt := 59) hx hb dX10_trace_52 (by decide) (fun c9 => ?_) (fun c9 => ?_)
        · rw [if_neg c9] at hf
          refine lv_iconst (v := 0) hx hb dX10_trace_59 (by decide) ?_
          obtain ⟨_, h10, e10, hf⟩ := pb_some hf
          obtain ⟨_, _, t11⟩ := tgX10_laysTable e10
          refine r_callv hW (pext e10) (run_V (b := x0) (As := [.int x1, .int (0 : Int32)]) (rest := []) C hW (metX10_laysTable l G ρ e10) ⟨rfl, rfl⟩ kcX10_laysTable (tq q_1025 rfl) kiX10_laysTable ksX10_laysTable knX10_laysTable kdX10_laysTable t11 rfl rfl ⟨Nat.le_of_ble_eq_true rfl, Nat.le_of_ble_eq_true rfl⟩ hl.1 (Nat.le_of_ble_eq_true rfl) (room_of hW (pext e10) ((pext hf).tr hX)) dX10_trace_60 rfl) (fun H locs c1 s1 hW => ?_)
          refine lv_iconst (v := 0) hx hb dX10_trace_63 (by decide) ?_
          refine lv_istore (lv' := [(4, .int (0 : Int32)), (3, .int v1), (0, .ref (ρ x0)), (1, .int x1), (2, .int x2)]) hx hb dX10_trace_64 hl (by decide) rfl (fun ls hl => ?_)
          obtain ⟨z21, h21, e21, hf⟩ := pb_some hf
          refine wX10_trace_L66 C fu _ e21 ((pext hf).tr hX) hW (lv_sub hl [2, 0] rfl) (fun H locs c1 s1 ls hW hl => ?_)
          refine lv_aload_n hx hb dX10_trace_108 rfl (lv_at hl 0 rfl) ?_
          obtain ⟨v22, h22, e22, hf⟩ := pb_some hf
          obtain ⟨_, _, t23⟩ := tgX10_diagonal e22
          refine r_calll hW (pext e22) (run_V (b := x0) (As := []) (rest := []) C hW (metX10_diagonal l G ρ e22) ⟨rfl, rfl⟩ kcX10_diagonal (tq q_1029 rfl) kiX10_diagonal ksX10_diagonal knX10_diagonal kdX10_diagonal t23 rfl rfl ⟨Nat.le_of_ble_eq_true rfl, Nat.le_of_ble_eq_true rfl⟩ hl.1 (Nat.le_of_ble_eq_true rfl) (room_of hW (pext e22) ((pext hf).tr hX)) dX10_trace_109 rfl) (fun H locs c1 s1 hW => ?_)
          obtain ⟨rfl, rfl⟩ := pp_some hf
          exact r_lret C hW dX10_trace_112
        · rw [if_pos c9] at hf
          refine lv_iconst (v := 1) hx hb dX10_trace_55 (by decide) ?_
          refine lv_goto (tgt := 60) hx hb dX10_trace_56 (by decide) ?_
          obtain ⟨_, h24, e24, hf⟩ := pb_some hf
          obtain ⟨_, _, t25⟩ := tgX10_laysTable e24
          refine r_callv hW (pext e24) (run_V (b := x0) (As := [.int x1, .int (1 : Int32)]) (rest := []) C hW (metX10_laysTable l G ρ e24) ⟨rfl, rfl⟩ kcX10_laysTable (tq q_1025 rfl) kiX10_laysTable ksX10_laysTable knX10_laysTable kdX10_laysTable t25 rfl rfl ⟨Nat.le_of_ble_eq_true rfl, Nat.le_of_ble_eq_true rfl⟩ hl.1 (Nat.le_of_ble_eq_true rfl) (room_of hW (pext e24) ((pext hf).tr hX)) dX10_trace_60 rfl) (fun H locs c1 s1 hW => ?_)
          refine lv_iconst (v := 0) hx hb dX10_trace_63 (by decide) ?_
          refine lv_istore (lv' := [(4, .int (0 : Int32)), (3, .int v1), (0, .ref (ρ x0)), (1, .int x1), (2, .int x2)]) hx hb dX10_trace_64 hl (by decide) rfl (fun ls hl => ?_)
          obtain ⟨z26, h26, e26, hf⟩ := pb_some hf
          refine wX10_trace_L66 C fu _ e26 ((pext hf).tr hX) hW (lv_sub hl [2, 0] rfl) (fun H locs c1 s1 ls hW hl => ?_)
          refine lv_aload_n hx hb dX10_trace_108 rfl (lv_at hl 0 rfl) ?_
          obtain ⟨v27, h27, e27, hf⟩ := pb_some hf
          obtain ⟨_, _, t28⟩ := tgX10_diagonal e27
          refine r_calll hW (pext e27) (run_V (b := x0) (As := []) (rest := []) C hW (metX10_diagonal l G ρ e27) ⟨rfl, rfl⟩ kcX10_diagonal (tq q_1029 rfl) kiX10_diagonal ksX10_diagonal knX10_diagonal kdX10_diagonal t28 rfl rfl ⟨Nat.le_of_ble_eq_true rfl, Nat.le_of_ble_eq_true rfl⟩ hl.1 (Nat.le_of_ble_eq_true rfl) (room_of hW (pext e27) ((pext hf).tr hX)) dX10_trace_109 rfl) (fun H locs c1 s1 hW => ?_)
          obtain ⟨rfl, rfl⟩ := pp_some hf
          exact r_lret C hW dX10_trace_112
      · rw [if_pos c8] at hf
        refine lv_aload_n hx hb dX10_trace_38 rfl (lv_at hl 1 rfl) ?_
        refine lv_bipush (v := -3) hx hb dX10_trace_39 (by decide) ?_
        refine r_ldc2 (v := -9998) C (tq q_1024 rfl) dX10_trace_41 ?_
        obtain ⟨v29, h29, e29, hf⟩ := pb_some hf
        obtain ⟨_, _, t30⟩ := tgX10_refusesBy e29
        refine r_calll hW (pext e29) (run_V (b := x0) (As := [.int (-3 : Int32), .long (-9998 : Int64)]) (rest := []) C hW (metX10_refusesBy l G ρ e29) ⟨rfl, rfl⟩ kcX10_refusesBy (tq q_1020 rfl) kiX10_refusesBy ksX10_refusesBy knX10_refusesBy kdX10_refusesBy t30 rfl rfl ⟨Nat.le_of_ble_eq_true rfl, Nat.le_of_ble_eq_true rfl⟩ hl.1 (Nat.le_of_ble_eq_true rfl) (room_of hW (pext e29) ((pext hf).tr hX)) dX10_trace_44 rfl) (fun H locs c1 s1 hW => ?_)
        obtain ⟨rfl, rfl⟩ := pp_some hf
        exact r_lret C hW dX10_trace_47
    · rw [if_pos c7] at hf
      refine lv_aload_n hx hb dX10_trace_22 rfl (lv_at hl 1 rfl) ?_
      refine lv_bipush (v := -2) hx hb dX10_trace_23 (by decide) ?_
      refine r_ldc2 (v := -9999) C (tq q_948 rfl) dX10_trace_25 ?_
      obtain ⟨v31, h31, e31, hf⟩ := pb_some hf
      obtain ⟨_, _, t32⟩ := tgX10_refusesBy e31
      refine r_calll hW (pext e31) (run_V (b := x0) (As := [.int (-2 : Int32), .long (-9999 : Int64)]) (rest := []) C hW (metX10_refusesBy l G ρ e31) ⟨rfl, rfl⟩ kcX10_refusesBy (tq q_1020 rfl) kiX10_refusesBy ksX10_refusesBy knX10_refusesBy kdX10_refusesBy t32 rfl rfl ⟨Nat.le_of_ble_eq_true rfl, Nat.le_of_ble_eq_true rfl⟩ hl.1 (Nat.le_of_ble_eq_true rfl) (room_of hW (pext e31) ((pext hf).tr hX)) dX10_trace_28 rfl) (fun H locs c1 s1 hW => ?_)
      obtain ⟨rfl, rfl⟩ := pp_some hf
      exact r_lret C hW dX10_trace_31

theorem dX10_polynomial_0 : decode cX10_polynomial 0 = .ok (.aload_n 0, 1) := by decide +kernel
theorem dX10_polynomial_1 : decode cX10_polynomial 1 = .ok (.iload_n 1, 1) := by decide +kernel
theorem dX10_polynomial_2 : decode cX10_polynomial 2 = .ok (.invokevirtual 287, 3) := by decide +kernel
theorem dX10_polynomial_5 : decode cX10_polynomial 5 = .ok (.istore 4, 2) := by decide +kernel
theorem dX10_polynomial_7 : decode cX10_polynomial 7 = .ok (.iload 4, 2) := by decide +kernel
theorem dX10_polynomial_9 : decode cX10_polynomial 9 = .ok (.bipush (-2), 2) := by decide +kernel
theorem dX10_polynomial_11 : decode cX10_polynomial 11 = .ok (.if_icmp .eq 17, 3) := by decide +kernel
theorem dX10_polynomial_14 : decode cX10_polynomial 14 = .ok (.iload_n 2, 1) := by decide +kernel
theorem dX10_polynomial_15 : decode cX10_polynomial 15 = .ok (.i2l, 1) := by decide +kernel
theorem dX10_polynomial_16 : decode cX10_polynomial 16 = .ok (.lconst 0, 1) := by decide +kernel
theorem dX10_polynomial_17 : decode cX10_polynomial 17 = .ok (.lconst 1, 1) := by decide +kernel
theorem dX10_polynomial_18 : decode cX10_polynomial 18 = .ok (.invokestatic 236, 3) := by decide +kernel
theorem dX10_polynomial_21 : decode cX10_polynomial 21 = .ok (.ifCond .eq 7, 3) := by decide +kernel
theorem dX10_polynomial_24 : decode cX10_polynomial 24 = .ok (.iload_n 3, 1) := by decide +kernel
theorem dX10_polynomial_25 : decode cX10_polynomial 25 = .ok (.ifCond .ge 13, 3) := by decide +kernel
theorem dX10_polynomial_28 : decode cX10_polynomial 28 = .ok (.aload_n 0, 1) := by decide +kernel
theorem dX10_polynomial_29 : decode cX10_polynomial 29 = .ok (.bipush (-2), 2) := by decide +kernel
theorem dX10_polynomial_31 : decode cX10_polynomial 31 = .ok (.ldc2_w 316, 3) := by decide +kernel
theorem dX10_polynomial_34 : decode cX10_polynomial 34 = .ok (.invokevirtual 306, 3) := by decide +kernel
theorem dX10_polynomial_37 : decode cX10_polynomial 37 = .ok (.lreturn, 1) := by decide +kernel
theorem dX10_polynomial_38 : decode cX10_polynomial 38 = .ok (.iload 4, 2) := by decide +kernel
theorem dX10_polynomial_40 : decode cX10_polynomial 40 = .ok (.bipush (-3), 2) := by decide +kernel
theorem dX10_polynomial_42 : decode cX10_polynomial 42 = .ok (.if_icmp .ne 13, 3) := by decide +kernel
theorem dX10_polynomial_45 : decode cX10_polynomial 45 = .ok (.aload_n 0, 1) := by decide +kernel
theorem dX10_polynomial_46 : decode cX10_polynomial 46 = .ok (.bipush (-3), 2) := by decide +kernel
theorem dX10_polynomial_48 : decode cX10_polynomial 48 = .ok (.ldc2_w 318, 3) := by decide +kernel
theorem dX10_polynomial_51 : decode cX10_polynomial 51 = .ok (.invokevirtual 306, 3) := by decide +kernel
theorem dX10_polynomial_54 : decode cX10_polynomial 54 = .ok (.lreturn, 1) := by decide +kernel
theorem dX10_polynomial_55 : decode cX10_polynomial 55 = .ok (.aload_n 0, 1) := by decide +kernel
theorem dX10_polynomial_56 : decode cX10_polynomial 56 = .ok (.iload_n 1, 1) := by decide +kernel
theorem dX10_polynomial_57 : decode cX10_polynomial 57 = .ok (.iload_n 2, 1) := by decide +kernel
theorem dX10_polynomial_58 : decode cX10_polynomial 58 = .ok (.iconst 1, 1) := by decide +kernel
theorem dX10_polynomial_59 : decode cX10_polynomial 59 = .ok (.if_icmp .ne 7, 3) := by decide +kernel
theorem dX10_polynomial_62 : decode cX10_polynomial 62 = .ok (.iconst 1, 1) := by decide +kernel
theorem dX10_polynomial_63 : decode cX10_polynomial 63 = .ok (.goto 4, 3) := by decide +kernel
theorem dX10_polynomial_66 : decode cX10_polynomial 66 = .ok (.iconst 0, 1) := by decide +kernel
theorem dX10_polynomial_67 : decode cX10_polynomial 67 = .ok (.invokevirtual 312, 3) := by decide +kernel
theorem dX10_polynomial_70 : decode cX10_polynomial 70 = .ok (.aload_n 0, 1) := by decide +kernel
theorem dX10_polynomial_71 : decode cX10_polynomial 71 = .ok (.invokevirtual 320, 3) := by decide +kernel
theorem dX10_polynomial_74 : decode cX10_polynomial 74 = .ok (.iload_n 3, 1) := by decide +kernel
theorem dX10_polynomial_75 : decode cX10_polynomial 75 = .ok (.aload_n 0, 1) := by decide +kernel
theorem dX10_polynomial_76 : decode cX10_polynomial 76 = .ok (.getfield 293, 3) := by decide +kernel
theorem dX10_polynomial_79 : decode cX10_polynomial 79 = .ok (.if_icmp .gt 12, 3) := by decide +kernel
theorem dX10_polynomial_82 : decode cX10_polynomial 82 = .ok (.aload_n 0, 1) := by decide +kernel
theorem dX10_polynomial_83 : decode cX10_polynomial 83 = .ok (.getfield 105, 3) := by decide +kernel
theorem dX10_polynomial_86 : decode cX10_polynomial 86 = .ok (.iload_n 3, 1) := by decide +kernel
theorem dX10_polynomial_87 : decode cX10_polynomial 87 = .ok (.laload, 1) := by decide +kernel
theorem dX10_polynomial_88 : decode cX10_polynomial 88 = .ok (.goto 4, 3) := by decide +kernel
theorem dX10_polynomial_91 : decode cX10_polynomial 91 = .ok (.lconst 0, 1) := by decide +kernel
theorem dX10_polynomial_92 : decode cX10_polynomial 92 = .ok (.lreturn, 1) := by decide +kernel
theorem kcX10_polynomial : Cond.code yX10_polynomial cX10_polynomial 5 (some .long) ∈ tb := tq q_1040 rfl
theorem knX10_polynomial : Cond.initialized yX10_polynomial.cls ∈ tb := (tq q_10 rfl)
theorem kdX10_polynomial : yX10_polynomial.cls ≠ "java/lang/invoke/MethodHandle" ∧ yX10_polynomial.cls ≠ "java/lang/invoke/VarHandle" ∧ (parseMethodDescriptor yX10_polynomial.desc).map (fun d => d.parameters.length) = some 3 := ⟨by decide +kernel, by decide +kernel, by decide +kernel⟩
theorem kiX10_polynomial : Cond.instanceMethod yX10_polynomial ∈ tb := (tq q_1038 rfl)
theorem ksX10_polynomial : Cond.selects yX10_polynomial.cls yX10_polynomial yX10_polynomial ∈ tb := (tq q_1039 rfl)
theorem tgX10_polynomial {x0 : Nat} {x1 : Int32} {x2 : Int32} {x3 : Int32} {h : PH} {r : Int64 × PH} (hf : (fX10_polynomial x0 x1 x2 x3).1 h = some r) : ∃ n x, nth h x0 = some (9, n, x) := by
  obtain ⟨_, _, e, _⟩ := pb_some hf
  exact (chk_some e).2
set_option maxHeartbeats 4000000 in
set_option maxRecDepth 100000 in
theorem metX10_polynomial (l : Launch) (G : GG) (ρ : Nat → Nat) {z : Nat} {x0 : Nat} {x1 : Int32} {x2 : Int32} {x3 : Int32} {h hE : PH} {v : Int64} (hf : (fX10_polynomial x0 x1 x2 x3).1 h = some (v, hE)) : Met l yX10_polynomial (wsY yX10_polynomial cX10_polynomial 5 (some .long)) (RM 10 259 h hE) (va_Pc [.ref (ρ x0), .int x1, .int x2, .int x3] (PcB G ρ h z)) (QL G ρ v hE h.length z) (DC h hE) (DS h hE) (Af ρ h.length z) := by
  refine met_start (by decide) (Nat.le_of_ble_eq_true rfl) ?_
  intro p e s m below meth c ls hz C hW hl
  subst hz
  have C : Cx G "PairSymbolsModel" cX10_polynomial 5 (some .long) "polynomial" p s m _ meth c := C
  have hx := C.1
  have hb := C.2.1
  have hX : Ext hE hE := Ext.rf hE
  have hl : lv_has ls 5 [(0, .ref (ρ x0)), (1, .int x1), (2, .int x2), (3, .int x3)] := hl
  have hW : Wd G ρ h.length (sl h) s.heap h s.heap [] 0 0 := hW
  unfold fX10_polynomial at hf
  obtain ⟨_, e0, hf⟩ := pb_rd (rd_chk _ _) hf
  refine lv_aload_n hx hb dX10_polynomial_0 rfl (lv_at hl 0 rfl) ?_
  refine lv_iload_n hx hb dX10_polynomial_1 rfl (lv_at hl 1 rfl) ?_
  obtain ⟨v1, h1, e1, hf⟩ := pb_some hf
  obtain ⟨_, _, t2⟩ := tgX10_canOperate e1
  refine r_calli hW (pext e1) (run_V (b := x0) (As := [.int x1]) (rest := []) C hW (metX10_canOperate l G ρ e1) ⟨rfl, rfl⟩ kcX10_canOperate (tq q_999 rfl) kiX10_canOperate ksX10_canOperate knX10_canOperate kdX10_canOperate t2 rfl rfl ⟨Nat.le_of_ble_eq_true rfl, Nat.le_of_ble_eq_true rfl⟩ hl.1 (Nat.le_of_ble_eq_true rfl) (room_of hW (pext e1) ((pext hf).tr hX)) dX10_polynomial_2 rfl) (fun H locs c1 s1 hW => ?_)
  refine lv_istore (lv' := [(4, .int v1), (0, .ref (ρ x0)), (1, .int x1), (2, .int x2), (3, .int x3)]) hx hb dX10_polynomial_5 hl (by decide) rfl (fun ls hl => ?_)
  refine lv_iload hx hb dX10_polynomial_7 (lv_at hl 0 rfl) ?_
  refine lv_bipush (v := -2) hx hb dX10_polynomial_9 (by decide) ?_
  refine lv_icmp_eq (tgt := 28) hx hb dX10_polynomial_11 (by decide) (fun c3 => ?_) (fun c3 => ?_)
  · rw [if_pos c3] at hf
    refine lv_aload_n hx hb dX10_polynomial_28 rfl (lv_at hl 1 rfl) ?_
    refine lv_bipush (v := -2) hx hb dX10_polynomial_29 (by decide) ?_
    refine r_ldc2 (v := -9223372036854775808) C (tq q_1041 rfl) dX10_polynomial_31 ?_
    obtain ⟨v4, h4, e4, hf⟩ := pb_some hf
    obtain ⟨_, _, t5⟩ := tgX10_refusesBy e4
    refine r_calll hW (pext e4) (run_V (b := x0) (As := [.int (-2 : Int32), .long (-9223372036854775808 : Int64)]) (rest := []) C hW (metX10_refusesBy l G ρ e4) ⟨rfl, rfl⟩ kcX10_refusesBy (tq q_1020 rfl) kiX10_refusesBy ksX10_refusesBy knX10_refusesBy kdX10_refusesBy t5 rfl rfl ⟨Nat.le_of_ble_eq_true rfl, Nat.le_of_ble_eq_true rfl⟩ hl.1 (Nat.le_of_ble_eq_true rfl) (room_of hW (pext e4) ((pext hf).tr hX)) dX10_polynomial_34 rfl) (fun H locs c1 s1 hW => ?_)
    obtain ⟨rfl, rfl⟩ := pp_some hf
    exact r_lret C hW dX10_polynomial_37
  · rw [if_neg c3] at hf
    refine lv_iload_n hx hb dX10_polynomial_14 rfl (lv_at hl 3 rfl) ?_
    refine lv_i2l (v := x2.toInt64) hx hb dX10_polynomial_15 rfl ?_
    refine lv_lconst (v := 0) hx hb dX10_polynomial_16 (by decide) ?_
    refine lv_lconst (v := 1) hx hb dX10_polynomial_17 (by decide) ?_
    obtain ⟨v6, h6, e6, hf⟩ := pb_some hf
    refine r_calli hW (pext e6) (run_S (As := [.long x2.toInt64, .long (0 : Int64), .long (1 : Int64)]) (rest := []) C hW (metX10_in l G ρ e6) ⟨rfl, rfl⟩ kcX10_in (tq q_834 rfl) kiX10_in knX10_in kdX10_in ⟨Nat.le_of_ble_eq_true rfl, Nat.le_of_ble_eq_true rfl⟩ hl.1 (Nat.le_of_ble_eq_true rfl) (room_of hW (pext e6) ((pext hf).tr hX)) dX10_polynomial_18 rfl) (fun H locs c1 s1 hW => ?_)
    refine lv_if_eq (tgt := 28) hx hb dX10_polynomial_21 (by decide) (fun c7 => ?_) (fun c7 => ?_)
    · rw [if_pos c7] at hf
      refine lv_aload_n hx hb dX10_polynomial_28 rfl (lv_at hl 1 rfl) ?_
      refine lv_bipush (v := -2) hx hb dX10_polynomial_29 (by decide) ?_
      refine r_ldc2 (v := -9223372036854775808) C (tq q_1041 rfl) dX10_polynomial_31 ?_
      obtain ⟨v8, h8, e8, hf⟩ := pb_some hf
      obtain ⟨_, _, t9⟩ := tgX10_refusesBy e8
      refine r_calll hW (pext e8) (run_V (b := x0) (As := [.int (-2 : Int32), .long (-9223372036854775808 : Int64)]) (rest := []) C hW (metX10_refusesBy l G ρ e8) ⟨rfl, rfl⟩ kcX10_refusesBy (tq q_1020 rfl) kiX10_refusesBy ksX10_refusesBy knX10_refusesBy kdX10_refusesBy t9 rfl rfl ⟨Nat.le_of_ble_eq_true rfl, Nat.le_of_ble_eq_true rfl⟩ hl.1 (Nat.le_of_ble_eq_true rfl) (room_of hW (pext e8) ((pext hf).tr hX)) dX10_polynomial_34 rfl) (fun H locs c1 s1 hW => ?_)
      obtain ⟨rfl, rfl⟩ := pp_some hf
      exact r_lret C hW dX10_polynomial_37
    · rw [if_neg c7] at hf
      refine lv_iload_n hx hb dX10_polynomial_24 rfl (lv_at hl 4 rfl) ?_
      refine lv_if_ge (tgt := 38) hx hb dX10_polynomial_25 (by decide) (fun c10 => ?_) (fun c10 => ?_)
      · rw [if_pos c10] at hf
        refine lv_iload hx hb dX10_polynomial_38 (lv_at hl 0 rfl) ?_
        refine lv_bipush (v := -3) hx hb dX10_polynomial_40 (by decide) ?_
        refine lv_icmp_ne (tgt := 55) hx hb dX10_polynomial_42 (by decide) (fun c11 => ?_) (fun c11 => ?_)
        · rw [if_neg c11] at hf
          refine lv_aload_n hx hb dX10_polynomial_55 rfl (lv_at hl 1 rfl) ?_
          refine lv_iload_n hx hb dX10_polynomial_56 rfl (lv_at hl 2 rfl) ?_
          refine lv_iload_n hx hb dX10_polynomial_57 rfl (lv_at hl 3 rfl) ?_
          refine lv_iconst (v := 1) hx hb dX10_polynomial_58 (by decide) ?_
          refine lv_icmp_ne (tgt := 66) hx hb dX10_polynomial_59 (by decide) (fun c12 => ?_) (fun c12 => ?_)
          · rw [if_neg c12] at hf
            refine lv_iconst (v := 0) hx hb dX10_polynomial_66 (by decide) ?_
            obtain ⟨_, h13, e13, hf⟩ := pb_some hf
            obtain ⟨_, _, t14⟩ := tgX10_laysTable e13
            refine r_callv hW (pext e13) (run_V (b := x0) (As := [.int x1, .int (0 : Int32)]) (rest := []) C hW (metX10_laysTable l G ρ e13) ⟨rfl, rfl⟩ kcX10_laysTable (tq q_1025 rfl) kiX10_laysTable ksX10_laysTable knX10_laysTable kdX10_laysTable t14 rfl rfl ⟨Nat.le_of_ble_eq_true rfl, Nat.le_of_ble_eq_true rfl⟩ hl.1 (Nat.le_of_ble_eq_true rfl) (room_of hW (pext e13) ((pext hf).tr hX)) dX10_polynomial_67 rfl) (fun H locs c1 s1 hW => ?_)
            refine lv_aload_n hx hb dX10_polynomial_70 rfl (lv_at hl 1 rfl) ?_
            obtain ⟨_, h15, e15, hf⟩ := pb_some hf
            obtain ⟨_, _, t16⟩ := tgX10_laysPolynomial e15
            refine r_callv hW (pext e15) (run_V (b := x0) (As := []) (rest := []) C hW (metX10_laysPolynomial l G ρ e15) ⟨rfl, rfl⟩ kcX10_laysPolynomial (tq q_1043 rfl) kiX10_laysPolynomial ksX10_laysPolynomial knX10_laysPolynomial kdX10_laysPolynomial t16 rfl rfl ⟨Nat.le_of_ble_eq_true rfl, Nat.le_of_ble_eq_true rfl⟩ hl.1 (Nat.le_of_ble_eq_true rfl) (room_of hW (pext e15) ((pext hf).tr hX)) dX10_polynomial_71 rfl) (fun H locs c1 s1 hW => ?_)
            refine lv_iload_n hx hb dX10_polynomial_74 rfl (lv_at hl 4 rfl) ?_
            refine lv_aload_n hx hb dX10_polynomial_75 rfl (lv_at hl 1 rfl) ?_
            obtain ⟨v17, e17, hf⟩ := pb_rd (rd_gI _ _ _) hf
            refine r_gI C hW e17 flX10_293 rfl dX10_polynomial_76 ?_
            refine lv_icmp_gt (tgt := 91) hx hb dX10_polynomial_79 (by decide) (fun c18 => ?_) (fun c18 => ?_)
            · rw [if_pos c18] at hf
              refine lv_lconst (v := 0) hx hb dX10_polynomial_91 (by decide) ?_
              obtain ⟨rfl, rfl⟩ := pp_some hf
              exact r_lret C hW dX10_polynomial_92
            · rw [if_neg c18] at hf
              refine lv_aload_n hx hb dX10_polynomial_82 rfl (lv_at hl 1 rfl) ?_
              obtain ⟨v19, e19, hf⟩ := pb_rd (rd_gA _ _ _) hf
              refine r_gA C hW e19 flX10_105 rfl dX10_polynomial_83 ?_
              refine lv_iload_n hx hb dX10_polynomial_86 rfl (lv_at hl 4 rfl) ?_
              obtain ⟨v20, e20, hf⟩ := pb_rd (rd_lJ _ _ _) hf
              refine r_lald C hW e20 dX10_polynomial_87 ?_
              refine lv_goto (tgt := 92) hx hb dX10_polynomial_88 (by decide) ?_
              obtain ⟨rfl, rfl⟩ := pp_some hf
              exact r_lret C hW dX10_polynomial_92
          · rw [if_pos c12] at hf
            refine lv_iconst (v := 1) hx hb dX10_polynomial_62 (by decide) ?_
            refine lv_goto (tgt := 67) hx hb dX10_polynomial_63 (by decide) ?_
            obtain ⟨_, h21, e21, hf⟩ := pb_some hf
            obtain ⟨_, _, t22⟩ := tgX10_laysTable e21
            refine r_callv hW (pext e21) (run_V (b := x0) (As := [.int x1, .int (1 : Int32)]) (rest := []) C hW (metX10_laysTable l G ρ e21) ⟨rfl, rfl⟩ kcX10_laysTable (tq q_1025 rfl) kiX10_laysTable ksX10_laysTable knX10_laysTable kdX10_laysTable t22 rfl rfl ⟨Nat.le_of_ble_eq_true rfl, Nat.le_of_ble_eq_true rfl⟩ hl.1 (Nat.le_of_ble_eq_true rfl) (room_of hW (pext e21) ((pext hf).tr hX)) dX10_polynomial_67 rfl) (fun H locs c1 s1 hW => ?_)
            refine lv_aload_n hx hb dX10_polynomial_70 rfl (lv_at hl 1 rfl) ?_
            obtain ⟨_, h23, e23, hf⟩ := pb_some hf
            obtain ⟨_, _, t24⟩ := tgX10_laysPolynomial e23
            refine r_callv hW (pext e23) (run_V (b := x0) (As := []) (rest := []) C hW (metX10_laysPolynomial l G ρ e23) ⟨rfl, rfl⟩ kcX10_laysPolynomial (tq q_1043 rfl) kiX10_laysPolynomial ksX10_laysPolynomial knX10_laysPolynomial kdX10_laysPolynomial t24 rfl rfl ⟨Nat.le_of_ble_eq_true rfl, Nat.le_of_ble_eq_true rfl⟩ hl.1 (Nat.le_of_ble_eq_true rfl) (room_of hW (pext e23) ((pext hf).tr hX)) dX10_polynomial_71 rfl) (fun H locs c1 s1 hW => ?_)
            refine lv_iload_n hx hb dX10_polynomial_74 rfl (lv_at hl 4 rfl) ?_
            refine lv_aload_n hx hb dX10_polynomial_75 rfl (lv_at hl 1 rfl) ?_
            obtain ⟨v25, e25, hf⟩ := pb_rd (rd_gI _ _ _) hf
            refine r_gI C hW e25 flX10_293 rfl dX10_polynomial_76 ?_
            refine lv_icmp_gt (tgt := 91) hx hb dX10_polynomial_79 (by decide) (fun c26 => ?_) (fun c26 => ?_)
            · rw [if_pos c26] at hf
              refine lv_lconst (v := 0) hx hb dX10_polynomial_91 (by decide) ?_
              obtain ⟨rfl, rfl⟩ := pp_some hf
              exact r_lret C hW dX10_polynomial_92
            · rw [if_neg c26] at hf
              refine lv_aload_n hx hb dX10_polynomial_82 rfl (lv_at hl 1 rfl) ?_
              obtain ⟨v27, e27, hf⟩ := pb_rd (rd_gA _ _ _) hf
              refine r_gA C hW e27 flX10_105 rfl dX10_polynomial_83 ?_
              refine lv_iload_n hx hb dX10_polynomial_86 rfl (lv_at hl 4 rfl) ?_
              obtain ⟨v28, e28, hf⟩ := pb_rd (rd_lJ _ _ _) hf
              refine r_lald C hW e28 dX10_polynomial_87 ?_
              refine lv_goto (tgt := 92) hx hb dX10_polynomial_88 (by decide) ?_
              obtain ⟨rfl, rfl⟩ := pp_some hf
              exact r_lret C hW dX10_polynomial_92
        · rw [if_pos c11] at hf
          refine lv_aload_n hx hb dX10_polynomial_45 rfl (lv_at hl 1 rfl) ?_
          refine lv_bipush (v := -3) hx hb dX10_polynomial_46 (by decide) ?_
          refine r_ldc2 (v := -9223372036854775807) C (tq q_1042 rfl) dX10_polynomial_48 ?_
          obtain ⟨v29, h29, e29, hf⟩ := pb_some hf
          obtain ⟨_, _, t30⟩ := tgX10_refusesBy e29
          refine r_calll hW (pext e29) (run_V (b := x0) (As := [.int (-3 : Int32), .long (-9223372036854775807 : Int64)]) (rest := []) C hW (metX10_refusesBy l G ρ e29) ⟨rfl, rfl⟩ kcX10_refusesBy (tq q_1020 rfl) kiX10_refusesBy ksX10_refusesBy knX10_refusesBy kdX10_refusesBy t30 rfl rfl ⟨Nat.le_of_ble_eq_true rfl, Nat.le_of_ble_eq_true rfl⟩ hl.1 (Nat.le_of_ble_eq_true rfl) (room_of hW (pext e29) ((pext hf).tr hX)) dX10_polynomial_51 rfl) (fun H locs c1 s1 hW => ?_)
          obtain ⟨rfl, rfl⟩ := pp_some hf
          exact r_lret C hW dX10_polynomial_54
      · rw [if_neg c10] at hf
        refine lv_aload_n hx hb dX10_polynomial_28 rfl (lv_at hl 1 rfl) ?_
        refine lv_bipush (v := -2) hx hb dX10_polynomial_29 (by decide) ?_
        refine r_ldc2 (v := -9223372036854775808) C (tq q_1041 rfl) dX10_polynomial_31 ?_
        obtain ⟨v31, h31, e31, hf⟩ := pb_some hf
        obtain ⟨_, _, t32⟩ := tgX10_refusesBy e31
        refine r_calll hW (pext e31) (run_V (b := x0) (As := [.int (-2 : Int32), .long (-9223372036854775808 : Int64)]) (rest := []) C hW (metX10_refusesBy l G ρ e31) ⟨rfl, rfl⟩ kcX10_refusesBy (tq q_1020 rfl) kiX10_refusesBy ksX10_refusesBy knX10_refusesBy kdX10_refusesBy t32 rfl rfl ⟨Nat.le_of_ble_eq_true rfl, Nat.le_of_ble_eq_true rfl⟩ hl.1 (Nat.le_of_ble_eq_true rfl) (room_of hW (pext e31) ((pext hf).tr hX)) dX10_polynomial_34 rfl) (fun H locs c1 s1 hW => ?_)
        obtain ⟨rfl, rfl⟩ := pp_some hf
        exact r_lret C hW dX10_polynomial_37

theorem dX10_rootOf_0 : decode cX10_rootOf 0 = .ok (.iconst 0, 1) := by decide +kernel
theorem dX10_rootOf_1 : decode cX10_rootOf 1 = .ok (.istore_n 2, 1) := by decide +kernel
theorem dX10_rootOf_2 : decode cX10_rootOf 2 = .ok (.aload_n 0, 1) := by decide +kernel
theorem dX10_rootOf_3 : decode cX10_rootOf 3 = .ok (.getfield 293, 3) := by decide +kernel
theorem dX10_rootOf_6 : decode cX10_rootOf 6 = .ok (.istore_n 3, 1) := by decide +kernel
theorem dX10_rootOf_7 : decode cX10_rootOf 7 = .ok (.iload_n 3, 1) := by decide +kernel
theorem dX10_rootOf_8 : decode cX10_rootOf 8 = .ok (.ifCond .le 105, 3) := by decide +kernel
theorem dX10_rootOf_11 : decode cX10_rootOf 11 = .ok (.aload_n 0, 1) := by decide +kernel
theorem dX10_rootOf_12 : decode cX10_rootOf 12 = .ok (.getfield 105, 3) := by decide +kernel
theorem dX10_rootOf_15 : decode cX10_rootOf 15 = .ok (.iload_n 3, 1) := by decide +kernel
theorem dX10_rootOf_16 : decode cX10_rootOf 16 = .ok (.laload, 1) := by decide +kernel
theorem dX10_rootOf_17 : decode cX10_rootOf 17 = .ok (.lstore 4, 2) := by decide +kernel
theorem dX10_rootOf_19 : decode cX10_rootOf 19 = .ok (.iload_n 3, 1) := by decide +kernel
theorem dX10_rootOf_20 : decode cX10_rootOf 20 = .ok (.iconst 1, 1) := by decide +kernel
theorem dX10_rootOf_21 : decode cX10_rootOf 21 = .ok (.isub, 1) := by decide +kernel
theorem dX10_rootOf_22 : decode cX10_rootOf 22 = .ok (.istore 6, 2) := by decide +kernel
theorem dX10_rootOf_24 : decode cX10_rootOf 24 = .ok (.iload 6, 2) := by decide +kernel
theorem dX10_rootOf_26 : decode cX10_rootOf 26 = .ok (.ifCond .lt 24, 3) := by decide +kernel
theorem dX10_rootOf_29 : decode cX10_rootOf 29 = .ok (.lload 4, 2) := by decide +kernel
theorem dX10_rootOf_31 : decode cX10_rootOf 31 = .ok (.iload_n 1, 1) := by decide +kernel
theorem dX10_rootOf_32 : decode cX10_rootOf 32 = .ok (.i2l, 1) := by decide +kernel
theorem dX10_rootOf_33 : decode cX10_rootOf 33 = .ok (.lmul, 1) := by decide +kernel
theorem dX10_rootOf_34 : decode cX10_rootOf 34 = .ok (.aload_n 0, 1) := by decide +kernel
theorem dX10_rootOf_35 : decode cX10_rootOf 35 = .ok (.getfield 105, 3) := by decide +kernel
theorem dX10_rootOf_38 : decode cX10_rootOf 38 = .ok (.iload 6, 2) := by decide +kernel
theorem dX10_rootOf_40 : decode cX10_rootOf 40 = .ok (.laload, 1) := by decide +kernel
theorem dX10_rootOf_41 : decode cX10_rootOf 41 = .ok (.ladd, 1) := by decide +kernel
theorem dX10_rootOf_42 : decode cX10_rootOf 42 = .ok (.lstore 4, 2) := by decide +kernel
theorem dX10_rootOf_44 : decode cX10_rootOf 44 = .ok (.iinc 6 (-1), 3) := by decide +kernel
theorem dX10_rootOf_47 : decode cX10_rootOf 47 = .ok (.goto (-23), 3) := by decide +kernel
theorem dX10_rootOf_50 : decode cX10_rootOf 50 = .ok (.lload 4, 2) := by decide +kernel
theorem dX10_rootOf_52 : decode cX10_rootOf 52 = .ok (.lconst 0, 1) := by decide +kernel
theorem dX10_rootOf_53 : decode cX10_rootOf 53 = .ok (.lcmp, 1) := by decide +kernel
theorem dX10_rootOf_54 : decode cX10_rootOf 54 = .ok (.ifCond .eq 5, 3) := by decide +kernel
theorem dX10_rootOf_57 : decode cX10_rootOf 57 = .ok (.iload_n 2, 1) := by decide +kernel
theorem dX10_rootOf_58 : decode cX10_rootOf 58 = .ok (.ireturn, 1) := by decide +kernel
theorem dX10_rootOf_59 : decode cX10_rootOf 59 = .ok (.lconst 0, 1) := by decide +kernel
theorem dX10_rootOf_60 : decode cX10_rootOf 60 = .ok (.lstore 6, 2) := by decide +kernel
theorem dX10_rootOf_62 : decode cX10_rootOf 62 = .ok (.iload_n 3, 1) := by decide +kernel
theorem dX10_rootOf_63 : decode cX10_rootOf 63 = .ok (.istore 8, 2) := by decide +kernel
theorem dX10_rootOf_65 : decode cX10_rootOf 65 = .ok (.iload 8, 2) := by decide +kernel
theorem dX10_rootOf_67 : decode cX10_rootOf 67 = .ok (.ifCond .lt 37, 3) := by decide +kernel
theorem dX10_rootOf_70 : decode cX10_rootOf 70 = .ok (.aload_n 0, 1) := by decide +kernel
theorem dX10_rootOf_71 : decode cX10_rootOf 71 = .ok (.getfield 105, 3) := by decide +kernel
theorem dX10_rootOf_74 : decode cX10_rootOf 74 = .ok (.iload 8, 2) := by decide +kernel
theorem dX10_rootOf_76 : decode cX10_rootOf 76 = .ok (.laload, 1) := by decide +kernel
theorem dX10_rootOf_77 : decode cX10_rootOf 77 = .ok (.lload 6, 2) := by decide +kernel
theorem dX10_rootOf_79 : decode cX10_rootOf 79 = .ok (.iload_n 1, 1) := by decide +kernel
theorem dX10_rootOf_80 : decode cX10_rootOf 80 = .ok (.i2l, 1) := by decide +kernel
theorem dX10_rootOf_81 : decode cX10_rootOf 81 = .ok (.lmul, 1) := by decide +kernel
theorem dX10_rootOf_82 : decode cX10_rootOf 82 = .ok (.ladd, 1) := by decide +kernel
theorem dX10_rootOf_83 : decode cX10_rootOf 83 = .ok (.lstore 9, 2) := by decide +kernel
theorem dX10_rootOf_85 : decode cX10_rootOf 85 = .ok (.aload_n 0, 1) := by decide +kernel
theorem dX10_rootOf_86 : decode cX10_rootOf 86 = .ok (.getfield 105, 3) := by decide +kernel
theorem dX10_rootOf_89 : decode cX10_rootOf 89 = .ok (.iload 8, 2) := by decide +kernel
theorem dX10_rootOf_91 : decode cX10_rootOf 91 = .ok (.lload 6, 2) := by decide +kernel
theorem dX10_rootOf_93 : decode cX10_rootOf 93 = .ok (.lastore, 1) := by decide +kernel
theorem dX10_rootOf_94 : decode cX10_rootOf 94 = .ok (.lload 9, 2) := by decide +kernel
theorem dX10_rootOf_96 : decode cX10_rootOf 96 = .ok (.lstore 6, 2) := by decide +kernel
theorem dX10_rootOf_98 : decode cX10_rootOf 98 = .ok (.iinc 8 (-1), 3) := by decide +kernel
theorem dX10_rootOf_101 : decode cX10_rootOf 101 = .ok (.goto (-36), 3) := by decide +kernel
theorem dX10_rootOf_104 : decode cX10_rootOf 104 = .ok (.iinc 3 (-1), 3) := by decide +kernel
theorem dX10_rootOf_107 : decode cX10_rootOf 107 = .ok (.iinc 2 1, 3) := by decide +kernel
theorem dX10_rootOf_110 : decode cX10_rootOf 110 = .ok (.goto (-103), 3) := by decide +kernel
theorem dX10_rootOf_113 : decode cX10_rootOf 113 = .ok (.iload_n 2, 1) := by decide +kernel
theorem dX10_rootOf_114 : decode cX10_rootOf 114 = .ok (.ireturn, 1) := by decide +kernel
theorem kcX10_rootOf : Cond.code yX10_rootOf cX10_rootOf 11 (some .int) ∈ tb := tq q_1060 rfl
theorem knX10_rootOf : Cond.initialized yX10_rootOf.cls ∈ tb := (tq q_10 rfl)
theorem kdX10_rootOf : yX10_rootOf.cls ≠ "java/lang/invoke/MethodHandle" ∧ yX10_rootOf.cls ≠ "java/lang/invoke/VarHandle" ∧ (parseMethodDescriptor yX10_rootOf.desc).map (fun d => d.parameters.length) = some 1 := ⟨by decide +kernel, by decide +kernel, by decide +kernel⟩
theorem kiX10_rootOf : Cond.instanceMethod yX10_rootOf ∈ tb := (tq q_1059 rfl)
theorem ksX10_rootOf : Cond.selects yX10_rootOf.cls yX10_rootOf yX10_rootOf ∈ tb := (tq z_67 rfl)
theorem tgX10_rootOf {x0 : Nat} {x1 : Int32} {h : PH} {r : Int32 × PH} (hf : (fX10_rootOf x0 x1).1 h = some r) : ∃ n x, nth h x0 = some (9, n, x) := by
  obtain ⟨_, _, e, _⟩ := pb_some hf
  exact (chk_some e).2
set_option maxHeartbeats 4000000 in
set_option maxRecDepth 100000 in
theorem wX10_rootOf_B24 {p : Program} {l : Launch} {e : Env} {s : State} {m : MethodId} {args : Array Value} {below : List Frame} {meth : Method} {c : Code} {G : GG} {ρ : Nat → Nat} {h0 hE hB : PH} {Q : State → Prop} {x0 : Nat} {x1 : Int32} {x2 : Int32} {x3 : Int32} (C : Cx G "PairSymbolsModel" cX10_rootOf 11 (some .int) "rootOf" p s m args meth c) {x4 : Int64} {x6 : Int32} {h : PH} {H : Heap} {locs : List Loc} {cells slots : Nat} {ls : Array Slot} {r : (Int64 × Int32) ⊕ (Int64)} (hf : (fX10_rootOf_b24 x0 x1 x2 x3 x4 x6).1 h = some (r, hB)) (hX : Ext hB hE) (hW : Wd G ρ h0.length (sl h0) s.heap h H locs cells slots) (hl : lv_has ls 11 [(0, .ref (ρ x0)), (1, .int x1), (2, .int x2), (3, .int x3), (4, .long x4), (6, .int x6)]) (kc : ∀ y : Int64 × Int32, r = .inl y → ∀ (H : Heap) (locs : List Loc) (c1 s1 : Nat) (ls : Array Slot), Wd G ρ h0.length (sl h0) s.heap hB H locs c1 s1 → lv_has ls 11 [(0, .ref (ρ x0)), (1, .int x1), (2, .int x2), (3, .int x3), (4, .long y.1), (6, .int y.2)] → W p l e (RM 0 0 h0 hE) s m args below meth c H locs c1 s1 Q (F0 m 24 ls [])) (ke : ∀ z : Int64, r = .inr z → ∀ (H : Heap) (locs : List Loc) (c1 s1 : Nat) (ls : Array Slot), Wd G ρ h0.length (sl h0) s.heap hB H locs c1 s1 → lv_has ls 11 [(0, .ref (ρ x0)), (1, .int x1), (2, .int x2), (3, .int x3), (4, .long z)] → W p l e (RM 0 0 h0 hE) s m args below meth c H locs c1 s1 Q (F0 m 50 ls [])) : W p l e (RM 0 0 h0 hE) s m args below meth c H locs cells slots Q (F0 m 24 ls []) := by
  have hx := C.1
  have hb := C.2.1
  unfold fX10_rootOf_b24 at hf
  refine lv_iload hx hb dX10_rootOf_24 (lv_at hl 5 rfl) ?_
  refine lv_if_lt (tgt := 50) hx hb dX10_rootOf_26 (by decide) (fun c5 => ?_) (fun c5 => ?_)
  · rw [if_pos c5] at hf
    obtain ⟨rfl, rfl⟩ := pp_some hf
    exact ke _ rfl _ _ _ _ _ hW (lv_sub hl [0, 1, 2, 3, 4] rfl)
  · rw [if_neg c5] at hf
    refine lv_lload hx hb dX10_rootOf_29 (lv_at hl 4 rfl) ?_
    refine lv_iload_n hx hb dX10_rootOf_31 rfl (lv_at hl 1 rfl) ?_
    refine lv_i2l (v := x1.toInt64) hx hb dX10_rootOf_32 rfl ?_
    refine lv_lmul hx hb dX10_rootOf_33 ?_
    refine lv_aload_n hx hb dX10_rootOf_34 rfl (lv_at hl 0 rfl) ?_
    obtain ⟨v6, e6, hf⟩ := pb_rd (rd_gA _ _ _) hf
    refine r_gA C hW e6 flX10_105 rfl dX10_rootOf_35 ?_
    refine lv_iload hx hb dX10_rootOf_38 (lv_at hl 5 rfl) ?_
    obtain ⟨v7, e7, hf⟩ := pb_rd (rd_lJ _ _ _) hf
    refine r_lald C hW e7 dX10_rootOf_40 ?_
    refine lv_ladd hx hb dX10_rootOf_41 ?_
    refine lv_lstore (lv' := [(4, .long ((x4 * x1.toInt64) + v7)), (0, .ref (ρ x0)), (1, .int x1), (2, .int x2), (3, .int x3), (6, .int x6)]) hx hb dX10_rootOf_42 hl (by decide) rfl (fun ls hl => ?_)
    refine lv_iinc (v := (x6 + (-1))) (lv' := [(6, .int (x6 + (-1))), (4, .long ((x4 * x1.toInt64) + v7)), (0, .ref (ρ x0)), (1, .int x1), (2, .int x2), (3, .int x3)]) hx hb dX10_rootOf_44 hl (k := 5) rfl rfl (by decide) rfl (fun ls hl => ?_)
    refine lv_goto (tgt := 24) hx hb dX10_rootOf_47 (by decide) ?_
    obtain ⟨rfl, rfl⟩ := pp_some hf
    exact kc _ rfl _ _ _ _ _ hW (lv_sub hl [2, 3, 4, 5, 1, 0] rfl)
set_option maxHeartbeats 4000000 in
theorem wX10_rootOf_L24 {p : Program} {l : Launch} {e : Env} {s : State} {m : MethodId} {args : Array Value} {below : List Frame} {meth : Method} {c : Code} {G : GG} {ρ : Nat → Nat} {h0 hE hB : PH} {Q : State → Prop} {x0 : Nat} {x1 : Int32} {x2 : Int32} {x3 : Int32} (C : Cx G "PairSymbolsModel" cX10_rootOf 11 (some .int) "rootOf" p s m args meth c) {z : (Int64)} (n : Nat) : ∀ (x : Int64 × Int32) {h : PH} {H : Heap} {locs : List Loc} {cells slots : Nat} {ls : Array Slot}, (plo (fX10_rootOf_B24 x0 x1 x2 x3) n x).1 h = some (z, hB) → Ext hB hE → Wd G ρ h0.length (sl h0) s.heap h H locs cells slots → lv_has ls 11 [(0, .ref (ρ x0)), (1, .int x1), (2, .int x2), (3, .int x3), (4, .long x.1), (6, .int x.2)] → (ke : ∀ (H : Heap) (locs : List Loc) (c1 s1 : Nat) (ls : Array Slot), Wd G ρ h0.length (sl h0) s.heap hB H locs c1 s1 → lv_has ls 11 [(0, .ref (ρ x0)), (1, .int x1), (2, .int x2), (3, .int x3), (4, .long z)] → W p l e (RM 0 0 h0 hE) s m args below meth c H locs c1 s1 Q (F0 m 50 ls [])) → W p l e (RM 0 0 h0 hE) s m args below meth c H locs cells slots Q (F0 m 24 ls []) := by
  induction n with
  | zero =>
    intro x h H locs cells slots ls hf
    rw [plo_0] at hf
    exact (pf_no hf).elim
  | succ n ih =>
    intro x h H locs cells slots ls hf hX hW hl ke
    rw [plo_s] at hf
    obtain ⟨r, h1, e1, hf⟩ := pb_some hf
    unfold fX10_rootOf_B24 at e1
    rw [frJ_eq, frI_eq] at e1
    refine wX10_rootOf_B24 C e1 ((pext hf).tr hX) hW hl (fun y hr H locs c1 s1 ls hW hl => ?_) (fun y hr H locs c1 s1 ls hW hl => ?_)
    · subst hr
      exact ih y hf hX hW hl ke
    · subst hr
      obtain ⟨rfl, rfl⟩ := pp_some hf
      exact ke H locs c1 s1 ls hW hl
set_option maxHeartbeats 4000000 in
set_option maxRecDepth 100000 in
theorem wX10_rootOf_B65 {p : Program} {l : Launch} {e : Env} {s : State} {m : MethodId} {args : Array Value} {below : List Frame} {meth : Method} {c : Code} {G : GG} {ρ : Nat → Nat} {h0 hE hB : PH} {Q : State → Prop} {x0 : Nat} {x1 : Int32} {x2 : Int32} {x3 : Int32} (C : Cx G "PairSymbolsModel" cX10_rootOf 11 (some .int) "rootOf" p s m args meth c) {x6 : Int64} {x8 : Int32} {h : PH} {H : Heap} {locs : List Loc} {cells slots : Nat} {ls : Array Slot} {r : (Int64 × Int32) ⊕ (Unit)} (hf : (fX10_rootOf_b65 x0 x1 x2 x3 x6 x8).1 h = some (r, hB)) (hX : Ext hB hE) (hW : Wd G ρ h0.length (sl h0) s.heap h H locs cells slots) (hl : lv_has ls 11 [(0, .ref (ρ x0)), (1, .int x1), (2, .int x2), (3, .int x3), (6, .long x6), (8, .int x8)]) (kc : ∀ y : Int64 × Int32, r = .inl y → ∀ (H : Heap) (locs : List Loc) (c1 s1 : Nat) (ls : Array Slot), Wd G ρ h0.length (sl h0) s.heap hB H locs c1 s1 → lv_has ls 11 [(0, .ref (ρ x0)), (1, .int x1), (2, .int x2), (3, .int x3), (6, .long y.1), (8, .int y.2)] → W p l e (RM 0 0 h0 hE) s m args below meth c H locs c1 s1 Q (F0 m 65 ls [])) (ke : ∀ z : Unit, r = .inr z → ∀ (H : Heap) (locs : List Loc) (c1 s1 : Nat) (ls : Array Slot), Wd G ρ h0.length (sl h0) s.heap hB H locs c1 s1 → lv_has ls 11 [(0, .ref (ρ x0)), (1, .int x1), (2, .int x2), (3, .int x3)] → W p l e (RM 0 0 h0 hE) s m args below meth c H locs c1 s1 Q (F0 m 104 ls [])) : W p l e (RM 0 0 h0 hE) s m args below meth c H locs cells slots Q (F0 m 65 ls []) := by
  have hx := C.1
  have hb := C.2.1
  unfold fX10_rootOf_b65 at hf
  refine lv_iload hx hb dX10_rootOf_65 (lv_at hl 5 rfl) ?_
  refine lv_if_lt (tgt := 104) hx hb dX10_rootOf_67 (by decide) (fun c10 => ?_) (fun c10 => ?_)
  · rw [if_pos c10] at hf
    obtain ⟨rfl, rfl⟩ := pp_some hf
    exact ke _ rfl _ _ _ _ _ hW (lv_sub hl [0, 1, 2, 3] rfl)
  · rw [if_neg c10] at hf
    refine lv_aload_n hx hb dX10_rootOf_70 rfl (lv_at hl 0 rfl) ?_
    obtain ⟨v11, e11, hf⟩ := pb_rd (rd_gA _ _ _) hf
    refine r_gA C hW e11 flX10_105 rfl dX10_rootOf_71 ?_
    refine lv_iload hx hb dX10_rootOf_74 (lv_at hl 5 rfl) ?_
    obtain ⟨v12, e12, hf⟩ := pb_rd (rd_lJ _ _ _) hf
    refine r_lald C hW e12 dX10_rootOf_76 ?_
    refine lv_lload hx hb dX10_rootOf_77 (lv_at hl 4 rfl) ?_
    refine lv_iload_n hx hb dX10_rootOf_79 rfl (lv_at hl 1 rfl) ?_
    refine lv_i2l (v := x1.toInt64) hx hb dX10_rootOf_80 rfl ?_
    refine lv_lmul hx hb dX10_rootOf_81 ?_
    refine lv_ladd hx hb dX10_rootOf_82 ?_
    refine lv_lstore (lv' := [(9, .long (v12 + (x6 * x1.toInt64))), (0, .ref (ρ x0)), (1, .int x1), (2, .int x2), (3, .int x3), (6, .long x6), (8, .int x8)]) hx hb dX10_rootOf_83 hl (by decide) rfl (fun ls hl => ?_)
    refine lv_aload_n hx hb dX10_rootOf_85 rfl (lv_at hl 1 rfl) ?_
    obtain ⟨v13, e13, hf⟩ := pb_rd (rd_gA _ _ _) hf
    refine r_gA C hW e13 flX10_105 rfl dX10_rootOf_86 ?_
    refine lv_iload hx hb dX10_rootOf_89 (lv_at hl 6 rfl) ?_
    refine lv_lload hx hb dX10_rootOf_91 (lv_at hl 5 rfl) ?_
    obtain ⟨_, h14, e14, hf⟩ := pb_some hf
    refine r_last C hW e14 dX10_rootOf_93 (fun H locs hW => ?_)
    refine lv_lload hx hb dX10_rootOf_94 (lv_at hl 0 rfl) ?_
    refine lv_lstore (lv' := [(6, .long (v12 + (x6 * x1.toInt64))), (9, .long (v12 + (x6 * x1.toInt64))), (0, .ref (ρ x0)), (1, .int x1), (2, .int x2), (3, .int x3), (8, .int x8)]) hx hb dX10_rootOf_96 hl (by decide) rfl (fun ls hl => ?_)
    refine lv_iinc (v := (x8 + (-1))) (lv' := [(8, .int (x8 + (-1))), (6, .long (v12 + (x6 * x1.toInt64))), (9, .long (v12 + (x6 * x1.toInt64))), (0, .ref (ρ x0)), (1, .int x1), (2, .int x2), (3, .int x3)]) hx hb dX10_rootOf_98 hl (k := 6) rfl rfl (by decide) rfl (fun ls hl => ?_)
    refine lv_goto (tgt := 65) hx hb dX10_rootOf_101 (by decide) ?_
    obtain ⟨rfl, rfl⟩ := pp_some hf
    exact kc _ rfl _ _ _ _ _ hW (lv_sub hl [3, 4, 5, 6, 1, 0] rfl)
set_option maxHeartbeats 4000000 in
theorem wX10_rootOf_L65 {p : Program} {l : Launch} {e : Env} {s : State} {m : MethodId} {args : Array Value} {below : List Frame} {meth : Method} {c : Code} {G : GG} {ρ : Nat → Nat} {h0 hE hB : PH} {Q : State → Prop} {x0 : Nat} {x1 : Int32} {x2 : Int32} {x3 : Int32} (C : Cx G "PairSymbolsModel" cX10_rootOf 11 (some .int) "rootOf" p s m args meth c) {z : (Unit)} (n : Nat) : ∀ (x : Int64 × Int32) {h : PH} {H : Heap} {locs : List Loc} {cells slots : Nat} {ls : Array Slot}, (plo (fX10_rootOf_B65 x0 x1 x2 x3) n x).1 h = some (z, hB) → Ext hB hE → Wd G ρ h0.length (sl h0) s.heap h H locs cells slots → lv_has ls 11 [(0, .ref (ρ x0)), (1, .int x1), (2, .int x2), (3, .int x3), (6, .long x.1), (8, .int x.2)] → (ke : ∀ (H : Heap) (locs : List Loc) (c1 s1 : Nat) (ls : Array Slot), Wd G ρ h0.length (sl h0) s.heap hB H locs c1 s1 → lv_has ls 11 [(0, .ref (ρ x0)), (1, .int x1), (2, .int x2), (3, .int x3)] → W p l e (RM 0 0 h0 hE) s m args below meth c H locs c1 s1 Q (F0 m 104 ls [])) → W p l e (RM 0 0 h0 hE) s m args below meth c H locs cells slots Q (F0 m 65 ls []) := by
  induction n with
  | zero =>
    intro x h H locs cells slots ls hf
    rw [plo_0] at hf
    exact (pf_no hf).elim
  | succ n ih =>
    intro x h H locs cells slots ls hf hX hW hl ke
    rw [plo_s] at hf
    obtain ⟨r, h1, e1, hf⟩ := pb_some hf
    unfold fX10_rootOf_B65 at e1
    rw [frJ_eq, frI_eq] at e1
    refine wX10_rootOf_B65 C e1 ((pext hf).tr hX) hW hl (fun y hr H locs c1 s1 ls hW hl => ?_) (fun y hr H locs c1 s1 ls hW hl => ?_)
    · subst hr
      exact ih y hf hX hW hl ke
    · subst hr
      obtain ⟨rfl, rfl⟩ := pp_some hf
      exact ke H locs c1 s1 ls hW hl
set_option maxHeartbeats 4000000 in
set_option maxRecDepth 100000 in
theorem wX10_rootOf_B7 {p : Program} {l : Launch} {e : Env} {s : State} {m : MethodId} {args : Array Value} {below : List Frame} {meth : Method} {c : Code} {G : GG} {ρ : Nat → Nat} {h0 hE hB : PH} {Q : State → Prop} {x0 : Nat} {x1 : Int32} (C : Cx G "PairSymbolsModel" cX10_rootOf 11 (some .int) "rootOf" p s m args meth c) {x2 : Int32} {x3 : Int32} {h : PH} {H : Heap} {locs : List Loc} {cells slots : Nat} {ls : Array Slot} {r : (Int32 × Int32) ⊕ (Int32 ⊕ (Int32))} (hf : (fX10_rootOf_b7 x0 x1 x2 x3).1 h = some (r, hB)) (hX : Ext hB hE) (hW : Wd G ρ h0.length (sl h0) s.heap h H locs cells slots) (hl : lv_has ls 11 [(0, .ref (ρ x0)), (1, .int x1), (2, .int x2), (3, .int x3)]) (kc : ∀ y : Int32 × Int32, r = .inl y → ∀ (H : Heap) (locs : List Loc) (c1 s1 : Nat) (ls : Array Slot), Wd G ρ h0.length (sl h0) s.heap hB H locs c1 s1 → lv_has ls 11 [(0, .ref (ρ x0)), (1, .int x1), (2, .int y.1), (3, .int y.2)] → W p l e (RM 0 0 h0 hE) s m args below meth c H locs c1 s1 Q (F0 m 7 ls [])) (kr : ∀ v : Int32, r = .inr (.inl v) → ∀ (H : Heap) (locs : List Loc) (c1 s1 : Nat) (ls : Array Slot) (pc : Nat), Wd G ρ h0.length (sl h0) s.heap hB H locs c1 s1 → decode cX10_rootOf pc = .ok (.ireturn, 1) → W p l e (RM 0 0 h0 hE) s m args below meth c H locs c1 s1 Q (F0 m pc ls [.int v])) (ke : ∀ z : Int32, r = .inr (.inr z) → ∀ (H : Heap) (locs : List Loc) (c1 s1 : Nat) (ls : Array Slot), Wd G ρ h0.length (sl h0) s.heap hB H locs c1 s1 → lv_has ls 11 [(2, .int z)] → W p l e (RM 0 0 h0 hE) s m args below meth c H locs c1 s1 Q (F0 m 113 ls [])) : W p l e (RM 0 0 h0 hE) s m args below meth c H locs cells slots Q (F0 m 7 ls []) := by
  have hx := C.1
  have hb := C.2.1
  unfold fX10_rootOf_b7 at hf
  refine lv_iload_n hx hb dX10_rootOf_7 rfl (lv_at hl 3 rfl) ?_
  refine lv_if_le (tgt := 113) hx hb dX10_rootOf_8 (by decide) (fun c2 => ?_) (fun c2 => ?_)
  · rw [if_pos c2] at hf
    obtain ⟨rfl, rfl⟩ := pp_some hf
    exact ke _ rfl _ _ _ _ _ hW (lv_sub hl [2] rfl)
  · rw [if_neg c2] at hf
    refine lv_aload_n hx hb dX10_rootOf_11 rfl (lv_at hl 0 rfl) ?_
    obtain ⟨v3, e3, hf⟩ := pb_rd (rd_gA _ _ _) hf
    refine r_gA C hW e3 flX10_105 rfl dX10_rootOf_12 ?_
    refine lv_iload_n hx hb dX10_rootOf_15 rfl (lv_at hl 3 rfl) ?_
    obtain ⟨v4, e4, hf⟩ := pb_rd (rd_lJ _ _ _) hf
    refine r_lald C hW e4 dX10_rootOf_16 ?_
    refine lv_lstore (lv' := [(4, .long v4), (0, .ref (ρ x0)), (1, .int x1), (2, .int x2), (3, .int x3)]) hx hb dX10_rootOf_17 hl (by decide) rfl (fun ls hl => ?_)
    refine lv_iload_n hx hb dX10_rootOf_19 rfl (lv_at hl 4 rfl) ?_
    refine lv_iconst (v := 1) hx hb dX10_rootOf_20 (by decide) ?_
    refine lv_isub hx hb dX10_rootOf_21 ?_
    refine lv_istore (lv' := [(6, .int (x3 - (1 : Int32))), (4, .long v4), (0, .ref (ρ x0)), (1, .int x1), (2, .int x2), (3, .int x3)]) hx hb dX10_rootOf_22 hl (by decide) rfl (fun ls hl => ?_)
    obtain ⟨z8, h8, e8, hf⟩ := pb_some hf
    refine wX10_rootOf_L24 C fu _ e8 ((pext hf).tr hX) hW (lv_sub hl [2, 3, 4, 5, 1, 0] rfl) (fun H locs c1 s1 ls hW hl => ?_)
    refine lv_lload hx hb dX10_rootOf_50 (lv_at hl 4 rfl) ?_
    refine lv_lconst (v := 0) hx hb dX10_rootOf_52 (by decide) ?_
    refine W.lcmp hx hb dX10_rootOf_53 ?_
    refine lv_if_eq (tgt := 59) hx hb dX10_rootOf_54 (by decide) (fun c9 => ?_) (fun c9 => ?_)
    · rw [if_pos c9] at hf
      refine lv_lconst (v := 0) hx hb dX10_rootOf_59 (by decide) ?_
      refine lv_lstore (lv' := [(6, .long (0 : Int64)), (0, .ref (ρ x0)), (1, .int x1), (2, .int x2), (3, .int x3), (4, .long z8)]) hx hb dX10_rootOf_60 hl (by decide) rfl (fun ls hl => ?_)
      refine lv_iload_n hx hb dX10_rootOf_62 rfl (lv_at hl 4 rfl) ?_
      refine lv_istore (lv' := [(8, .int x3), (6, .long (0 : Int64)), (0, .ref (ρ x0)), (1, .int x1), (2, .int x2), (3, .int x3), (4, .long z8)]) hx hb dX10_rootOf_63 hl (by decide) rfl (fun ls hl => ?_)
      obtain ⟨z15, h15, e15, hf⟩ := pb_some hf
      refine wX10_rootOf_L65 C fu _ e15 ((pext hf).tr hX) hW (lv_sub hl [2, 3, 4, 5, 1, 0] rfl) (fun H locs c1 s1 ls hW hl => ?_)
      refine lv_iinc (v := (x3 + (-1))) (lv' := [(3, .int (x3 + (-1))), (0, .ref (ρ x0)), (1, .int x1), (2, .int x2)]) hx hb dX10_rootOf_104 hl (k := 3) rfl rfl (by decide) rfl (fun ls hl => ?_)
      refine lv_iinc (v := (x2 + 1)) (lv' := [(2, .int (x2 + 1)), (3, .int (x3 + (-1))), (0, .ref (ρ x0)), (1, .int x1)]) hx hb dX10_rootOf_107 hl (k := 3) rfl rfl (by decide) rfl (fun ls hl => ?_)
      refine lv_goto (tgt := 7) hx hb dX10_rootOf_110 (by decide) ?_
      obtain ⟨rfl, rfl⟩ := pp_some hf
      exact kc _ rfl _ _ _ _ _ hW (lv_sub hl [2, 3, 0, 1] rfl)
    · rw [if_neg c9] at hf
      refine lv_iload_n hx hb dX10_rootOf_57 rfl (lv_at hl 2 rfl) ?_
      obtain ⟨rfl, rfl⟩ := pp_some hf
      exact kr _ rfl _ _ _ _ _ _ hW dX10_rootOf_58
set_option maxHeartbeats 4000000 in
theorem wX10_rootOf_L7 {p : Program} {l : Launch} {e : Env} {s : State} {m : MethodId} {args : Array Value} {below : List Frame} {meth : Method} {c : Code} {G : GG} {ρ : Nat → Nat} {h0 hE hB : PH} {Q : State → Prop} {x0 : Nat} {x1 : Int32} (C : Cx G "PairSymbolsModel" cX10_rootOf 11 (some .int) "rootOf" p s m args meth c) {z : (Int32 ⊕ (Int32))} (n : Nat) : ∀ (x : Int32 × Int32) {h : PH} {H : Heap} {locs : List Loc} {cells slots : Nat} {ls : Array Slot}, (plo (fX10_rootOf_B7 x0 x1) n x).1 h = some (z, hB) → Ext hB hE → Wd G ρ h0.length (sl h0) s.heap h H locs cells slots → lv_has ls 11 [(0, .ref (ρ x0)), (1, .int x1), (2, .int x.1), (3, .int x.2)] → (kr : ∀ v : Int32, z = .inl v → ∀ (H : Heap) (locs : List Loc) (c1 s1 : Nat) (ls : Array Slot) (pc : Nat), Wd G ρ h0.length (sl h0) s.heap hB H locs c1 s1 → decode cX10_rootOf pc = .ok (.ireturn, 1) → W p l e (RM 0 0 h0 hE) s m args below meth c H locs c1 s1 Q (F0 m pc ls [.int v])) → (ke : ∀ y : Int32, z = .inr y → ∀ (H : Heap) (locs : List Loc) (c1 s1 : Nat) (ls : Array Slot), Wd G ρ h0.length (sl h0) s.heap hB H locs c1 s1 → lv_has ls 11 [(2, .int y)] → W p l e (RM 0 0 h0 hE) s m args below meth c H locs c1 s1 Q (F0 m 113 ls [])) → W p l e (RM 0 0 h0 hE) s m args below meth c H locs cells slots Q (F0 m 7 ls []) := by
  induction n with
  | zero =>
    intro x h H locs cells slots ls hf
    rw [plo_0] at hf
    exact (pf_no hf).elim
  | succ n ih =>
    intro x h H locs cells slots ls hf hX hW hl kr ke
    rw [plo_s] at hf
    obtain ⟨r, h1, e1, hf⟩ := pb_some hf
    unfold fX10_rootOf_B7 at e1
    rw [frI_eq, frI_eq] at e1
    refine wX10_rootOf_B7 C e1 ((pext hf).tr hX) hW hl (fun y hr H locs c1 s1 ls hW hl => ?_) (fun v hr H locs c1 s1 ls pc hW hd => ?_) (fun y hr H locs c1 s1 ls hW hl => ?_)
    · subst hr
      exact ih y hf hX hW hl kr ke
    · subst hr
      obtain ⟨rfl, rfl⟩ := pp_some hf
      exact kr v rfl H locs c1 s1 ls pc hW hd
    · subst hr
      obtain ⟨rfl, rfl⟩ := pp_some hf
      exact ke y rfl H locs c1 s1 ls hW hl
set_option maxHeartbeats 4000000 in
set_option maxRecDepth 100000 in
theorem metX10_rootOf (l : Launch) (G : GG) (ρ : Nat → Nat) {z : Nat} {x0 : Nat} {x1 : Int32} {h hE : PH} {v : Int32} (hf : (fX10_rootOf x0 x1).1 h = some (v, hE)) : Met l yX10_rootOf (wsY yX10_rootOf cX10_rootOf 11 (some .int)) (RM 0 0 h hE) (va_Pc [.ref (ρ x0), .int x1] (PcB G ρ h z)) (QI G ρ v hE h.length z) (DC h hE) (DS h hE) (Af ρ h.length z) := by
  refine met_start (by decide) (Nat.le_of_ble_eq_true rfl) ?_
  intro p e s m below meth c ls hz C hW hl
  subst hz
  have C : Cx G "PairSymbolsModel" cX10_rootOf 11 (some .int) "rootOf" p s m _ meth c := C
  have hx := C.1
  have hb := C.2.1
  have hX : Ext hE hE := Ext.rf hE
  have hl : lv_has ls 11 [(0, .ref (ρ x0)), (1, .int x1)] := hl
  have hW : Wd G ρ h.length (sl h) s.heap h s.heap [] 0 0 := hW
  unfold fX10_rootOf at hf
  obtain ⟨_, e0, hf⟩ := pb_rd (rd_chk _ _) hf
  refine lv_iconst (v := 0) hx hb dX10_rootOf_0 (by decide) ?_
  refine lv_istore_n (lv' := [(2, .int (0 : Int32)), (0, .ref (ρ x0)), (1, .int x1)]) hx hb dX10_rootOf_1 rfl hl (by decide) rfl (fun ls hl => ?_)
  refine lv_aload_n hx hb dX10_rootOf_2 rfl (lv_at hl 1 rfl) ?_
  obtain ⟨v1, e1, hf⟩ := pb_rd (rd_gI _ _ _) hf
  refine r_gI C hW e1 flX10_293 rfl dX10_rootOf_3 ?_
  refine lv_istore_n (lv' := [(3, .int v1), (2, .int (0 : Int32)), (0, .ref (ρ x0)), (1, .int x1)]) hx hb dX10_rootOf_6 rfl hl (by decide) rfl (fun ls hl => ?_)
  obtain ⟨z16, h16, e16, hf⟩ := pb_some hf
  refine wX10_rootOf_L7 C fu _ e16 ((pext hf).tr hX) hW (lv_sub hl [2, 3, 1, 0] rfl) (fun v16 hz H locs c1 s1 ls pc hW hd => ?_) (fun z17 hz H locs c1 s1 ls hW hl => ?_)
  · subst hz
    obtain ⟨rfl, rfl⟩ := pp_some hf
    exact r_iret C hW hd
  · subst hz
    try dsimp only at hf
    refine lv_iload_n hx hb dX10_rootOf_113 rfl (lv_at hl 0 rfl) ?_
    obtain ⟨rfl, rfl⟩ := pp_some hf
    exact r_iret C hW dX10_rootOf_114

theorem dX10_root_0 : decode cX10_root 0 = .ok (.aload_n 0, 1) := by decide +kernel
theorem dX10_root_1 : decode cX10_root 1 = .ok (.iload_n 1, 1) := by decide +kernel
theorem dX10_root_2 : decode cX10_root 2 = .ok (.invokevirtual 287, 3) := by decide +kernel
theorem dX10_root_5 : decode cX10_root 5 = .ok (.istore_n 3, 1) := by decide +kernel
theorem dX10_root_6 : decode cX10_root 6 = .ok (.iload_n 3, 1) := by decide +kernel
theorem dX10_root_7 : decode cX10_root 7 = .ok (.bipush (-2), 2) := by decide +kernel
theorem dX10_root_9 : decode cX10_root 9 = .ok (.if_icmp .eq 17, 3) := by decide +kernel
theorem dX10_root_12 : decode cX10_root 12 = .ok (.iload_n 2, 1) := by decide +kernel
theorem dX10_root_13 : decode cX10_root 13 = .ok (.i2l, 1) := by decide +kernel
theorem dX10_root_14 : decode cX10_root 14 = .ok (.ldc2_w 323, 3) := by decide +kernel
theorem dX10_root_17 : decode cX10_root 17 = .ok (.ldc2_w 325, 3) := by decide +kernel
theorem dX10_root_20 : decode cX10_root 20 = .ok (.invokestatic 236, 3) := by decide +kernel
theorem dX10_root_23 : decode cX10_root 23 = .ok (.ifCond .ne 10, 3) := by decide +kernel
theorem dX10_root_26 : decode cX10_root 26 = .ok (.aload_n 0, 1) := by decide +kernel
theorem dX10_root_27 : decode cX10_root 27 = .ok (.bipush (-2), 2) := by decide +kernel
theorem dX10_root_29 : decode cX10_root 29 = .ok (.invokevirtual 240, 3) := by decide +kernel
theorem dX10_root_32 : decode cX10_root 32 = .ok (.ireturn, 1) := by decide +kernel
theorem dX10_root_33 : decode cX10_root 33 = .ok (.iload_n 3, 1) := by decide +kernel
theorem dX10_root_34 : decode cX10_root 34 = .ok (.bipush (-3), 2) := by decide +kernel
theorem dX10_root_36 : decode cX10_root 36 = .ok (.if_icmp .ne 10, 3) := by decide +kernel
theorem dX10_root_39 : decode cX10_root 39 = .ok (.aload_n 0, 1) := by decide +kernel
theorem dX10_root_40 : decode cX10_root 40 = .ok (.bipush (-3), 2) := by decide +kernel
theorem dX10_root_42 : decode cX10_root 42 = .ok (.invokevirtual 240, 3) := by decide +kernel
theorem dX10_root_45 : decode cX10_root 45 = .ok (.ireturn, 1) := by decide +kernel
theorem dX10_root_46 : decode cX10_root 46 = .ok (.aload_n 0, 1) := by decide +kernel
theorem dX10_root_47 : decode cX10_root 47 = .ok (.iload_n 1, 1) := by decide +kernel
theorem dX10_root_48 : decode cX10_root 48 = .ok (.iconst 1, 1) := by decide +kernel
theorem dX10_root_49 : decode cX10_root 49 = .ok (.invokevirtual 312, 3) := by decide +kernel
theorem dX10_root_52 : decode cX10_root 52 = .ok (.aload_n 0, 1) := by decide +kernel
theorem dX10_root_53 : decode cX10_root 53 = .ok (.invokevirtual 320, 3) := by decide +kernel
theorem dX10_root_56 : decode cX10_root 56 = .ok (.aload_n 0, 1) := by decide +kernel
theorem dX10_root_57 : decode cX10_root 57 = .ok (.iload_n 2, 1) := by decide +kernel
theorem dX10_root_58 : decode cX10_root 58 = .ok (.invokevirtual 327, 3) := by decide +kernel
theorem dX10_root_61 : decode cX10_root 61 = .ok (.ireturn, 1) := by decide +kernel
theorem kcX10_root : Cond.code yX10_root cX10_root 4 (some .int) ∈ tb := tq q_1054 rfl
theorem knX10_root : Cond.initialized yX10_root.cls ∈ tb := (tq q_10 rfl)
theorem kdX10_root : yX10_root.cls ≠ "java/lang/invoke/MethodHandle" ∧ yX10_root.cls ≠ "java/lang/invoke/VarHandle" ∧ (parseMethodDescriptor yX10_root.desc).map (fun d => d.parameters.length) = some 2 := ⟨by decide +kernel, by decide +kernel, by decide +kernel⟩
theorem kiX10_root : Cond.instanceMethod yX10_root ∈ tb := (tq q_1052 rfl)
theorem ksX10_root : Cond.selects yX10_root.cls yX10_root yX10_root ∈ tb := (tq q_1053 rfl)
theorem tgX10_root {x0 : Nat} {x1 : Int32} {x2 : Int32} {h : PH} {r : Int32 × PH} (hf : (fX10_root x0 x1 x2).1 h = some r) : ∃ n x, nth h x0 = some (9, n, x) := by
  obtain ⟨_, _, e, _⟩ := pb_some hf
  exact (chk_some e).2
set_option maxHeartbeats 4000000 in
set_option maxRecDepth 100000 in
theorem metX10_root (l : Launch) (G : GG) (ρ : Nat → Nat) {z : Nat} {x0 : Nat} {x1 : Int32} {x2 : Int32} {h hE : PH} {v : Int32} (hf : (fX10_root x0 x1 x2).1 h = some (v, hE)) : Met l yX10_root (wsY yX10_root cX10_root 4 (some .int)) (RM 10 259 h hE) (va_Pc [.ref (ρ x0), .int x1, .int x2] (PcB G ρ h z)) (QI G ρ v hE h.length z) (DC h hE) (DS h hE) (Af ρ h.length z) := by
  refine met_start (by decide) (Nat.le_of_ble_eq_true rfl) ?_
  intro p e s m below meth c ls hz C hW hl
  subst hz
  have C : Cx G "PairSymbolsModel" cX10_root 4 (some .int) "root" p s m _ meth c := C
  have hx := C.1
  have hb := C.2.1
  have hX : Ext hE hE := Ext.rf hE
  have hl : lv_has ls 4 [(0, .ref (ρ x0)), (1, .int x1), (2, .int x2)] := hl
  have hW : Wd G ρ h.length (sl h) s.heap h s.heap [] 0 0 := hW
  unfold fX10_root at hf
  obtain ⟨_, e0, hf⟩ := pb_rd (rd_chk _ _) hf
  refine lv_aload_n hx hb dX10_root_0 rfl (lv_at hl 0 rfl) ?_
  refine lv_iload_n hx hb dX10_root_1 rfl (lv_at hl 1 rfl) ?_
  obtain ⟨v1, h1, e1, hf⟩ := pb_some hf
  obtain ⟨_, _, t2⟩ := tgX10_canOperate e1
  refine r_calli hW (pext e1) (run_V (b := x0) (As := [.int x1]) (rest := []) C hW (metX10_canOperate l G ρ e1) ⟨rfl, rfl⟩ kcX10_canOperate (tq q_999 rfl) kiX10_canOperate ksX10_canOperate knX10_canOperate kdX10_canOperate t2 rfl rfl ⟨Nat.le_of_ble_eq_true rfl, Nat.le_of_ble_eq_true rfl⟩ hl.1 (Nat.le_of_ble_eq_true rfl) (room_of hW (pext e1) ((pext hf).tr hX)) dX10_root_2 rfl) (fun H locs c1 s1 hW => ?_)
  refine lv_istore_n (lv' := [(3, .int v1), (0, .ref (ρ x0)), (1, .int x1), (2, .int x2)]) hx hb dX10_root_5 rfl hl (by decide) rfl (fun ls hl => ?_)
  refine lv_iload_n hx hb dX10_root_6 rfl (lv_at hl 0 rfl) ?_
  refine lv_bipush (v := -2) hx hb dX10_root_7 (by decide) ?_
  refine lv_icmp_eq (tgt := 26) hx hb dX10_root_9 (by decide) (fun c3 => ?_) (fun c3 => ?_)
  · rw [if_pos c3] at hf
    refine lv_aload_n hx hb dX10_root_26 rfl (lv_at hl 1 rfl) ?_
    refine lv_bipush (v := -2) hx hb dX10_root_27 (by decide) ?_
    obtain ⟨v4, h4, e4, hf⟩ := pb_some hf
    obtain ⟨_, _, t5⟩ := tgX10_refuses e4
    refine r_calli hW (pext e4) (run_V (b := x0) (As := [.int (-2 : Int32)]) (rest := []) C hW (metX10_refuses l G ρ e4) ⟨rfl, rfl⟩ kcX10_refuses (tq q_837 rfl) kiX10_refuses ksX10_refuses knX10_refuses kdX10_refuses t5 rfl rfl ⟨Nat.le_of_ble_eq_true rfl, Nat.le_of_ble_eq_true rfl⟩ hl.1 (Nat.le_of_ble_eq_true rfl) (room_of hW (pext e4) ((pext hf).tr hX)) dX10_root_29 rfl) (fun H locs c1 s1 hW => ?_)
    obtain ⟨rfl, rfl⟩ := pp_some hf
    exact r_iret C hW dX10_root_32
  · rw [if_neg c3] at hf
    refine lv_iload_n hx hb dX10_root_12 rfl (lv_at hl 3 rfl) ?_
    refine lv_i2l (v := x2.toInt64) hx hb dX10_root_13 rfl ?_
    refine r_ldc2 (v := -8) C (tq q_1055 rfl) dX10_root_14 ?_
    refine r_ldc2 (v := 8) C (tq q_1056 rfl) dX10_root_17 ?_
    obtain ⟨v6, h6, e6, hf⟩ := pb_some hf
    refine r_calli hW (pext e6) (run_S (As := [.long x2.toInt64, .long (-8 : Int64), .long (8 : Int64)]) (rest := []) C hW (metX10_in l G ρ e6) ⟨rfl, rfl⟩ kcX10_in (tq q_834 rfl) kiX10_in knX10_in kdX10_in ⟨Nat.le_of_ble_eq_true rfl, Nat.le_of_ble_eq_true rfl⟩ hl.1 (Nat.le_of_ble_eq_true rfl) (room_of hW (pext e6) ((pext hf).tr hX)) dX10_root_20 rfl) (fun H locs c1 s1 hW => ?_)
    refine lv_if_ne (tgt := 33) hx hb dX10_root_23 (by decide) (fun c7 => ?_) (fun c7 => ?_)
    · rw [if_neg c7] at hf
      refine lv_iload_n hx hb dX10_root_33 rfl (lv_at hl 0 rfl) ?_
      refine lv_bipush (v := -3) hx hb dX10_root_34 (by decide) ?_
      refine lv_icmp_ne (tgt := 46) hx hb dX10_root_36 (by decide) (fun c8 => ?_) (fun c8 => ?_)
      · rw [if_neg c8] at hf
        refine lv_aload_n hx hb dX10_root_46 rfl (lv_at hl 1 rfl) ?_
        refine lv_iload_n hx hb dX10_root_47 rfl (lv_at hl 2 rfl) ?_
        refine lv_iconst (v := 1) hx hb dX10_root_48 (by decide) ?_
        obtain ⟨_, h9, e9, hf⟩ := pb_some hf
        obtain ⟨_, _, t10⟩ := tgX10_laysTable e9
        refine r_callv hW (pext e9) (run_V (b := x0) (As := [.int x1, .int (1 : Int32)]) (rest := []) C hW (metX10_laysTable l G ρ e9) ⟨rfl, rfl⟩ kcX10_laysTable (tq q_1025 rfl) kiX10_laysTable ksX10_laysTable knX10_laysTable kdX10_laysTable t10 rfl rfl ⟨Nat.le_of_ble_eq_true rfl, Nat.le_of_ble_eq_true rfl⟩ hl.1 (Nat.le_of_ble_eq_true rfl) (room_of hW (pext e9) ((pext hf).tr hX)) dX10_root_49 rfl) (fun H locs c1 s1 hW => ?_)
        refine lv_aload_n hx hb dX10_root_52 rfl (lv_at hl 1 rfl) ?_
        obtain ⟨_, h11, e11, hf⟩ := pb_some hf
        obtain ⟨_, _, t12⟩ := tgX10_laysPolynomial e11
        refine r_callv hW (pext e11) (run_V (b := x0) (As := []) (rest := []) C hW (metX10_laysPolynomial l G ρ e11) ⟨rfl, rfl⟩ kcX10_laysPolynomial (tq q_1043 rfl) kiX10_laysPolynomial ksX10_laysPolynomial knX10_laysPolynomial kdX10_laysPolynomial t12 rfl rfl ⟨Nat.le_of_ble_eq_true rfl, Nat.le_of_ble_eq_true rfl⟩ hl.1 (Nat.le_of_ble_eq_true rfl) (room_of hW (pext e11) ((pext hf).tr hX)) dX10_root_53 rfl) (fun H locs c1 s1 hW => ?_)
        refine lv_aload_n hx hb dX10_root_56 rfl (lv_at hl 1 rfl) ?_
        refine lv_iload_n hx hb dX10_root_57 rfl (lv_at hl 3 rfl) ?_
        obtain ⟨v13, h13, e13, hf⟩ := pb_some hf
        obtain ⟨_, _, t14⟩ := tgX10_rootOf e13
        refine r_calli hW (pext e13) (run_V (b := x0) (As := [.int x2]) (rest := []) C hW (metX10_rootOf l G ρ e13) ⟨rfl, rfl⟩ kcX10_rootOf (tq q_1057 rfl) kiX10_rootOf ksX10_rootOf knX10_rootOf kdX10_rootOf t14 rfl rfl ⟨Nat.le_of_ble_eq_true rfl, Nat.le_of_ble_eq_true rfl⟩ hl.1 (Nat.le_of_ble_eq_true rfl) (room_of hW (pext e13) ((pext hf).tr hX)) dX10_root_58 rfl) (fun H locs c1 s1 hW => ?_)
        obtain ⟨rfl, rfl⟩ := pp_some hf
        exact r_iret C hW dX10_root_61
      · rw [if_pos c8] at hf
        refine lv_aload_n hx hb dX10_root_39 rfl (lv_at hl 1 rfl) ?_
        refine lv_bipush (v := -3) hx hb dX10_root_40 (by decide) ?_
        obtain ⟨v15, h15, e15, hf⟩ := pb_some hf
        obtain ⟨_, _, t16⟩ := tgX10_refuses e15
        refine r_calli hW (pext e15) (run_V (b := x0) (As := [.int (-3 : Int32)]) (rest := []) C hW (metX10_refuses l G ρ e15) ⟨rfl, rfl⟩ kcX10_refuses (tq q_837 rfl) kiX10_refuses ksX10_refuses knX10_refuses kdX10_refuses t16 rfl rfl ⟨Nat.le_of_ble_eq_true rfl, Nat.le_of_ble_eq_true rfl⟩ hl.1 (Nat.le_of_ble_eq_true rfl) (room_of hW (pext e15) ((pext hf).tr hX)) dX10_root_42 rfl) (fun H locs c1 s1 hW => ?_)
        obtain ⟨rfl, rfl⟩ := pp_some hf
        exact r_iret C hW dX10_root_45
    · rw [if_pos c7] at hf
      refine lv_aload_n hx hb dX10_root_26 rfl (lv_at hl 1 rfl) ?_
      refine lv_bipush (v := -2) hx hb dX10_root_27 (by decide) ?_
      obtain ⟨v17, h17, e17, hf⟩ := pb_some hf
      obtain ⟨_, _, t18⟩ := tgX10_refuses e17
      refine r_calli hW (pext e17) (run_V (b := x0) (As := [.int (-2 : Int32)]) (rest := []) C hW (metX10_refuses l G ρ e17) ⟨rfl, rfl⟩ kcX10_refuses (tq q_837 rfl) kiX10_refuses ksX10_refuses knX10_refuses kdX10_refuses t18 rfl rfl ⟨Nat.le_of_ble_eq_true rfl, Nat.le_of_ble_eq_true rfl⟩ hl.1 (Nat.le_of_ble_eq_true rfl) (room_of hW (pext e17) ((pext hf).tr hX)) dX10_root_29 rfl) (fun H locs c1 s1 hW => ?_)
      obtain ⟨rfl, rfl⟩ := pp_some hf
      exact r_iret C hW dX10_root_32

theorem dX10_isPrime_0 : decode cX10_isPrime 0 = .ok (.iload_n 0, 1) := by decide +kernel
theorem dX10_isPrime_1 : decode cX10_isPrime 1 = .ok (.iconst 1, 1) := by decide +kernel
theorem dX10_isPrime_2 : decode cX10_isPrime 2 = .ok (.if_icmp .le 7, 3) := by decide +kernel
theorem dX10_isPrime_5 : decode cX10_isPrime 5 = .ok (.iconst 1, 1) := by decide +kernel
theorem dX10_isPrime_6 : decode cX10_isPrime 6 = .ok (.goto 4, 3) := by decide +kernel
theorem dX10_isPrime_9 : decode cX10_isPrime 9 = .ok (.iconst 0, 1) := by decide +kernel
theorem dX10_isPrime_10 : decode cX10_isPrime 10 = .ok (.istore_n 1, 1) := by decide +kernel
theorem dX10_isPrime_11 : decode cX10_isPrime 11 = .ok (.iconst 2, 1) := by decide +kernel
theorem dX10_isPrime_12 : decode cX10_isPrime 12 = .ok (.istore_n 2, 1) := by decide +kernel
theorem dX10_isPrime_13 : decode cX10_isPrime 13 = .ok (.iload_n 2, 1) := by decide +kernel
theorem dX10_isPrime_14 : decode cX10_isPrime 14 = .ok (.iload_n 0, 1) := by decide +kernel
theorem dX10_isPrime_15 : decode cX10_isPrime 15 = .ok (.if_icmp .ge 25, 3) := by decide +kernel
theorem dX10_isPrime_18 : decode cX10_isPrime 18 = .ok (.iload_n 1, 1) := by decide +kernel
theorem dX10_isPrime_19 : decode cX10_isPrime 19 = .ok (.ifCond .eq 13, 3) := by decide +kernel
theorem dX10_isPrime_22 : decode cX10_isPrime 22 = .ok (.iload_n 0, 1) := by decide +kernel
theorem dX10_isPrime_23 : decode cX10_isPrime 23 = .ok (.iload_n 2, 1) := by decide +kernel
theorem dX10_isPrime_24 : decode cX10_isPrime 24 = .ok (.irem, 1) := by decide +kernel
theorem dX10_isPrime_25 : decode cX10_isPrime 25 = .ok (.ifCond .eq 7, 3) := by decide +kernel
theorem dX10_isPrime_28 : decode cX10_isPrime 28 = .ok (.iconst 1, 1) := by decide +kernel
theorem dX10_isPrime_29 : decode cX10_isPrime 29 = .ok (.goto 4, 3) := by decide +kernel
theorem dX10_isPrime_32 : decode cX10_isPrime 32 = .ok (.iconst 0, 1) := by decide +kernel
theorem dX10_isPrime_33 : decode cX10_isPrime 33 = .ok (.istore_n 1, 1) := by decide +kernel
theorem dX10_isPrime_34 : decode cX10_isPrime 34 = .ok (.iinc 2 1, 3) := by decide +kernel
theorem dX10_isPrime_37 : decode cX10_isPrime 37 = .ok (.goto (-24), 3) := by decide +kernel
theorem dX10_isPrime_40 : decode cX10_isPrime 40 = .ok (.iload_n 1, 1) := by decide +kernel
theorem dX10_isPrime_41 : decode cX10_isPrime 41 = .ok (.ireturn, 1) := by decide +kernel
theorem kcX10_isPrime : Cond.code yX10_isPrime cX10_isPrime 3 (some .boolean) ∈ tb := tq q_1076 rfl
theorem knX10_isPrime : Cond.initialized yX10_isPrime.cls ∈ tb := (tq q_10 rfl)
theorem kdX10_isPrime : yX10_isPrime.cls ≠ "java/lang/invoke/MethodHandle" ∧ yX10_isPrime.cls ≠ "java/lang/invoke/VarHandle" ∧ (parseMethodDescriptor yX10_isPrime.desc).map (fun d => d.parameters.length) = some 1 := ⟨by decide +kernel, by decide +kernel, by decide +kernel⟩
theorem kiX10_isPrime : Cond.static yX10_isPrime ∈ tb := (tq q_1075 rfl)
set_option maxHeartbeats 4000000 in
set_option maxRecDepth 100000 in
theorem wX10_isPrime_B13 {p : Program} {l : Launch} {e : Env} {s : State} {m : MethodId} {args : Array Value} {below : List Frame} {meth : Method} {c : Code} {G : GG} {ρ : Nat → Nat} {h0 hE hB : PH} {Q : State → Prop} {x0 : Int32} (C : Cx G "PairSymbolsModel" cX10_isPrime 3 (some .boolean) "isPrime" p s m args meth c) {x1 : Int32} {x2 : Int32} {h : PH} {H : Heap} {locs : List Loc} {cells slots : Nat} {ls : Array Slot} {r : (Int32 × Int32) ⊕ (Int32)} (hf : (fX10_isPrime_b13 x0 x1 x2).1 h = some (r, hB)) (hX : Ext hB hE) (hW : Wd G ρ h0.length (sl h0) s.heap h H locs cells slots) (hl : lv_has ls 3 [(0, .int x0), (1, .int x1), (2, .int x2)]) (kc : ∀ y : Int32 × Int32, r = .inl y → ∀ (H : Heap) (locs : List Loc) (c1 s1 : Nat) (ls : Array Slot), Wd G ρ h0.length (sl h0) s.heap hB H locs c1 s1 → lv_has ls 3 [(0, .int x0), (1, .int y.1), (2, .int y.2)] → W p l e (RM 0 0 h0 hE) s m args below meth c H locs c1 s1 Q (F0 m 13 ls [])) (ke : ∀ z : Int32, r = .inr z → ∀ (H : Heap) (locs : List Loc) (c1 s1 : Nat) (ls : Array Slot), Wd G ρ h0.length (sl h0) s.heap hB H locs c1 s1 → lv_has ls 3 [(1, .int z)] → W p l e (RM 0 0 h0 hE) s m args below meth c H locs c1 s1 Q (F0 m 40 ls [])) : W p l e (RM 0 0 h0 hE) s m args below meth c H locs cells slots Q (F0 m 13 ls []) := by
  have hx := C.1
  have hb := C.2.1
  unfold fX10_isPrime_b13 at hf
  refine lv_iload_n hx hb dX10_isPrime_13 rfl (lv_at hl 2 rfl) ?_
  refine lv_iload_n hx hb dX10_isPrime_14 rfl (lv_at hl 0 rfl) ?_
  refine lv_icmp_ge (tgt := 40) hx hb dX10_isPrime_15 (by decide) (fun c2 => ?_) (fun c2 => ?_)
  · rw [if_pos c2] at hf
    obtain ⟨rfl, rfl⟩ := pp_some hf
    exact ke _ rfl _ _ _ _ _ hW (lv_sub hl [1] rfl)
  · rw [if_neg c2] at hf
    refine lv_iload_n hx hb dX10_isPrime_18 rfl (lv_at hl 1 rfl) ?_
    refine lv_if_eq (tgt := 32) hx hb dX10_isPrime_19 (by decide) (fun c3 => ?_) (fun c3 => ?_)
    · rw [if_pos c3] at hf
      refine lv_iconst (v := 0) hx hb dX10_isPrime_32 (by decide) ?_
      refine lv_istore_n (lv' := [(1, .int (0 : Int32)), (0, .int x0), (2, .int x2)]) hx hb dX10_isPrime_33 rfl hl (by decide) rfl (fun ls hl => ?_)
      refine lv_iinc (v := (x2 + 1)) (lv' := [(2, .int (x2 + 1)), (1, .int (0 : Int32)), (0, .int x0)]) hx hb dX10_isPrime_34 hl (k := 2) rfl rfl (by decide) rfl (fun ls hl => ?_)
      refine lv_goto (tgt := 13) hx hb dX10_isPrime_37 (by decide) ?_
      obtain ⟨rfl, rfl⟩ := pp_some hf
      exact kc _ rfl _ _ _ _ _ hW (lv_sub hl [2, 1, 0] rfl)
    · rw [if_neg c3] at hf
      refine lv_iload_n hx hb dX10_isPrime_22 rfl (lv_at hl 0 rfl) ?_
      refine lv_iload_n hx hb dX10_isPrime_23 rfl (lv_at hl 2 rfl) ?_
      by_cases c4 : x2 = 0
      · rw [if_pos c4] at hf
        exact (pf_no hf).elim
      rw [if_neg c4] at hf
      refine lv_irem hx hb dX10_isPrime_24 c4 ?_
      refine lv_if_eq (tgt := 32) hx hb dX10_isPrime_25 (by decide) (fun c5 => ?_) (fun c5 => ?_)
      · rw [if_pos c5] at hf
        refine lv_iconst (v := 0) hx hb dX10_isPrime_32 (by decide) ?_
        refine lv_istore_n (lv' := [(1, .int (0 : Int32)), (0, .int x0), (2, .int x2)]) hx hb dX10_isPrime_33 rfl hl (by decide) rfl (fun ls hl => ?_)
        refine lv_iinc (v := (x2 + 1)) (lv' := [(2, .int (x2 + 1)), (1, .int (0 : Int32)), (0, .int x0)]) hx hb dX10_isPrime_34 hl (k := 2) rfl rfl (by decide) rfl (fun ls hl => ?_)
        refine lv_goto (tgt := 13) hx hb dX10_isPrime_37 (by decide) ?_
        obtain ⟨rfl, rfl⟩ := pp_some hf
        exact kc _ rfl _ _ _ _ _ hW (lv_sub hl [2, 1, 0] rfl)
      · rw [if_neg c5] at hf
        refine lv_iconst (v := 1) hx hb dX10_isPrime_28 (by decide) ?_
        refine lv_goto (tgt := 33) hx hb dX10_isPrime_29 (by decide) ?_
        refine lv_istore_n (lv' := [(1, .int (1 : Int32)), (0, .int x0), (2, .int x2)]) hx hb dX10_isPrime_33 rfl hl (by decide) rfl (fun ls hl => ?_)
        refine lv_iinc (v := (x2 + 1)) (lv' := [(2, .int (x2 + 1)), (1, .int (1 : Int32)), (0, .int x0)]) hx hb dX10_isPrime_34 hl (k := 2) rfl rfl (by decide) rfl (fun ls hl => ?_)
        refine lv_goto (tgt := 13) hx hb dX10_isPrime_37 (by decide) ?_
        obtain ⟨rfl, rfl⟩ := pp_some hf
        exact kc _ rfl _ _ _ _ _ hW (lv_sub hl [2, 1, 0] rfl)
set_option maxHeartbeats 4000000 in
theorem wX10_isPrime_L13 {p : Program} {l : Launch} {e : Env} {s : State} {m : MethodId} {args : Array Value} {below : List Frame} {meth : Method} {c : Code} {G : GG} {ρ : Nat → Nat} {h0 hE hB : PH} {Q : State → Prop} {x0 : Int32} (C : Cx G "PairSymbolsModel" cX10_isPrime 3 (some .boolean) "isPrime" p s m args meth c) {z : (Int32)} (n : Nat) : ∀ (x : Int32 × Int32) {h : PH} {H : Heap} {locs : List Loc} {cells slots : Nat} {ls : Array Slot}, (plo (fX10_isPrime_B13 x0) n x).1 h = some (z, hB) → Ext hB hE → Wd G ρ h0.length (sl h0) s.heap h H locs cells slots → lv_has ls 3 [(0, .int x0), (1, .int x.1), (2, .int x.2)] → (ke : ∀ (H : Heap) (locs : List Loc) (c1 s1 : Nat) (ls : Array Slot), Wd G ρ h0.length (sl h0) s.heap hB H locs c1 s1 → lv_has ls 3 [(1, .int z)] → W p l e (RM 0 0 h0 hE) s m args below meth c H locs c1 s1 Q (F0 m 40 ls [])) → W p l e (RM 0 0 h0 hE) s m args below meth c H locs cells slots Q (F0 m 13 ls []) := by
  induction n with
  | zero =>
    intro x h H locs cells slots ls hf
    rw [plo_0] at hf
    exact (pf_no hf).elim
  | succ n ih =>
    intro x h H locs cells slots ls hf hX hW hl ke
    rw [plo_s] at hf
    obtain ⟨r, h1, e1, hf⟩ := pb_some hf
    unfold fX10_isPrime_B13 at e1
    rw [frI_eq, frI_eq] at e1
    refine wX10_isPrime_B13 C e1 ((pext hf).tr hX) hW hl (fun y hr H locs c1 s1 ls hW hl => ?_) (fun y hr H locs c1 s1 ls hW hl => ?_)
    · subst hr
      exact ih y hf hX hW hl ke
    · subst hr
      obtain ⟨rfl, rfl⟩ := pp_some hf
      exact ke H locs c1 s1 ls hW hl
set_option maxHeartbeats 4000000 in
set_option maxRecDepth 100000 in
theorem metX10_isPrime (l : Launch) (G : GG) (ρ : Nat → Nat) {z : Nat} {x0 : Int32} {h hE : PH} {v : Int32} (hf : (fX10_isPrime x0).1 h = some (v, hE)) : Met l yX10_isPrime (wsY yX10_isPrime cX10_isPrime 3 (some .boolean)) (RM 0 0 h hE) (va_Pc [.int x0] (PcB G ρ h z)) (QI G ρ v hE h.length z) (DC h hE) (DS h hE) (Af ρ h.length z) := by
  refine met_start (by decide) (Nat.le_of_ble_eq_true rfl) ?_
  intro p e s m below meth c ls hz C hW hl
  subst hz
  have C : Cx G "PairSymbolsModel" cX10_isPrime 3 (some .boolean) "isPrime" p s m _ meth c := C
  have hx := C.1
  have hb := C.2.1
  have hX : Ext hE hE := Ext.rf hE
  have hl : lv_has ls 3 [(0, .int x0)] := hl
  have hW : Wd G ρ h.length (sl h) s.heap h s.heap [] 0 0 := hW
  unfold fX10_isPrime at hf
  refine lv_iload_n hx hb dX10_isPrime_0 rfl (lv_at hl 0 rfl) ?_
  refine lv_iconst (v := 1) hx hb dX10_isPrime_1 (by decide) ?_
  refine lv_icmp_le (tgt := 9) hx hb dX10_isPrime_2 (by decide) (fun c1 => ?_) (fun c1 => ?_)
  · rw [if_pos c1] at hf
    refine lv_iconst (v := 0) hx hb dX10_isPrime_9 (by decide) ?_
    refine lv_istore_n (lv' := [(1, .int (0 : Int32)), (0, .int x0)]) hx hb dX10_isPrime_10 rfl hl (by decide) rfl (fun ls hl => ?_)
    refine lv_iconst (v := 2) hx hb dX10_isPrime_11 (by decide) ?_
    refine lv_istore_n (lv' := [(2, .int (2 : Int32)), (1, .int (0 : Int32)), (0, .int x0)]) hx hb dX10_isPrime_12 rfl hl (by decide) rfl (fun ls hl => ?_)
    obtain ⟨z6, h6, e6, hf⟩ := pb_some hf
    refine wX10_isPrime_L13 C fu _ e6 ((pext hf).tr hX) hW (lv_sub hl [2, 1, 0] rfl) (fun H locs c1 s1 ls hW hl => ?_)
    refine lv_iload_n hx hb dX10_isPrime_40 rfl (lv_at hl 0 rfl) ?_
    obtain ⟨hz, hf⟩ := pz_some hf
    obtain ⟨rfl, rfl⟩ := pp_some hf
    exact r_zret C hW (pz_nar hz) dX10_isPrime_41
  · rw [if_neg c1] at hf
    refine lv_iconst (v := 1) hx hb dX10_isPrime_5 (by decide) ?_
    refine lv_goto (tgt := 10) hx hb dX10_isPrime_6 (by decide) ?_
    refine lv_istore_n (lv' := [(1, .int (1 : Int32)), (0, .int x0)]) hx hb dX10_isPrime_10 rfl hl (by decide) rfl (fun ls hl => ?_)
    refine lv_iconst (v := 2) hx hb dX10_isPrime_11 (by decide) ?_
    refine lv_istore_n (lv' := [(2, .int (2 : Int32)), (1, .int (1 : Int32)), (0, .int x0)]) hx hb dX10_isPrime_12 rfl hl (by decide) rfl (fun ls hl => ?_)
    obtain ⟨z7, h7, e7, hf⟩ := pb_some hf
    refine wX10_isPrime_L13 C fu _ e7 ((pext hf).tr hX) hW (lv_sub hl [2, 1, 0] rfl) (fun H locs c1 s1 ls hW hl => ?_)
    refine lv_iload_n hx hb dX10_isPrime_40 rfl (lv_at hl 0 rfl) ?_
    obtain ⟨hz, hf⟩ := pz_some hf
    obtain ⟨rfl, rfl⟩ := pp_some hf
    exact r_zret C hW (pz_nar hz) dX10_isPrime_41

theorem dX10_index_0 : decode cX10_index 0 = .ok (.iload_n 0, 1) := by decide +kernel
theorem dX10_index_1 : decode cX10_index 1 = .ok (.istore_n 1, 1) := by decide +kernel
theorem dX10_index_2 : decode cX10_index 2 = .ok (.iconst 2, 1) := by decide +kernel
theorem dX10_index_3 : decode cX10_index 3 = .ok (.istore_n 2, 1) := by decide +kernel
theorem dX10_index_4 : decode cX10_index 4 = .ok (.iload_n 2, 1) := by decide +kernel
theorem dX10_index_5 : decode cX10_index 5 = .ok (.iload_n 0, 1) := by decide +kernel
theorem dX10_index_6 : decode cX10_index 6 = .ok (.if_icmp .gt 34, 3) := by decide +kernel
theorem dX10_index_9 : decode cX10_index 9 = .ok (.iload_n 0, 1) := by decide +kernel
theorem dX10_index_10 : decode cX10_index 10 = .ok (.iload_n 2, 1) := by decide +kernel
theorem dX10_index_11 : decode cX10_index 11 = .ok (.irem, 1) := by decide +kernel
theorem dX10_index_12 : decode cX10_index 12 = .ok (.ifCond .ne 20, 3) := by decide +kernel
theorem dX10_index_15 : decode cX10_index 15 = .ok (.iload_n 2, 1) := by decide +kernel
theorem dX10_index_16 : decode cX10_index 16 = .ok (.invokestatic 330, 3) := by decide +kernel
theorem dX10_index_19 : decode cX10_index 19 = .ok (.ifCond .eq 13, 3) := by decide +kernel
theorem dX10_index_22 : decode cX10_index 22 = .ok (.iload_n 1, 1) := by decide +kernel
theorem dX10_index_23 : decode cX10_index 23 = .ok (.iload_n 2, 1) := by decide +kernel
theorem dX10_index_24 : decode cX10_index 24 = .ok (.idiv, 1) := by decide +kernel
theorem dX10_index_25 : decode cX10_index 25 = .ok (.iload_n 2, 1) := by decide +kernel
theorem dX10_index_26 : decode cX10_index 26 = .ok (.iconst 1, 1) := by decide +kernel
theorem dX10_index_27 : decode cX10_index 27 = .ok (.iadd, 1) := by decide +kernel
theorem dX10_index_28 : decode cX10_index 28 = .ok (.imul, 1) := by decide +kernel
theorem dX10_index_29 : decode cX10_index 29 = .ok (.goto 4, 3) := by decide +kernel
theorem dX10_index_32 : decode cX10_index 32 = .ok (.iload_n 1, 1) := by decide +kernel
theorem dX10_index_33 : decode cX10_index 33 = .ok (.istore_n 1, 1) := by decide +kernel
theorem dX10_index_34 : decode cX10_index 34 = .ok (.iinc 2 1, 3) := by decide +kernel
theorem dX10_index_37 : decode cX10_index 37 = .ok (.goto (-33), 3) := by decide +kernel
theorem dX10_index_40 : decode cX10_index 40 = .ok (.iload_n 1, 1) := by decide +kernel
theorem dX10_index_41 : decode cX10_index 41 = .ok (.ireturn, 1) := by decide +kernel
theorem kcX10_index : Cond.code yX10_index cX10_index 3 (some .int) ∈ tb := tq q_1073 rfl
theorem knX10_index : Cond.initialized yX10_index.cls ∈ tb := (tq q_10 rfl)
theorem kdX10_index : yX10_index.cls ≠ "java/lang/invoke/MethodHandle" ∧ yX10_index.cls ≠ "java/lang/invoke/VarHandle" ∧ (parseMethodDescriptor yX10_index.desc).map (fun d => d.parameters.length) = some 1 := ⟨by decide +kernel, by decide +kernel, by decide +kernel⟩
theorem kiX10_index : Cond.static yX10_index ∈ tb := (tq q_1072 rfl)
set_option maxHeartbeats 4000000 in
set_option maxRecDepth 100000 in
theorem wX10_index_B4 {p : Program} {l : Launch} {e : Env} {s : State} {m : MethodId} {args : Array Value} {below : List Frame} {meth : Method} {c : Code} {G : GG} {ρ : Nat → Nat} {h0 hE hB : PH} {Q : State → Prop} {x0 : Int32} (C : Cx G "PairSymbolsModel" cX10_index 3 (some .int) "index" p s m args meth c) {x1 : Int32} {x2 : Int32} {h : PH} {H : Heap} {locs : List Loc} {cells slots : Nat} {ls : Array Slot} {r : (Int32 × Int32) ⊕ (Int32)} (hf : (fX10_index_b4 x0 x1 x2).1 h = some (r, hB)) (hX : Ext hB hE) (hW : Wd G ρ h0.length (sl h0) s.heap h H locs cells slots) (hl : lv_has ls 3 [(0, .int x0), (1, .int x1), (2, .int x2)]) (kc : ∀ y : Int32 × Int32, r = .inl y → ∀ (H : Heap) (locs : List Loc) (c1 s1 : Nat) (ls : Array Slot), Wd G ρ h0.length (sl h0) s.heap hB H locs c1 s1 → lv_has ls 3 [(0, .int x0), (1, .int y.1), (2, .int y.2)] → W p l e (RM 1 22 h0 hE) s m args below meth c H locs c1 s1 Q (F0 m 4 ls [])) (ke : ∀ z : Int32, r = .inr z → ∀ (H : Heap) (locs : List Loc) (c1 s1 : Nat) (ls : Array Slot), Wd G ρ h0.length (sl h0) s.heap hB H locs c1 s1 → lv_has ls 3 [(1, .int z)] → W p l e (RM 1 22 h0 hE) s m args below meth c H locs c1 s1 Q (F0 m 40 ls [])) : W p l e (RM 1 22 h0 hE) s m args below meth c H locs cells slots Q (F0 m 4 ls []) := by
  have hx := C.1
  have hb := C.2.1
  unfold fX10_index_b4 at hf
  refine lv_iload_n hx hb dX10_index_4 rfl (lv_at hl 2 rfl) ?_
  refine lv_iload_n hx hb dX10_index_5 rfl (lv_at hl 0 rfl) ?_
  refine lv_icmp_gt (tgt := 40) hx hb dX10_index_6 (by decide) (fun c1 => ?_) (fun c1 => ?_)
  · rw [if_pos c1] at hf
    obtain ⟨rfl, rfl⟩ := pp_some hf
    exact ke _ rfl _ _ _ _ _ hW (lv_sub hl [1] rfl)
  · rw [if_neg c1] at hf
    refine lv_iload_n hx hb dX10_index_9 rfl (lv_at hl 0 rfl) ?_
    refine lv_iload_n hx hb dX10_index_10 rfl (lv_at hl 2 rfl) ?_
    by_cases c2 : x2 = 0
    · rw [if_pos c2] at hf
      exact (pf_no hf).elim
    rw [if_neg c2] at hf
    refine lv_irem hx hb dX10_index_11 c2 ?_
    refine lv_if_ne (tgt := 32) hx hb dX10_index_12 (by decide) (fun c3 => ?_) (fun c3 => ?_)
    · rw [if_neg c3] at hf
      refine lv_iload_n hx hb dX10_index_32 rfl (lv_at hl 1 rfl) ?_
      refine lv_istore_n (lv' := [(1, .int x1), (0, .int x0), (2, .int x2)]) hx hb dX10_index_33 rfl hl (by decide) rfl (fun ls hl => ?_)
      refine lv_iinc (v := (x2 + 1)) (lv' := [(2, .int (x2 + 1)), (1, .int x1), (0, .int x0)]) hx hb dX10_index_34 hl (k := 2) rfl rfl (by decide) rfl (fun ls hl => ?_)
      refine lv_goto (tgt := 4) hx hb dX10_index_37 (by decide) ?_
      obtain ⟨rfl, rfl⟩ := pp_some hf
      exact kc _ rfl _ _ _ _ _ hW (lv_sub hl [2, 1, 0] rfl)
    · rw [if_pos c3] at hf
      refine lv_iload_n hx hb dX10_index_15 rfl (lv_at hl 2 rfl) ?_
      obtain ⟨v4, h4, e4, hf⟩ := pb_some hf
      refine r_calli hW (pext e4) (run_S (As := [.int x2]) (rest := []) C hW (metX10_isPrime l G ρ e4) ⟨rfl, rfl⟩ kcX10_isPrime (tq q_1074 rfl) kiX10_isPrime knX10_isPrime kdX10_isPrime ⟨Nat.le_of_ble_eq_true rfl, Nat.le_of_ble_eq_true rfl⟩ hl.1 (Nat.le_of_ble_eq_true rfl) (room_of hW (pext e4) ((pext hf).tr hX)) dX10_index_16 rfl) (fun H locs c1 s1 hW => ?_)
      refine lv_if_eq (tgt := 32) hx hb dX10_index_19 (by decide) (fun c5 => ?_) (fun c5 => ?_)
      · rw [if_pos c5] at hf
        refine lv_iload_n hx hb dX10_index_32 rfl (lv_at hl 1 rfl) ?_
        refine lv_istore_n (lv' := [(1, .int x1), (0, .int x0), (2, .int x2)]) hx hb dX10_index_33 rfl hl (by decide) rfl (fun ls hl => ?_)
        refine lv_iinc (v := (x2 + 1)) (lv' := [(2, .int (x2 + 1)), (1, .int x1), (0, .int x0)]) hx hb dX10_index_34 hl (k := 2) rfl rfl (by decide) rfl (fun ls hl => ?_)
        refine lv_goto (tgt := 4) hx hb dX10_index_37 (by decide) ?_
        obtain ⟨rfl, rfl⟩ := pp_some hf
        exact kc _ rfl _ _ _ _ _ hW (lv_sub hl [2, 1, 0] rfl)
      · rw [if_neg c5] at hf
        refine lv_iload_n hx hb dX10_index_22 rfl (lv_at hl 1 rfl) ?_
        refine lv_iload_n hx hb dX10_index_23 rfl (lv_at hl 2 rfl) ?_
        by_cases c6 : x2 = 0
        · rw [if_pos c6] at hf
          exact (pf_no hf).elim
        rw [if_neg c6] at hf
        refine lv_idiv hx hb dX10_index_24 c6 ?_
        refine lv_iload_n hx hb dX10_index_25 rfl (lv_at hl 2 rfl) ?_
        refine lv_iconst (v := 1) hx hb dX10_index_26 (by decide) ?_
        refine lv_iadd hx hb dX10_index_27 ?_
        refine lv_imul hx hb dX10_index_28 ?_
        refine lv_goto (tgt := 33) hx hb dX10_index_29 (by decide) ?_
        refine lv_istore_n (lv' := [(1, .int ((x1 / x2) * (x2 + (1 : Int32)))), (0, .int x0), (2, .int x2)]) hx hb dX10_index_33 rfl hl (by decide) rfl (fun ls hl => ?_)
        refine lv_iinc (v := (x2 + 1)) (lv' := [(2, .int (x2 + 1)), (1, .int ((x1 / x2) * (x2 + (1 : Int32)))), (0, .int x0)]) hx hb dX10_index_34 hl (k := 2) rfl rfl (by decide) rfl (fun ls hl => ?_)
        refine lv_goto (tgt := 4) hx hb dX10_index_37 (by decide) ?_
        obtain ⟨rfl, rfl⟩ := pp_some hf
        exact kc _ rfl _ _ _ _ _ hW (lv_sub hl [2, 1, 0] rfl)
set_option maxHeartbeats 4000000 in
theorem wX10_index_L4 {p : Program} {l : Launch} {e : Env} {s : State} {m : MethodId} {args : Array Value} {below : List Frame} {meth : Method} {c : Code} {G : GG} {ρ : Nat → Nat} {h0 hE hB : PH} {Q : State → Prop} {x0 : Int32} (C : Cx G "PairSymbolsModel" cX10_index 3 (some .int) "index" p s m args meth c) {z : (Int32)} (n : Nat) : ∀ (x : Int32 × Int32) {h : PH} {H : Heap} {locs : List Loc} {cells slots : Nat} {ls : Array Slot}, (plo (fX10_index_B4 x0) n x).1 h = some (z, hB) → Ext hB hE → Wd G ρ h0.length (sl h0) s.heap h H locs cells slots → lv_has ls 3 [(0, .int x0), (1, .int x.1), (2, .int x.2)] → (ke : ∀ (H : Heap) (locs : List Loc) (c1 s1 : Nat) (ls : Array Slot), Wd G ρ h0.length (sl h0) s.heap hB H locs c1 s1 → lv_has ls 3 [(1, .int z)] → W p l e (RM 1 22 h0 hE) s m args below meth c H locs c1 s1 Q (F0 m 40 ls [])) → W p l e (RM 1 22 h0 hE) s m args below meth c H locs cells slots Q (F0 m 4 ls []) := by
  induction n with
  | zero =>
    intro x h H locs cells slots ls hf
    rw [plo_0] at hf
    exact (pf_no hf).elim
  | succ n ih =>
    intro x h H locs cells slots ls hf hX hW hl ke
    rw [plo_s] at hf
    obtain ⟨r, h1, e1, hf⟩ := pb_some hf
    unfold fX10_index_B4 at e1
    rw [frI_eq, frI_eq] at e1
    refine wX10_index_B4 C e1 ((pext hf).tr hX) hW hl (fun y hr H locs c1 s1 ls hW hl => ?_) (fun y hr H locs c1 s1 ls hW hl => ?_)
    · subst hr
      exact ih y hf hX hW hl ke
    · subst hr
      obtain ⟨rfl, rfl⟩ := pp_some hf
      exact ke H locs c1 s1 ls hW hl
set_option maxHeartbeats 4000000 in
set_option maxRecDepth 100000 in
theorem metX10_index (l : Launch) (G : GG) (ρ : Nat → Nat) {z : Nat} {x0 : Int32} {h hE : PH} {v : Int32} (hf : (fX10_index x0).1 h = some (v, hE)) : Met l yX10_index (wsY yX10_index cX10_index 3 (some .int)) (RM 1 22 h hE) (va_Pc [.int x0] (PcB G ρ h z)) (QI G ρ v hE h.length z) (DC h hE) (DS h hE) (Af ρ h.length z) := by
  refine met_start (by decide) (Nat.le_of_ble_eq_true rfl) ?_
  intro p e s m below meth c ls hz C hW hl
  subst hz
  have C : Cx G "PairSymbolsModel" cX10_index 3 (some .int) "index" p s m _ meth c := C
  have hx := C.1
  have hb := C.2.1
  have hX : Ext hE hE := Ext.rf hE
  have hl : lv_has ls 3 [(0, .int x0)] := hl
  have hW : Wd G ρ h.length (sl h) s.heap h s.heap [] 0 0 := hW
  unfold fX10_index at hf
  refine lv_iload_n hx hb dX10_index_0 rfl (lv_at hl 0 rfl) ?_
  refine lv_istore_n (lv' := [(1, .int x0), (0, .int x0)]) hx hb dX10_index_1 rfl hl (by decide) rfl (fun ls hl => ?_)
  refine lv_iconst (v := 2) hx hb dX10_index_2 (by decide) ?_
  refine lv_istore_n (lv' := [(2, .int (2 : Int32)), (1, .int x0), (0, .int x0)]) hx hb dX10_index_3 rfl hl (by decide) rfl (fun ls hl => ?_)
  obtain ⟨z7, h7, e7, hf⟩ := pb_some hf
  refine wX10_index_L4 C fu _ e7 ((pext hf).tr hX) hW (lv_sub hl [2, 1, 0] rfl) (fun H locs c1 s1 ls hW hl => ?_)
  refine lv_iload_n hx hb dX10_index_40 rfl (lv_at hl 0 rfl) ?_
  obtain ⟨rfl, rfl⟩ := pp_some hf
  exact r_iret C hW dX10_index_41

theorem dX10_product_0 : decode cX10_product 0 = .ok (.iconst 1, 1) := by decide +kernel
theorem dX10_product_1 : decode cX10_product 1 = .ok (.istore_n 3, 1) := by decide +kernel
theorem dX10_product_2 : decode cX10_product 2 = .ok (.iconst 2, 1) := by decide +kernel
theorem dX10_product_3 : decode cX10_product 3 = .ok (.istore 4, 2) := by decide +kernel
theorem dX10_product_5 : decode cX10_product 5 = .ok (.iload 4, 2) := by decide +kernel
theorem dX10_product_7 : decode cX10_product 7 = .ok (.iload_n 0, 1) := by decide +kernel
theorem dX10_product_8 : decode cX10_product 8 = .ok (.if_icmp .gt 47, 3) := by decide +kernel
theorem dX10_product_11 : decode cX10_product 11 = .ok (.iload 4, 2) := by decide +kernel
theorem dX10_product_13 : decode cX10_product 13 = .ok (.iload_n 1, 1) := by decide +kernel
theorem dX10_product_14 : decode cX10_product 14 = .ok (.if_icmp .eq 35, 3) := by decide +kernel
theorem dX10_product_17 : decode cX10_product 17 = .ok (.iload_n 0, 1) := by decide +kernel
theorem dX10_product_18 : decode cX10_product 18 = .ok (.iload 4, 2) := by decide +kernel
theorem dX10_product_20 : decode cX10_product 20 = .ok (.irem, 1) := by decide +kernel
theorem dX10_product_21 : decode cX10_product 21 = .ok (.ifCond .ne 28, 3) := by decide +kernel
theorem dX10_product_24 : decode cX10_product 24 = .ok (.iload 4, 2) := by decide +kernel
theorem dX10_product_26 : decode cX10_product 26 = .ok (.invokestatic 330, 3) := by decide +kernel
theorem dX10_product_29 : decode cX10_product 29 = .ok (.ifCond .eq 20, 3) := by decide +kernel
theorem dX10_product_32 : decode cX10_product 32 = .ok (.iload_n 3, 1) := by decide +kernel
theorem dX10_product_33 : decode cX10_product 33 = .ok (.iload 4, 2) := by decide +kernel
theorem dX10_product_35 : decode cX10_product 35 = .ok (.iconst 1, 1) := by decide +kernel
theorem dX10_product_36 : decode cX10_product 36 = .ok (.isub, 1) := by decide +kernel
theorem dX10_product_37 : decode cX10_product 37 = .ok (.iload_n 2, 1) := by decide +kernel
theorem dX10_product_38 : decode cX10_product 38 = .ok (.irem, 1) := by decide +kernel
theorem dX10_product_39 : decode cX10_product 39 = .ok (.ifCond .ne 7, 3) := by decide +kernel
theorem dX10_product_42 : decode cX10_product 42 = .ok (.iconst 2, 1) := by decide +kernel
theorem dX10_product_43 : decode cX10_product 43 = .ok (.goto 4, 3) := by decide +kernel
theorem dX10_product_46 : decode cX10_product 46 = .ok (.iconst 0, 1) := by decide +kernel
theorem dX10_product_47 : decode cX10_product 47 = .ok (.imul, 1) := by decide +kernel
theorem dX10_product_48 : decode cX10_product 48 = .ok (.istore_n 3, 1) := by decide +kernel
theorem dX10_product_49 : decode cX10_product 49 = .ok (.iinc 4 1, 3) := by decide +kernel
theorem dX10_product_52 : decode cX10_product 52 = .ok (.goto (-47), 3) := by decide +kernel
theorem dX10_product_55 : decode cX10_product 55 = .ok (.iload_n 3, 1) := by decide +kernel
theorem dX10_product_56 : decode cX10_product 56 = .ok (.ireturn, 1) := by decide +kernel
theorem kcX10_product : Cond.code yX10_product cX10_product 5 (some .int) ∈ tb := tq q_1079 rfl
theorem knX10_product : Cond.initialized yX10_product.cls ∈ tb := (tq q_10 rfl)
theorem kdX10_product : yX10_product.cls ≠ "java/lang/invoke/MethodHandle" ∧ yX10_product.cls ≠ "java/lang/invoke/VarHandle" ∧ (parseMethodDescriptor yX10_product.desc).map (fun d => d.parameters.length) = some 3 := ⟨by decide +kernel, by decide +kernel, by decide +kernel⟩
theorem kiX10_product : Cond.static yX10_product ∈ tb := (tq q_1078 rfl)
set_option maxHeartbeats 4000000 in
set_option maxRecDepth 100000 in
theorem wX10_product_B5 {p : Program} {l : Launch} {e : Env} {s : State} {m : MethodId} {args : Array Value} {below : List Frame} {meth : Method} {c : Code} {G : GG} {ρ : Nat → Nat} {h0 hE hB : PH} {Q : State → Prop} {x0 : Int32} {x1 : Int32} {x2 : Int32} (C : Cx G "PairSymbolsModel" cX10_product 5 (some .int) "product" p s m args meth c) {x3 : Int32} {x4 : Int32} {h : PH} {H : Heap} {locs : List Loc} {cells slots : Nat} {ls : Array Slot} {r : (Int32 × Int32) ⊕ (Int32)} (hf : (fX10_product_b5 x0 x1 x2 x3 x4).1 h = some (r, hB)) (hX : Ext hB hE) (hW : Wd G ρ h0.length (sl h0) s.heap h H locs cells slots) (hl : lv_has ls 5 [(0, .int x0), (1, .int x1), (2, .int x2), (3, .int x3), (4, .int x4)]) (kc : ∀ y : Int32 × Int32, r = .inl y → ∀ (H : Heap) (locs : List Loc) (c1 s1 : Nat) (ls : Array Slot), Wd G ρ h0.length (sl h0) s.heap hB H locs c1 s1 → lv_has ls 5 [(0, .int x0), (1, .int x1), (2, .int x2), (3, .int y.1), (4, .int y.2)] → W p l e (RM 1 22 h0 hE) s m args below meth c H locs c1 s1 Q (F0 m 5 ls [])) (ke : ∀ z : Int32, r = .inr z → ∀ (H : Heap) (locs : List Loc) (c1 s1 : Nat) (ls : Array Slot), Wd G ρ h0.length (sl h0) s.heap hB H locs c1 s1 → lv_has ls 5 [(3, .int z)] → W p l e (RM 1 22 h0 hE) s m args below meth c H locs c1 s1 Q (F0 m 55 ls [])) : W p l e (RM 1 22 h0 hE) s m args below meth c H locs cells slots Q (F0 m 5 ls []) := by
  have hx := C.1
  have hb := C.2.1
  unfold fX10_product_b5 at hf
  refine lv_iload hx hb dX10_product_5 (lv_at hl 4 rfl) ?_
  refine lv_iload_n hx hb dX10_product_7 rfl (lv_at hl 0 rfl) ?_
  refine lv_icmp_gt (tgt := 55) hx hb dX10_product_8 (by decide) (fun c1 => ?_) (fun c1 => ?_)
  · rw [if_pos c1] at hf
    obtain ⟨rfl, rfl⟩ := pp_some hf
    exact ke _ rfl _ _ _ _ _ hW (lv_sub hl [3] rfl)
  · rw [if_neg c1] at hf
    refine lv_iload hx hb dX10_product_11 (lv_at hl 4 rfl) ?_
    refine lv_iload_n hx hb dX10_product_13 rfl (lv_at hl 1 rfl) ?_
    refine lv_icmp_eq (tgt := 49) hx hb dX10_product_14 (by decide) (fun c2 => ?_) (fun c2 => ?_)
    · rw [if_pos c2] at hf
      refine lv_iinc (v := (x4 + 1)) (lv' := [(4, .int (x4 + 1)), (0, .int x0), (1, .int x1), (2, .int x2), (3, .int x3)]) hx hb dX10_product_49 hl (k := 4) rfl rfl (by decide) rfl (fun ls hl => ?_)
      refine lv_goto (tgt := 5) hx hb dX10_product_52 (by decide) ?_
      obtain ⟨rfl, rfl⟩ := pp_some hf
      exact kc _ rfl _ _ _ _ _ hW (lv_sub hl [1, 2, 3, 4, 0] rfl)
    · rw [if_neg c2] at hf
      refine lv_iload_n hx hb dX10_product_17 rfl (lv_at hl 0 rfl) ?_
      refine lv_iload hx hb dX10_product_18 (lv_at hl 4 rfl) ?_
      by_cases c3 : x4 = 0
      · rw [if_pos c3] at hf
        exact (pf_no hf).elim
      rw [if_neg c3] at hf
      refine lv_irem hx hb dX10_product_20 c3 ?_
      refine lv_if_ne (tgt := 49) hx hb dX10_product_21 (by decide) (fun c4 => ?_) (fun c4 => ?_)
      · rw [if_neg c4] at hf
        refine lv_iinc (v := (x4 + 1)) (lv' := [(4, .int (x4 + 1)), (0, .int x0), (1, .int x1), (2, .int x2), (3, .int x3)]) hx hb dX10_product_49 hl (k := 4) rfl rfl (by decide) rfl (fun ls hl => ?_)
        refine lv_goto (tgt := 5) hx hb dX10_product_52 (by decide) ?_
        obtain ⟨rfl, rfl⟩ := pp_some hf
        exact kc _ rfl _ _ _ _ _ hW (lv_sub hl [1, 2, 3, 4, 0] rfl)
      · rw [if_pos c4] at hf
        refine lv_iload hx hb dX10_product_24 (lv_at hl 4 rfl) ?_
        obtain ⟨v5, h5, e5, hf⟩ := pb_some hf
        refine r_calli hW (pext e5) (run_S (As := [.int x4]) (rest := []) C hW (metX10_isPrime l G ρ e5) ⟨rfl, rfl⟩ kcX10_isPrime (tq q_1074 rfl) kiX10_isPrime knX10_isPrime kdX10_isPrime ⟨Nat.le_of_ble_eq_true rfl, Nat.le_of_ble_eq_true rfl⟩ hl.1 (Nat.le_of_ble_eq_true rfl) (room_of hW (pext e5) ((pext hf).tr hX)) dX10_product_26 rfl) (fun H locs c1 s1 hW => ?_)
        refine lv_if_eq (tgt := 49) hx hb dX10_product_29 (by decide) (fun c6 => ?_) (fun c6 => ?_)
        · rw [if_pos c6] at hf
          refine lv_iinc (v := (x4 + 1)) (lv' := [(4, .int (x4 + 1)), (0, .int x0), (1, .int x1), (2, .int x2), (3, .int x3)]) hx hb dX10_product_49 hl (k := 4) rfl rfl (by decide) rfl (fun ls hl => ?_)
          refine lv_goto (tgt := 5) hx hb dX10_product_52 (by decide) ?_
          obtain ⟨rfl, rfl⟩ := pp_some hf
          exact kc _ rfl _ _ _ _ _ hW (lv_sub hl [1, 2, 3, 4, 0] rfl)
        · rw [if_neg c6] at hf
          refine lv_iload_n hx hb dX10_product_32 rfl (lv_at hl 3 rfl) ?_
          refine lv_iload hx hb dX10_product_33 (lv_at hl 4 rfl) ?_
          refine lv_iconst (v := 1) hx hb dX10_product_35 (by decide) ?_
          refine lv_isub hx hb dX10_product_36 ?_
          refine lv_iload_n hx hb dX10_product_37 rfl (lv_at hl 2 rfl) ?_
          by_cases c7 : x2 = 0
          · rw [if_pos c7] at hf
            exact (pf_no hf).elim
          rw [if_neg c7] at hf
          refine lv_irem hx hb dX10_product_38 c7 ?_
          refine lv_if_ne (tgt := 46) hx hb dX10_product_39 (by decide) (fun c8 => ?_) (fun c8 => ?_)
          · rw [if_neg c8] at hf
            refine lv_iconst (v := 0) hx hb dX10_product_46 (by decide) ?_
            refine lv_imul hx hb dX10_product_47 ?_
            refine lv_istore_n (lv' := [(3, .int (x3 * (0 : Int32))), (0, .int x0), (1, .int x1), (2, .int x2), (4, .int x4)]) hx hb dX10_product_48 rfl hl (by decide) rfl (fun ls hl => ?_)
            refine lv_iinc (v := (x4 + 1)) (lv' := [(4, .int (x4 + 1)), (3, .int (x3 * (0 : Int32))), (0, .int x0), (1, .int x1), (2, .int x2)]) hx hb dX10_product_49 hl (k := 4) rfl rfl (by decide) rfl (fun ls hl => ?_)
            refine lv_goto (tgt := 5) hx hb dX10_product_52 (by decide) ?_
            obtain ⟨rfl, rfl⟩ := pp_some hf
            exact kc _ rfl _ _ _ _ _ hW (lv_sub hl [2, 3, 4, 1, 0] rfl)
          · rw [if_pos c8] at hf
            refine lv_iconst (v := 2) hx hb dX10_product_42 (by decide) ?_
            refine lv_goto (tgt := 47) hx hb dX10_product_43 (by decide) ?_
            refine lv_imul hx hb dX10_product_47 ?_
            refine lv_istore_n (lv' := [(3, .int (x3 * (2 : Int32))), (0, .int x0), (1, .int x1), (2, .int x2), (4, .int x4)]) hx hb dX10_product_48 rfl hl (by decide) rfl (fun ls hl => ?_)
            refine lv_iinc (v := (x4 + 1)) (lv' := [(4, .int (x4 + 1)), (3, .int (x3 * (2 : Int32))), (0, .int x0), (1, .int x1), (2, .int x2)]) hx hb dX10_product_49 hl (k := 4) rfl rfl (by decide) rfl (fun ls hl => ?_)
            refine lv_goto (tgt := 5) hx hb dX10_product_52 (by decide) ?_
            obtain ⟨rfl, rfl⟩ := pp_some hf
            exact kc _ rfl _ _ _ _ _ hW (lv_sub hl [2, 3, 4, 1, 0] rfl)
set_option maxHeartbeats 4000000 in
theorem wX10_product_L5 {p : Program} {l : Launch} {e : Env} {s : State} {m : MethodId} {args : Array Value} {below : List Frame} {meth : Method} {c : Code} {G : GG} {ρ : Nat → Nat} {h0 hE hB : PH} {Q : State → Prop} {x0 : Int32} {x1 : Int32} {x2 : Int32} (C : Cx G "PairSymbolsModel" cX10_product 5 (some .int) "product" p s m args meth c) {z : (Int32)} (n : Nat) : ∀ (x : Int32 × Int32) {h : PH} {H : Heap} {locs : List Loc} {cells slots : Nat} {ls : Array Slot}, (plo (fX10_product_B5 x0 x1 x2) n x).1 h = some (z, hB) → Ext hB hE → Wd G ρ h0.length (sl h0) s.heap h H locs cells slots → lv_has ls 5 [(0, .int x0), (1, .int x1), (2, .int x2), (3, .int x.1), (4, .int x.2)] → (ke : ∀ (H : Heap) (locs : List Loc) (c1 s1 : Nat) (ls : Array Slot), Wd G ρ h0.length (sl h0) s.heap hB H locs c1 s1 → lv_has ls 5 [(3, .int z)] → W p l e (RM 1 22 h0 hE) s m args below meth c H locs c1 s1 Q (F0 m 55 ls [])) → W p l e (RM 1 22 h0 hE) s m args below meth c H locs cells slots Q (F0 m 5 ls []) := by
  induction n with
  | zero =>
    intro x h H locs cells slots ls hf
    rw [plo_0] at hf
    exact (pf_no hf).elim
  | succ n ih =>
    intro x h H locs cells slots ls hf hX hW hl ke
    rw [plo_s] at hf
    obtain ⟨r, h1, e1, hf⟩ := pb_some hf
    unfold fX10_product_B5 at e1
    rw [frI_eq, frI_eq] at e1
    refine wX10_product_B5 C e1 ((pext hf).tr hX) hW hl (fun y hr H locs c1 s1 ls hW hl => ?_) (fun y hr H locs c1 s1 ls hW hl => ?_)
    · subst hr
      exact ih y hf hX hW hl ke
    · subst hr
      obtain ⟨rfl, rfl⟩ := pp_some hf
      exact ke H locs c1 s1 ls hW hl
set_option maxHeartbeats 4000000 in
set_option maxRecDepth 100000 in
theorem metX10_product (l : Launch) (G : GG) (ρ : Nat → Nat) {z : Nat} {x0 : Int32} {x1 : Int32} {x2 : Int32} {h hE : PH} {v : Int32} (hf : (fX10_product x0 x1 x2).1 h = some (v, hE)) : Met l yX10_product (wsY yX10_product cX10_product 5 (some .int)) (RM 1 22 h hE) (va_Pc [.int x0, .int x1, .int x2] (PcB G ρ h z)) (QI G ρ v hE h.length z) (DC h hE) (DS h hE) (Af ρ h.length z) := by
  refine met_start (by decide) (Nat.le_of_ble_eq_true rfl) ?_
  intro p e s m below meth c ls hz C hW hl
  subst hz
  have C : Cx G "PairSymbolsModel" cX10_product 5 (some .int) "product" p s m _ meth c := C
  have hx := C.1
  have hb := C.2.1
  have hX : Ext hE hE := Ext.rf hE
  have hl : lv_has ls 5 [(0, .int x0), (1, .int x1), (2, .int x2)] := hl
  have hW : Wd G ρ h.length (sl h) s.heap h s.heap [] 0 0 := hW
  unfold fX10_product at hf
  refine lv_iconst (v := 1) hx hb dX10_product_0 (by decide) ?_
  refine lv_istore_n (lv' := [(3, .int (1 : Int32)), (0, .int x0), (1, .int x1), (2, .int x2)]) hx hb dX10_product_1 rfl hl (by decide) rfl (fun ls hl => ?_)
  refine lv_iconst (v := 2) hx hb dX10_product_2 (by decide) ?_
  refine lv_istore (lv' := [(4, .int (2 : Int32)), (3, .int (1 : Int32)), (0, .int x0), (1, .int x1), (2, .int x2)]) hx hb dX10_product_3 hl (by decide) rfl (fun ls hl => ?_)
  obtain ⟨z9, h9, e9, hf⟩ := pb_some hf
  refine wX10_product_L5 C fu _ e9 ((pext hf).tr hX) hW (lv_sub hl [2, 3, 4, 1, 0] rfl) (fun H locs c1 s1 ls hW hl => ?_)
  refine lv_iload_n hx hb dX10_product_55 rfl (lv_at hl 0 rfl) ?_
  obtain ⟨rfl, rfl⟩ := pp_some hf
  exact r_iret C hW dX10_product_56

theorem dX10_ends_0 : decode cX10_ends 0 = .ok (.iconst 0, 1) := by decide +kernel
theorem dX10_ends_1 : decode cX10_ends 1 = .ok (.istore_n 1, 1) := by decide +kernel
theorem dX10_ends_2 : decode cX10_ends 2 = .ok (.iconst 1, 1) := by decide +kernel
theorem dX10_ends_3 : decode cX10_ends 3 = .ok (.istore_n 2, 1) := by decide +kernel
theorem dX10_ends_4 : decode cX10_ends 4 = .ok (.iload_n 2, 1) := by decide +kernel
theorem dX10_ends_5 : decode cX10_ends 5 = .ok (.iload_n 0, 1) := by decide +kernel
theorem dX10_ends_6 : decode cX10_ends 6 = .ok (.if_icmp .gt 62, 3) := by decide +kernel
theorem dX10_ends_9 : decode cX10_ends 9 = .ok (.iload_n 0, 1) := by decide +kernel
theorem dX10_ends_10 : decode cX10_ends 10 = .ok (.iload_n 2, 1) := by decide +kernel
theorem dX10_ends_11 : decode cX10_ends 11 = .ok (.irem, 1) := by decide +kernel
theorem dX10_ends_12 : decode cX10_ends 12 = .ok (.ifCond .ne 50, 3) := by decide +kernel
theorem dX10_ends_15 : decode cX10_ends 15 = .ok (.iload_n 2, 1) := by decide +kernel
theorem dX10_ends_16 : decode cX10_ends 16 = .ok (.i2l, 1) := by decide +kernel
theorem dX10_ends_17 : decode cX10_ends 17 = .ok (.iload_n 0, 1) := by decide +kernel
theorem dX10_ends_18 : decode cX10_ends 18 = .ok (.iload_n 2, 1) := by decide +kernel
theorem dX10_ends_19 : decode cX10_ends 19 = .ok (.idiv, 1) := by decide +kernel
theorem dX10_ends_20 : decode cX10_ends 20 = .ok (.i2l, 1) := by decide +kernel
theorem dX10_ends_21 : decode cX10_ends 21 = .ok (.invokestatic 129, 3) := by decide +kernel
theorem dX10_ends_24 : decode cX10_ends 24 = .ok (.l2i, 1) := by decide +kernel
theorem dX10_ends_25 : decode cX10_ends 25 = .ok (.istore_n 3, 1) := by decide +kernel
theorem dX10_ends_26 : decode cX10_ends 26 = .ok (.iconst 1, 1) := by decide +kernel
theorem dX10_ends_27 : decode cX10_ends 27 = .ok (.istore 4, 2) := by decide +kernel
theorem dX10_ends_29 : decode cX10_ends 29 = .ok (.iload 4, 2) := by decide +kernel
theorem dX10_ends_31 : decode cX10_ends 31 = .ok (.iload_n 3, 1) := by decide +kernel
theorem dX10_ends_32 : decode cX10_ends 32 = .ok (.if_icmp .gt 30, 3) := by decide +kernel
theorem dX10_ends_35 : decode cX10_ends 35 = .ok (.iload_n 1, 1) := by decide +kernel
theorem dX10_ends_36 : decode cX10_ends 36 = .ok (.iload 4, 2) := by decide +kernel
theorem dX10_ends_38 : decode cX10_ends 38 = .ok (.i2l, 1) := by decide +kernel
theorem dX10_ends_39 : decode cX10_ends 39 = .ok (.iload_n 3, 1) := by decide +kernel
theorem dX10_ends_40 : decode cX10_ends 40 = .ok (.i2l, 1) := by decide +kernel
theorem dX10_ends_41 : decode cX10_ends 41 = .ok (.invokestatic 129, 3) := by decide +kernel
theorem dX10_ends_44 : decode cX10_ends 44 = .ok (.lconst 1, 1) := by decide +kernel
theorem dX10_ends_45 : decode cX10_ends 45 = .ok (.lcmp, 1) := by decide +kernel
theorem dX10_ends_46 : decode cX10_ends 46 = .ok (.ifCond .ne 7, 3) := by decide +kernel
theorem dX10_ends_49 : decode cX10_ends 49 = .ok (.iconst 1, 1) := by decide +kernel
theorem dX10_ends_50 : decode cX10_ends 50 = .ok (.goto 4, 3) := by decide +kernel
theorem dX10_ends_53 : decode cX10_ends 53 = .ok (.iconst 0, 1) := by decide +kernel
theorem dX10_ends_54 : decode cX10_ends 54 = .ok (.iadd, 1) := by decide +kernel
theorem dX10_ends_55 : decode cX10_ends 55 = .ok (.istore_n 1, 1) := by decide +kernel
theorem dX10_ends_56 : decode cX10_ends 56 = .ok (.iinc 4 1, 3) := by decide +kernel
theorem dX10_ends_59 : decode cX10_ends 59 = .ok (.goto (-30), 3) := by decide +kernel
theorem dX10_ends_62 : decode cX10_ends 62 = .ok (.iinc 2 1, 3) := by decide +kernel
theorem dX10_ends_65 : decode cX10_ends 65 = .ok (.goto (-61), 3) := by decide +kernel
theorem dX10_ends_68 : decode cX10_ends 68 = .ok (.iload_n 1, 1) := by decide +kernel
theorem dX10_ends_69 : decode cX10_ends 69 = .ok (.ireturn, 1) := by decide +kernel
theorem kcX10_ends : Cond.code yX10_ends cX10_ends 5 (some .int) ∈ tb := tq q_1082 rfl
theorem knX10_ends : Cond.initialized yX10_ends.cls ∈ tb := (tq q_10 rfl)
theorem kdX10_ends : yX10_ends.cls ≠ "java/lang/invoke/MethodHandle" ∧ yX10_ends.cls ≠ "java/lang/invoke/VarHandle" ∧ (parseMethodDescriptor yX10_ends.desc).map (fun d => d.parameters.length) = some 1 := ⟨by decide +kernel, by decide +kernel, by decide +kernel⟩
theorem kiX10_ends : Cond.static yX10_ends ∈ tb := (tq q_1081 rfl)
set_option maxHeartbeats 4000000 in
set_option maxRecDepth 100000 in
theorem wX10_ends_B29 {p : Program} {l : Launch} {e : Env} {s : State} {m : MethodId} {args : Array Value} {below : List Frame} {meth : Method} {c : Code} {G : GG} {ρ : Nat → Nat} {h0 hE hB : PH} {Q : State → Prop} {x0 : Int32} {x2 : Int32} {x3 : Int32} (C : Cx G "PairSymbolsModel" cX10_ends 5 (some .int) "ends" p s m args meth c) {x1 : Int32} {x4 : Int32} {h : PH} {H : Heap} {locs : List Loc} {cells slots : Nat} {ls : Array Slot} {r : (Int32 × Int32) ⊕ (Int32)} (hf : (fX10_ends_b29 x0 x2 x3 x1 x4).1 h = some (r, hB)) (hX : Ext hB hE) (hW : Wd G ρ h0.length (sl h0) s.heap h H locs cells slots) (hl : lv_has ls 5 [(0, .int x0), (1, .int x1), (2, .int x2), (3, .int x3), (4, .int x4)]) (kc : ∀ y : Int32 × Int32, r = .inl y → ∀ (H : Heap) (locs : List Loc) (c1 s1 : Nat) (ls : Array Slot), Wd G ρ h0.length (sl h0) s.heap hB H locs c1 s1 → lv_has ls 5 [(0, .int x0), (1, .int y.1), (2, .int x2), (3, .int x3), (4, .int y.2)] → W p l e (RM 1 29 h0 hE) s m args below meth c H locs c1 s1 Q (F0 m 29 ls [])) (ke : ∀ z : Int32, r = .inr z → ∀ (H : Heap) (locs : List Loc) (c1 s1 : Nat) (ls : Array Slot), Wd G ρ h0.length (sl h0) s.heap hB H locs c1 s1 → lv_has ls 5 [(0, .int x0), (1, .int z), (2, .int x2)] → W p l e (RM 1 29 h0 hE) s m args below meth c H locs c1 s1 Q (F0 m 62 ls [])) : W p l e (RM 1 29 h0 hE) s m args below meth c H locs cells slots Q (F0 m 29 ls []) := by
  have hx := C.1
  have hb := C.2.1
  unfold fX10_ends_b29 at hf
  refine lv_iload hx hb dX10_ends_29 (lv_at hl 4 rfl) ?_
  refine lv_iload_n hx hb dX10_ends_31 rfl (lv_at hl 3 rfl) ?_
  refine lv_icmp_gt (tgt := 62) hx hb dX10_ends_32 (by decide) (fun c6 => ?_) (fun c6 => ?_)
  · rw [if_pos c6] at hf
    obtain ⟨rfl, rfl⟩ := pp_some hf
    exact ke _ rfl _ _ _ _ _ hW (lv_sub hl [0, 1, 2] rfl)
  · rw [if_neg c6] at hf
    refine lv_iload_n hx hb dX10_ends_35 rfl (lv_at hl 1 rfl) ?_
    refine lv_iload hx hb dX10_ends_36 (lv_at hl 4 rfl) ?_
    refine lv_i2l (v := x4.toInt64) hx hb dX10_ends_38 rfl ?_
    refine lv_iload_n hx hb dX10_ends_39 rfl (lv_at hl 3 rfl) ?_
    refine lv_i2l (v := x3.toInt64) hx hb dX10_ends_40 rfl ?_
    obtain ⟨v7, h7, e7, hf⟩ := pb_some hf
    refine r_calll hW (pext e7) (run_S (As := [.long x4.toInt64, .long x3.toInt64]) (rest := [.int x1]) C hW (metX10_divisor l G ρ e7) ⟨rfl, rfl⟩ kcX10_divisor (tq q_865 rfl) kiX10_divisor knX10_divisor kdX10_divisor ⟨Nat.le_of_ble_eq_true rfl, Nat.le_of_ble_eq_true rfl⟩ hl.1 (Nat.le_of_ble_eq_true rfl) (room_of hW (pext e7) ((pext hf).tr hX)) dX10_ends_41 rfl) (fun H locs c1 s1 hW => ?_)
    refine lv_lconst (v := 1) hx hb dX10_ends_44 (by decide) ?_
    refine W.lcmp hx hb dX10_ends_45 ?_
    refine lv_if_ne (tgt := 53) hx hb dX10_ends_46 (by decide) (fun c8 => ?_) (fun c8 => ?_)
    · rw [if_neg c8] at hf
      refine lv_iconst (v := 0) hx hb dX10_ends_53 (by decide) ?_
      refine lv_iadd hx hb dX10_ends_54 ?_
      refine lv_istore_n (lv' := [(1, .int (x1 + (0 : Int32))), (0, .int x0), (2, .int x2), (3, .int x3), (4, .int x4)]) hx hb dX10_ends_55 rfl hl (by decide) rfl (fun ls hl => ?_)
      refine lv_iinc (v := (x4 + 1)) (lv' := [(4, .int (x4 + 1)), (1, .int (x1 + (0 : Int32))), (0, .int x0), (2, .int x2), (3, .int x3)]) hx hb dX10_ends_56 hl (k := 4) rfl rfl (by decide) rfl (fun ls hl => ?_)
      refine lv_goto (tgt := 29) hx hb dX10_ends_59 (by decide) ?_
      obtain ⟨rfl, rfl⟩ := pp_some hf
      exact kc _ rfl _ _ _ _ _ hW (lv_sub hl [2, 1, 3, 4, 0] rfl)
    · rw [if_pos c8] at hf
      refine lv_iconst (v := 1) hx hb dX10_ends_49 (by decide) ?_
      refine lv_goto (tgt := 54) hx hb dX10_ends_50 (by decide) ?_
      refine lv_iadd hx hb dX10_ends_54 ?_
      refine lv_istore_n (lv' := [(1, .int (x1 + (1 : Int32))), (0, .int x0), (2, .int x2), (3, .int x3), (4, .int x4)]) hx hb dX10_ends_55 rfl hl (by decide) rfl (fun ls hl => ?_)
      refine lv_iinc (v := (x4 + 1)) (lv' := [(4, .int (x4 + 1)), (1, .int (x1 + (1 : Int32))), (0, .int x0), (2, .int x2), (3, .int x3)]) hx hb dX10_ends_56 hl (k := 4) rfl rfl (by decide) rfl (fun ls hl => ?_)
      refine lv_goto (tgt := 29) hx hb dX10_ends_59 (by decide) ?_
      obtain ⟨rfl, rfl⟩ := pp_some hf
      exact kc _ rfl _ _ _ _ _ hW (lv_sub hl [2, 1, 3, 4, 0] rfl)
set_option maxHeartbeats 4000000 in
theorem wX10_ends_L29 {p : Program} {l : Launch} {e : Env} {s : State} {m : MethodId} {args : Array Value} {below : List Frame} {meth : Method} {c : Code} {G : GG} {ρ : Nat → Nat} {h0 hE hB : PH} {Q : State → Prop} {x0 : Int32} {x2 : Int32} {x3 : Int32} (C : Cx G "PairSymbolsModel" cX10_ends 5 (some .int) "ends" p s m args meth c) {z : (Int32)} (n : Nat) : ∀ (x : Int32 × Int32) {h : PH} {H : Heap} {locs : List Loc} {cells slots : Nat} {ls : Array Slot}, (plo (fX10_ends_B29 x0 x2 x3) n x).1 h = some (z, hB) → Ext hB hE → Wd G ρ h0.length (sl h0) s.heap h H locs cells slots → lv_has ls 5 [(0, .int x0), (1, .int x.1), (2, .int x2), (3, .int x3), (4, .int x.2)] → (ke : ∀ (H : Heap) (locs : List Loc) (c1 s1 : Nat) (ls : Array Slot), Wd G ρ h0.length (sl h0) s.heap hB H locs c1 s1 → lv_has ls 5 [(0, .int x0), (1, .int z), (2, .int x2)] → W p l e (RM 1 29 h0 hE) s m args below meth c H locs c1 s1 Q (F0 m 62 ls [])) → W p l e (RM 1 29 h0 hE) s m args below meth c H locs cells slots Q (F0 m 29 ls []) := by
  induction n with
  | zero =>
    intro x h H locs cells slots ls hf
    rw [plo_0] at hf
    exact (pf_no hf).elim
  | succ n ih =>
    intro x h H locs cells slots ls hf hX hW hl ke
    rw [plo_s] at hf
    obtain ⟨r, h1, e1, hf⟩ := pb_some hf
    unfold fX10_ends_B29 at e1
    rw [frI_eq, frI_eq] at e1
    refine wX10_ends_B29 C e1 ((pext hf).tr hX) hW hl (fun y hr H locs c1 s1 ls hW hl => ?_) (fun y hr H locs c1 s1 ls hW hl => ?_)
    · subst hr
      exact ih y hf hX hW hl ke
    · subst hr
      obtain ⟨rfl, rfl⟩ := pp_some hf
      exact ke H locs c1 s1 ls hW hl
set_option maxHeartbeats 4000000 in
set_option maxRecDepth 100000 in
theorem wX10_ends_B4 {p : Program} {l : Launch} {e : Env} {s : State} {m : MethodId} {args : Array Value} {below : List Frame} {meth : Method} {c : Code} {G : GG} {ρ : Nat → Nat} {h0 hE hB : PH} {Q : State → Prop} {x0 : Int32} (C : Cx G "PairSymbolsModel" cX10_ends 5 (some .int) "ends" p s m args meth c) {x1 : Int32} {x2 : Int32} {h : PH} {H : Heap} {locs : List Loc} {cells slots : Nat} {ls : Array Slot} {r : (Int32 × Int32) ⊕ (Int32)} (hf : (fX10_ends_b4 x0 x1 x2).1 h = some (r, hB)) (hX : Ext hB hE) (hW : Wd G ρ h0.length (sl h0) s.heap h H locs cells slots) (hl : lv_has ls 5 [(0, .int x0), (1, .int x1), (2, .int x2)]) (kc : ∀ y : Int32 × Int32, r = .inl y → ∀ (H : Heap) (locs : List Loc) (c1 s1 : Nat) (ls : Array Slot), Wd G ρ h0.length (sl h0) s.heap hB H locs c1 s1 → lv_has ls 5 [(0, .int x0), (1, .int y.1), (2, .int y.2)] → W p l e (RM 1 29 h0 hE) s m args below meth c H locs c1 s1 Q (F0 m 4 ls [])) (ke : ∀ z : Int32, r = .inr z → ∀ (H : Heap) (locs : List Loc) (c1 s1 : Nat) (ls : Array Slot), Wd G ρ h0.length (sl h0) s.heap hB H locs c1 s1 → lv_has ls 5 [(1, .int z)] → W p l e (RM 1 29 h0 hE) s m args below meth c H locs c1 s1 Q (F0 m 68 ls [])) : W p l e (RM 1 29 h0 hE) s m args below meth c H locs cells slots Q (F0 m 4 ls []) := by
  have hx := C.1
  have hb := C.2.1
  unfold fX10_ends_b4 at hf
  refine lv_iload_n hx hb dX10_ends_4 rfl (lv_at hl 2 rfl) ?_
  refine lv_iload_n hx hb dX10_ends_5 rfl (lv_at hl 0 rfl) ?_
  refine lv_icmp_gt (tgt := 68) hx hb dX10_ends_6 (by decide) (fun c1 => ?_) (fun c1 => ?_)
  · rw [if_pos c1] at hf
    obtain ⟨rfl, rfl⟩ := pp_some hf
    exact ke _ rfl _ _ _ _ _ hW (lv_sub hl [1] rfl)
  · rw [if_neg c1] at hf
    refine lv_iload_n hx hb dX10_ends_9 rfl (lv_at hl 0 rfl) ?_
    refine lv_iload_n hx hb dX10_ends_10 rfl (lv_at hl 2 rfl) ?_
    by_cases c2 : x2 = 0
    · rw [if_pos c2] at hf
      exact (pf_no hf).elim
    rw [if_neg c2] at hf
    refine lv_irem hx hb dX10_ends_11 c2 ?_
    refine lv_if_ne (tgt := 62) hx hb dX10_ends_12 (by decide) (fun c3 => ?_) (fun c3 => ?_)
    · rw [if_neg c3] at hf
      refine lv_iinc (v := (x2 + 1)) (lv' := [(2, .int (x2 + 1)), (0, .int x0), (1, .int x1)]) hx hb dX10_ends_62 hl (k := 2) rfl rfl (by decide) rfl (fun ls hl => ?_)
      refine lv_goto (tgt := 4) hx hb dX10_ends_65 (by decide) ?_
      obtain ⟨rfl, rfl⟩ := pp_some hf
      exact kc _ rfl _ _ _ _ _ hW (lv_sub hl [1, 2, 0] rfl)
    · rw [if_pos c3] at hf
      refine lv_iload_n hx hb dX10_ends_15 rfl (lv_at hl 2 rfl) ?_
      refine lv_i2l (v := x2.toInt64) hx hb dX10_ends_16 rfl ?_
      refine lv_iload_n hx hb dX10_ends_17 rfl (lv_at hl 0 rfl) ?_
      refine lv_iload_n hx hb dX10_ends_18 rfl (lv_at hl 2 rfl) ?_
      by_cases c4 : x2 = 0
      · rw [if_pos c4] at hf
        exact (pf_no hf).elim
      rw [if_neg c4] at hf
      refine lv_idiv hx hb dX10_ends_19 c4 ?_
      refine lv_i2l (v := (x0 / x2).toInt64) hx hb dX10_ends_20 rfl ?_
      obtain ⟨v5, h5, e5, hf⟩ := pb_some hf
      refine r_calll hW (pext e5) (run_S (As := [.long x2.toInt64, .long (x0 / x2).toInt64]) (rest := []) C hW (metX10_divisor l G ρ e5) ⟨rfl, rfl⟩ kcX10_divisor (tq q_865 rfl) kiX10_divisor knX10_divisor kdX10_divisor ⟨Nat.le_of_ble_eq_true rfl, Nat.le_of_ble_eq_true rfl⟩ hl.1 (Nat.le_of_ble_eq_true rfl) (room_of hW (pext e5) ((pext hf).tr hX)) dX10_ends_21 rfl) (fun H locs c1 s1 hW => ?_)
      refine lv_l2i (v := v5.toInt32) hx hb dX10_ends_24 rfl ?_
      refine lv_istore_n (lv' := [(3, .int v5.toInt32), (0, .int x0), (1, .int x1), (2, .int x2)]) hx hb dX10_ends_25 rfl hl (by decide) rfl (fun ls hl => ?_)
      refine lv_iconst (v := 1) hx hb dX10_ends_26 (by decide) ?_
      refine lv_istore (lv' := [(4, .int (1 : Int32)), (3, .int v5.toInt32), (0, .int x0), (1, .int x1), (2, .int x2)]) hx hb dX10_ends_27 hl (by decide) rfl (fun ls hl => ?_)
      obtain ⟨z9, h9, e9, hf⟩ := pb_some hf
      refine wX10_ends_L29 C fu _ e9 ((pext hf).tr hX) hW (lv_sub hl [2, 3, 4, 1, 0] rfl) (fun H locs c1 s1 ls hW hl => ?_)
      refine lv_iinc (v := (x2 + 1)) (lv' := [(2, .int (x2 + 1)), (0, .int x0), (1, .int z9)]) hx hb dX10_ends_62 hl (k := 2) rfl rfl (by decide) rfl (fun ls hl => ?_)
      refine lv_goto (tgt := 4) hx hb dX10_ends_65 (by decide) ?_
      obtain ⟨rfl, rfl⟩ := pp_some hf
      exact kc _ rfl _ _ _ _ _ hW (lv_sub hl [1, 2, 0] rfl)
set_option maxHeartbeats 4000000 in
theorem wX10_ends_L4 {p : Program} {l : Launch} {e : Env} {s : State} {m : MethodId} {args : Array Value} {below : List Frame} {meth : Method} {c : Code} {G : GG} {ρ : Nat → Nat} {h0 hE hB : PH} {Q : State → Prop} {x0 : Int32} (C : Cx G "PairSymbolsModel" cX10_ends 5 (some .int) "ends" p s m args meth c) {z : (Int32)} (n : Nat) : ∀ (x : Int32 × Int32) {h : PH} {H : Heap} {locs : List Loc} {cells slots : Nat} {ls : Array Slot}, (plo (fX10_ends_B4 x0) n x).1 h = some (z, hB) → Ext hB hE → Wd G ρ h0.length (sl h0) s.heap h H locs cells slots → lv_has ls 5 [(0, .int x0), (1, .int x.1), (2, .int x.2)] → (ke : ∀ (H : Heap) (locs : List Loc) (c1 s1 : Nat) (ls : Array Slot), Wd G ρ h0.length (sl h0) s.heap hB H locs c1 s1 → lv_has ls 5 [(1, .int z)] → W p l e (RM 1 29 h0 hE) s m args below meth c H locs c1 s1 Q (F0 m 68 ls [])) → W p l e (RM 1 29 h0 hE) s m args below meth c H locs cells slots Q (F0 m 4 ls []) := by
  induction n with
  | zero =>
    intro x h H locs cells slots ls hf
    rw [plo_0] at hf
    exact (pf_no hf).elim
  | succ n ih =>
    intro x h H locs cells slots ls hf hX hW hl ke
    rw [plo_s] at hf
    obtain ⟨r, h1, e1, hf⟩ := pb_some hf
    unfold fX10_ends_B4 at e1
    rw [frI_eq, frI_eq] at e1
    refine wX10_ends_B4 C e1 ((pext hf).tr hX) hW hl (fun y hr H locs c1 s1 ls hW hl => ?_) (fun y hr H locs c1 s1 ls hW hl => ?_)
    · subst hr
      exact ih y hf hX hW hl ke
    · subst hr
      obtain ⟨rfl, rfl⟩ := pp_some hf
      exact ke H locs c1 s1 ls hW hl
set_option maxHeartbeats 4000000 in
set_option maxRecDepth 100000 in
theorem metX10_ends (l : Launch) (G : GG) (ρ : Nat → Nat) {z : Nat} {x0 : Int32} {h hE : PH} {v : Int32} (hf : (fX10_ends x0).1 h = some (v, hE)) : Met l yX10_ends (wsY yX10_ends cX10_ends 5 (some .int)) (RM 1 29 h hE) (va_Pc [.int x0] (PcB G ρ h z)) (QI G ρ v hE h.length z) (DC h hE) (DS h hE) (Af ρ h.length z) := by
  refine met_start (by decide) (Nat.le_of_ble_eq_true rfl) ?_
  intro p e s m below meth c ls hz C hW hl
  subst hz
  have C : Cx G "PairSymbolsModel" cX10_ends 5 (some .int) "ends" p s m _ meth c := C
  have hx := C.1
  have hb := C.2.1
  have hX : Ext hE hE := Ext.rf hE
  have hl : lv_has ls 5 [(0, .int x0)] := hl
  have hW : Wd G ρ h.length (sl h) s.heap h s.heap [] 0 0 := hW
  unfold fX10_ends at hf
  refine lv_iconst (v := 0) hx hb dX10_ends_0 (by decide) ?_
  refine lv_istore_n (lv' := [(1, .int (0 : Int32)), (0, .int x0)]) hx hb dX10_ends_1 rfl hl (by decide) rfl (fun ls hl => ?_)
  refine lv_iconst (v := 1) hx hb dX10_ends_2 (by decide) ?_
  refine lv_istore_n (lv' := [(2, .int (1 : Int32)), (1, .int (0 : Int32)), (0, .int x0)]) hx hb dX10_ends_3 rfl hl (by decide) rfl (fun ls hl => ?_)
  obtain ⟨z10, h10, e10, hf⟩ := pb_some hf
  refine wX10_ends_L4 C fu _ e10 ((pext hf).tr hX) hW (lv_sub hl [2, 1, 0] rfl) (fun H locs c1 s1 ls hW hl => ?_)
  refine lv_iload_n hx hb dX10_ends_68 rfl (lv_at hl 0 rfl) ?_
  obtain ⟨rfl, rfl⟩ := pp_some hf
  exact r_iret C hW dX10_ends_69

theorem dX10_forms_0 : decode cX10_forms 0 = .ok (.iload_n 0, 1) := by decide +kernel
theorem dX10_forms_1 : decode cX10_forms 1 = .ok (.iconst 4, 1) := by decide +kernel
theorem dX10_forms_2 : decode cX10_forms 2 = .ok (.irem, 1) := by decide +kernel
theorem dX10_forms_3 : decode cX10_forms 3 = .ok (.ifCond .ne 7, 3) := by decide +kernel
theorem dX10_forms_6 : decode cX10_forms 6 = .ok (.iconst 0, 1) := by decide +kernel
theorem dX10_forms_7 : decode cX10_forms 7 = .ok (.goto 9, 3) := by decide +kernel
theorem dX10_forms_10 : decode cX10_forms 10 = .ok (.iload_n 0, 1) := by decide +kernel
theorem dX10_forms_11 : decode cX10_forms 11 = .ok (.iconst 2, 1) := by decide +kernel
theorem dX10_forms_12 : decode cX10_forms 12 = .ok (.iconst 4, 1) := by decide +kernel
theorem dX10_forms_13 : decode cX10_forms 13 = .ok (.invokestatic 333, 3) := by decide +kernel
theorem dX10_forms_16 : decode cX10_forms 16 = .ok (.istore_n 1, 1) := by decide +kernel
theorem dX10_forms_17 : decode cX10_forms 17 = .ok (.iload_n 0, 1) := by decide +kernel
theorem dX10_forms_18 : decode cX10_forms 18 = .ok (.bipush 9, 2) := by decide +kernel
theorem dX10_forms_20 : decode cX10_forms 20 = .ok (.irem, 1) := by decide +kernel
theorem dX10_forms_21 : decode cX10_forms 21 = .ok (.ifCond .ne 7, 3) := by decide +kernel
theorem dX10_forms_24 : decode cX10_forms 24 = .ok (.iconst 0, 1) := by decide +kernel
theorem dX10_forms_25 : decode cX10_forms 25 = .ok (.goto 9, 3) := by decide +kernel
theorem dX10_forms_28 : decode cX10_forms 28 = .ok (.iload_n 0, 1) := by decide +kernel
theorem dX10_forms_29 : decode cX10_forms 29 = .ok (.iconst 3, 1) := by decide +kernel
theorem dX10_forms_30 : decode cX10_forms 30 = .ok (.iconst 3, 1) := by decide +kernel
theorem dX10_forms_31 : decode cX10_forms 31 = .ok (.invokestatic 333, 3) := by decide +kernel
theorem dX10_forms_34 : decode cX10_forms 34 = .ok (.istore_n 2, 1) := by decide +kernel
theorem dX10_forms_35 : decode cX10_forms 35 = .ok (.iconst 1, 1) := by decide +kernel
theorem dX10_forms_36 : decode cX10_forms 36 = .ok (.iload_n 0, 1) := by decide +kernel
theorem dX10_forms_37 : decode cX10_forms 37 = .ok (.invokestatic 337, 3) := by decide +kernel
theorem dX10_forms_40 : decode cX10_forms 40 = .ok (.iconst 3, 1) := by decide +kernel
theorem dX10_forms_41 : decode cX10_forms 41 = .ok (.iload_n 1, 1) := by decide +kernel
theorem dX10_forms_42 : decode cX10_forms 42 = .ok (.imul, 1) := by decide +kernel
theorem dX10_forms_43 : decode cX10_forms 43 = .ok (.isub, 1) := by decide +kernel
theorem dX10_forms_44 : decode cX10_forms 44 = .ok (.iconst 4, 1) := by decide +kernel
theorem dX10_forms_45 : decode cX10_forms 45 = .ok (.iload_n 2, 1) := by decide +kernel
theorem dX10_forms_46 : decode cX10_forms 46 = .ok (.imul, 1) := by decide +kernel
theorem dX10_forms_47 : decode cX10_forms 47 = .ok (.isub, 1) := by decide +kernel
theorem dX10_forms_48 : decode cX10_forms 48 = .ok (.bipush 6, 2) := by decide +kernel
theorem dX10_forms_50 : decode cX10_forms 50 = .ok (.iload_n 0, 1) := by decide +kernel
theorem dX10_forms_51 : decode cX10_forms 51 = .ok (.invokestatic 340, 3) := by decide +kernel
theorem dX10_forms_54 : decode cX10_forms 54 = .ok (.imul, 1) := by decide +kernel
theorem dX10_forms_55 : decode cX10_forms 55 = .ok (.isub, 1) := by decide +kernel
theorem dX10_forms_56 : decode cX10_forms 56 = .ok (.bipush 12, 2) := by decide +kernel
theorem dX10_forms_58 : decode cX10_forms 58 = .ok (.idiv, 1) := by decide +kernel
theorem dX10_forms_59 : decode cX10_forms 59 = .ok (.iadd, 1) := by decide +kernel
theorem dX10_forms_60 : decode cX10_forms 60 = .ok (.ireturn, 1) := by decide +kernel
theorem kcX10_forms : Cond.code yX10_forms cX10_forms 3 (some .int) ∈ tb := tq q_1085 rfl
theorem knX10_forms : Cond.initialized yX10_forms.cls ∈ tb := (tq q_10 rfl)
theorem kdX10_forms : yX10_forms.cls ≠ "java/lang/invoke/MethodHandle" ∧ yX10_forms.cls ≠ "java/lang/invoke/VarHandle" ∧ (parseMethodDescriptor yX10_forms.desc).map (fun d => d.parameters.length) = some 1 := ⟨by decide +kernel, by decide +kernel, by decide +kernel⟩
theorem kiX10_forms : Cond.static yX10_forms ∈ tb := (tq q_1084 rfl)
set_option maxHeartbeats 4000000 in
set_option maxRecDepth 100000 in
theorem metX10_forms (l : Launch) (G : GG) (ρ : Nat → Nat) {z : Nat} {x0 : Int32} {h hE : PH} {v : Int32} (hf : (fX10_forms x0).1 h = some (v, hE)) : Met l yX10_forms (wsY yX10_forms cX10_forms 3 (some .int)) (RM 2 53 h hE) (va_Pc [.int x0] (PcB G ρ h z)) (QI G ρ v hE h.length z) (DC h hE) (DS h hE) (Af ρ h.length z) := by
  refine met_start (by decide) (Nat.le_of_ble_eq_true rfl) ?_
  intro p e s m below meth c ls hz C hW hl
  subst hz
  have C : Cx G "PairSymbolsModel" cX10_forms 3 (some .int) "forms" p s m _ meth c := C
  have hx := C.1
  have hb := C.2.1
  have hX : Ext hE hE := Ext.rf hE
  have hl : lv_has ls 3 [(0, .int x0)] := hl
  have hW : Wd G ρ h.length (sl h) s.heap h s.heap [] 0 0 := hW
  unfold fX10_forms at hf
  refine lv_iload_n hx hb dX10_forms_0 rfl (lv_at hl 0 rfl) ?_
  refine lv_iconst (v := 4) hx hb dX10_forms_1 (by decide) ?_
  refine lv_irem hx hb dX10_forms_2 (by decide) ?_
  refine lv_if_ne (tgt := 10) hx hb dX10_forms_3 (by decide) (fun c1 => ?_) (fun c1 => ?_)
  · rw [if_neg c1] at hf
    refine lv_iload_n hx hb dX10_forms_10 rfl (lv_at hl 0 rfl) ?_
    refine lv_iconst (v := 2) hx hb dX10_forms_11 (by decide) ?_
    refine lv_iconst (v := 4) hx hb dX10_forms_12 (by decide) ?_
    obtain ⟨v2, h2, e2, hf⟩ := pb_some hf
    refine r_calli hW (pext e2) (run_S (As := [.int x0, .int (2 : Int32), .int (4 : Int32)]) (rest := []) C hW (metX10_product l G ρ e2) ⟨rfl, rfl⟩ kcX10_product (tq q_1077 rfl) kiX10_product knX10_product kdX10_product ⟨Nat.le_of_ble_eq_true rfl, Nat.le_of_ble_eq_true rfl⟩ hl.1 (Nat.le_of_ble_eq_true rfl) (room_of hW (pext e2) ((pext hf).tr hX)) dX10_forms_13 rfl) (fun H locs c1 s1 hW => ?_)
    refine lv_istore_n (lv' := [(1, .int v2), (0, .int x0)]) hx hb dX10_forms_16 rfl hl (by decide) rfl (fun ls hl => ?_)
    refine lv_iload_n hx hb dX10_forms_17 rfl (lv_at hl 1 rfl) ?_
    refine lv_bipush (v := 9) hx hb dX10_forms_18 (by decide) ?_
    refine lv_irem hx hb dX10_forms_20 (by decide) ?_
    refine lv_if_ne (tgt := 28) hx hb dX10_forms_21 (by decide) (fun c3 => ?_) (fun c3 => ?_)
    · rw [if_neg c3] at hf
      refine lv_iload_n hx hb dX10_forms_28 rfl (lv_at hl 1 rfl) ?_
      refine lv_iconst (v := 3) hx hb dX10_forms_29 (by decide) ?_
      refine lv_iconst (v := 3) hx hb dX10_forms_30 (by decide) ?_
      obtain ⟨v4, h4, e4, hf⟩ := pb_some hf
      refine r_calli hW (pext e4) (run_S (As := [.int x0, .int (3 : Int32), .int (3 : Int32)]) (rest := []) C hW (metX10_product l G ρ e4) ⟨rfl, rfl⟩ kcX10_product (tq q_1077 rfl) kiX10_product knX10_product kdX10_product ⟨Nat.le_of_ble_eq_true rfl, Nat.le_of_ble_eq_true rfl⟩ hl.1 (Nat.le_of_ble_eq_true rfl) (room_of hW (pext e4) ((pext hf).tr hX)) dX10_forms_31 rfl) (fun H locs c1 s1 hW => ?_)
      refine lv_istore_n (lv' := [(2, .int v4), (1, .int v2), (0, .int x0)]) hx hb dX10_forms_34 rfl hl (by decide) rfl (fun ls hl => ?_)
      refine lv_iconst (v := 1) hx hb dX10_forms_35 (by decide) ?_
      refine lv_iload_n hx hb dX10_forms_36 rfl (lv_at hl 2 rfl) ?_
      obtain ⟨v5, h5, e5, hf⟩ := pb_some hf
      refine r_calli hW (pext e5) (run_S (As := [.int x0]) (rest := [.int (1 : Int32)]) C hW (metX10_index l G ρ e5) ⟨rfl, rfl⟩ kcX10_index (tq q_1071 rfl) kiX10_index knX10_index kdX10_index ⟨Nat.le_of_ble_eq_true rfl, Nat.le_of_ble_eq_true rfl⟩ hl.1 (Nat.le_of_ble_eq_true rfl) (room_of hW (pext e5) ((pext hf).tr hX)) dX10_forms_37 rfl) (fun H locs c1 s1 hW => ?_)
      refine lv_iconst (v := 3) hx hb dX10_forms_40 (by decide) ?_
      refine lv_iload_n hx hb dX10_forms_41 rfl (lv_at hl 1 rfl) ?_
      refine lv_imul hx hb dX10_forms_42 ?_
      refine lv_isub hx hb dX10_forms_43 ?_
      refine lv_iconst (v := 4) hx hb dX10_forms_44 (by decide) ?_
      refine lv_iload_n hx hb dX10_forms_45 rfl (lv_at hl 0 rfl) ?_
      refine lv_imul hx hb dX10_forms_46 ?_
      refine lv_isub hx hb dX10_forms_47 ?_
      refine lv_bipush (v := 6) hx hb dX10_forms_48 (by decide) ?_
      refine lv_iload_n hx hb dX10_forms_50 rfl (lv_at hl 2 rfl) ?_
      obtain ⟨v6, h6, e6, hf⟩ := pb_some hf
      refine r_calli hW (pext e6) (run_S (As := [.int x0]) (rest := [.int (6 : Int32), .int ((v5 - ((3 : Int32) * v2)) - ((4 : Int32) * v4)), .int (1 : Int32)]) C hW (metX10_ends l G ρ e6) ⟨rfl, rfl⟩ kcX10_ends (tq q_1080 rfl) kiX10_ends knX10_ends kdX10_ends ⟨Nat.le_of_ble_eq_true rfl, Nat.le_of_ble_eq_true rfl⟩ hl.1 (Nat.le_of_ble_eq_true rfl) (room_of hW (pext e6) ((pext hf).tr hX)) dX10_forms_51 rfl) (fun H locs c1 s1 hW => ?_)
      refine lv_imul hx hb dX10_forms_54 ?_
      refine lv_isub hx hb dX10_forms_55 ?_
      refine lv_bipush (v := 12) hx hb dX10_forms_56 (by decide) ?_
      refine lv_idiv hx hb dX10_forms_58 (by decide) ?_
      refine lv_iadd hx hb dX10_forms_59 ?_
      obtain ⟨rfl, rfl⟩ := pp_some hf
      exact r_iret C hW dX10_forms_60
    · rw [if_pos c3] at hf
      refine lv_iconst (v := 0) hx hb dX10_forms_24 (by decide) ?_
      refine lv_goto (tgt := 34) hx hb dX10_forms_25 (by decide) ?_
      refine lv_istore_n (lv' := [(2, .int (0 : Int32)), (1, .int v2), (0, .int x0)]) hx hb dX10_forms_34 rfl hl (by decide) rfl (fun ls hl => ?_)
      refine lv_iconst (v := 1) hx hb dX10_forms_35 (by decide) ?_
      refine lv_iload_n hx hb dX10_forms_36 rfl (lv_at hl 2 rfl) ?_
      obtain ⟨v7, h7, e7, hf⟩ := pb_some hf
      refine r_calli hW (pext e7) (run_S (As := [.int x0]) (rest := [.int (1 : Int32)]) C hW (metX10_index l G ρ e7) ⟨rfl, rfl⟩ kcX10_index (tq q_1071 rfl) kiX10_index knX10_index kdX10_index ⟨Nat.le_of_ble_eq_true rfl, Nat.le_of_ble_eq_true rfl⟩ hl.1 (Nat.le_of_ble_eq_true rfl) (room_of hW (pext e7) ((pext hf).tr hX)) dX10_forms_37 rfl) (fun H locs c1 s1 hW => ?_)
      refine lv_iconst (v := 3) hx hb dX10_forms_40 (by decide) ?_
      refine lv_iload_n hx hb dX10_forms_41 rfl (lv_at hl 1 rfl) ?_
      refine lv_imul hx hb dX10_forms_42 ?_
      refine lv_isub hx hb dX10_forms_43 ?_
      refine lv_iconst (v := 4) hx hb dX10_forms_44 (by decide) ?_
      refine lv_iload_n hx hb dX10_forms_45 rfl (lv_at hl 0 rfl) ?_
      refine lv_imul hx hb dX10_forms_46 ?_
      refine lv_isub hx hb dX10_forms_47 ?_
      refine lv_bipush (v := 6) hx hb dX10_forms_48 (by decide) ?_
      refine lv_iload_n hx hb dX10_forms_50 rfl (lv_at hl 2 rfl) ?_
      obtain ⟨v8, h8, e8, hf⟩ := pb_some hf
      refine r_calli hW (pext e8) (run_S (As := [.int x0]) (rest := [.int (6 : Int32), .int ((v7 - ((3 : Int32) * v2)) - ((4 : Int32) * (0 : Int32))), .int (1 : Int32)]) C hW (metX10_ends l G ρ e8) ⟨rfl, rfl⟩ kcX10_ends (tq q_1080 rfl) kiX10_ends knX10_ends kdX10_ends ⟨Nat.le_of_ble_eq_true rfl, Nat.le_of_ble_eq_true rfl⟩ hl.1 (Nat.le_of_ble_eq_true rfl) (room_of hW (pext e8) ((pext hf).tr hX)) dX10_forms_51 rfl) (fun H locs c1 s1 hW => ?_)
      refine lv_imul hx hb dX10_forms_54 ?_
      refine lv_isub hx hb dX10_forms_55 ?_
      refine lv_bipush (v := 12) hx hb dX10_forms_56 (by decide) ?_
      refine lv_idiv hx hb dX10_forms_58 (by decide) ?_
      refine lv_iadd hx hb dX10_forms_59 ?_
      obtain ⟨rfl, rfl⟩ := pp_some hf
      exact r_iret C hW dX10_forms_60
  · rw [if_pos c1] at hf
    refine lv_iconst (v := 0) hx hb dX10_forms_6 (by decide) ?_
    refine lv_goto (tgt := 16) hx hb dX10_forms_7 (by decide) ?_
    refine lv_istore_n (lv' := [(1, .int (0 : Int32)), (0, .int x0)]) hx hb dX10_forms_16 rfl hl (by decide) rfl (fun ls hl => ?_)
    refine lv_iload_n hx hb dX10_forms_17 rfl (lv_at hl 1 rfl) ?_
    refine lv_bipush (v := 9) hx hb dX10_forms_18 (by decide) ?_
    refine lv_irem hx hb dX10_forms_20 (by decide) ?_
    refine lv_if_ne (tgt := 28) hx hb dX10_forms_21 (by decide) (fun c9 => ?_) (fun c9 => ?_)
    · rw [if_neg c9] at hf
      refine lv_iload_n hx hb dX10_forms_28 rfl (lv_at hl 1 rfl) ?_
      refine lv_iconst (v := 3) hx hb dX10_forms_29 (by decide) ?_
      refine lv_iconst (v := 3) hx hb dX10_forms_30 (by decide) ?_
      obtain ⟨v10, h10, e10, hf⟩ := pb_some hf
      refine r_calli hW (pext e10) (run_S (As := [.int x0, .int (3 : Int32), .int (3 : Int32)]) (rest := []) C hW (metX10_product l G ρ e10) ⟨rfl, rfl⟩ kcX10_product (tq q_1077 rfl) kiX10_product knX10_product kdX10_product ⟨Nat.le_of_ble_eq_true rfl, Nat.le_of_ble_eq_true rfl⟩ hl.1 (Nat.le_of_ble_eq_true rfl) (room_of hW (pext e10) ((pext hf).tr hX)) dX10_forms_31 rfl) (fun H locs c1 s1 hW => ?_)
      refine lv_istore_n (lv' := [(2, .int v10), (1, .int (0 : Int32)), (0, .int x0)]) hx hb dX10_forms_34 rfl hl (by decide) rfl (fun ls hl => ?_)
      refine lv_iconst (v := 1) hx hb dX10_forms_35 (by decide) ?_
      refine lv_iload_n hx hb dX10_forms_36 rfl (lv_at hl 2 rfl) ?_
      obtain ⟨v11, h11, e11, hf⟩ := pb_some hf
      refine r_calli hW (pext e11) (run_S (As := [.int x0]) (rest := [.int (1 : Int32)]) C hW (metX10_index l G ρ e11) ⟨rfl, rfl⟩ kcX10_index (tq q_1071 rfl) kiX10_index knX10_index kdX10_index ⟨Nat.le_of_ble_eq_true rfl, Nat.le_of_ble_eq_true rfl⟩ hl.1 (Nat.le_of_ble_eq_true rfl) (room_of hW (pext e11) ((pext hf).tr hX)) dX10_forms_37 rfl) (fun H locs c1 s1 hW => ?_)
      refine lv_iconst (v := 3) hx hb dX10_forms_40 (by decide) ?_
      refine lv_iload_n hx hb dX10_forms_41 rfl (lv_at hl 1 rfl) ?_
      refine lv_imul hx hb dX10_forms_42 ?_
      refine lv_isub hx hb dX10_forms_43 ?_
      refine lv_iconst (v := 4) hx hb dX10_forms_44 (by decide) ?_
      refine lv_iload_n hx hb dX10_forms_45 rfl (lv_at hl 0 rfl) ?_
      refine lv_imul hx hb dX10_forms_46 ?_
      refine lv_isub hx hb dX10_forms_47 ?_
      refine lv_bipush (v := 6) hx hb dX10_forms_48 (by decide) ?_
      refine lv_iload_n hx hb dX10_forms_50 rfl (lv_at hl 2 rfl) ?_
      obtain ⟨v12, h12, e12, hf⟩ := pb_some hf
      refine r_calli hW (pext e12) (run_S (As := [.int x0]) (rest := [.int (6 : Int32), .int ((v11 - ((3 : Int32) * (0 : Int32))) - ((4 : Int32) * v10)), .int (1 : Int32)]) C hW (metX10_ends l G ρ e12) ⟨rfl, rfl⟩ kcX10_ends (tq q_1080 rfl) kiX10_ends knX10_ends kdX10_ends ⟨Nat.le_of_ble_eq_true rfl, Nat.le_of_ble_eq_true rfl⟩ hl.1 (Nat.le_of_ble_eq_true rfl) (room_of hW (pext e12) ((pext hf).tr hX)) dX10_forms_51 rfl) (fun H locs c1 s1 hW => ?_)
      refine lv_imul hx hb dX10_forms_54 ?_
      refine lv_isub hx hb dX10_forms_55 ?_
      refine lv_bipush (v := 12) hx hb dX10_forms_56 (by decide) ?_
      refine lv_idiv hx hb dX10_forms_58 (by decide) ?_
      refine lv_iadd hx hb dX10_forms_59 ?_
      obtain ⟨rfl, rfl⟩ := pp_some hf
      exact r_iret C hW dX10_forms_60
    · rw [if_pos c9] at hf
      refine lv_iconst (v := 0) hx hb dX10_forms_24 (by decide) ?_
      refine lv_goto (tgt := 34) hx hb dX10_forms_25 (by decide) ?_
      refine lv_istore_n (lv' := [(2, .int (0 : Int32)), (1, .int (0 : Int32)), (0, .int x0)]) hx hb dX10_forms_34 rfl hl (by decide) rfl (fun ls hl => ?_)
      refine lv_iconst (v := 1) hx hb dX10_forms_35 (by decide) ?_
      refine lv_iload_n hx hb dX10_forms_36 rfl (lv_at hl 2 rfl) ?_
      obtain ⟨v13, h13, e13, hf⟩ := pb_some hf
      refine r_calli hW (pext e13) (run_S (As := [.int x0]) (rest := [.int (1 : Int32)]) C hW (metX10_index l G ρ e13) ⟨rfl, rfl⟩ kcX10_index (tq q_1071 rfl) kiX10_index knX10_index kdX10_index ⟨Nat.le_of_ble_eq_true rfl, Nat.le_of_ble_eq_true rfl⟩ hl.1 (Nat.le_of_ble_eq_true rfl) (room_of hW (pext e13) ((pext hf).tr hX)) dX10_forms_37 rfl) (fun H locs c1 s1 hW => ?_)
      refine lv_iconst (v := 3) hx hb dX10_forms_40 (by decide) ?_
      refine lv_iload_n hx hb dX10_forms_41 rfl (lv_at hl 1 rfl) ?_
      refine lv_imul hx hb dX10_forms_42 ?_
      refine lv_isub hx hb dX10_forms_43 ?_
      refine lv_iconst (v := 4) hx hb dX10_forms_44 (by decide) ?_
      refine lv_iload_n hx hb dX10_forms_45 rfl (lv_at hl 0 rfl) ?_
      refine lv_imul hx hb dX10_forms_46 ?_
      refine lv_isub hx hb dX10_forms_47 ?_
      refine lv_bipush (v := 6) hx hb dX10_forms_48 (by decide) ?_
      refine lv_iload_n hx hb dX10_forms_50 rfl (lv_at hl 2 rfl) ?_
      obtain ⟨v14, h14, e14, hf⟩ := pb_some hf
      refine r_calli hW (pext e14) (run_S (As := [.int x0]) (rest := [.int (6 : Int32), .int ((v13 - ((3 : Int32) * (0 : Int32))) - ((4 : Int32) * (0 : Int32))), .int (1 : Int32)]) C hW (metX10_ends l G ρ e14) ⟨rfl, rfl⟩ kcX10_ends (tq q_1080 rfl) kiX10_ends knX10_ends kdX10_ends ⟨Nat.le_of_ble_eq_true rfl, Nat.le_of_ble_eq_true rfl⟩ hl.1 (Nat.le_of_ble_eq_true rfl) (room_of hW (pext e14) ((pext hf).tr hX)) dX10_forms_51 rfl) (fun H locs c1 s1 hW => ?_)
      refine lv_imul hx hb dX10_forms_54 ?_
      refine lv_isub hx hb dX10_forms_55 ?_
      refine lv_bipush (v := 12) hx hb dX10_forms_56 (by decide) ?_
      refine lv_idiv hx hb dX10_forms_58 (by decide) ?_
      refine lv_iadd hx hb dX10_forms_59 ?_
      obtain ⟨rfl, rfl⟩ := pp_some hf
      exact r_iret C hW dX10_forms_60

theorem dX10_freshOf_0 : decode cX10_freshOf 0 = .ok (.iconst 1, 1) := by decide +kernel
theorem dX10_freshOf_1 : decode cX10_freshOf 1 = .ok (.istore_n 2, 1) := by decide +kernel
theorem dX10_freshOf_2 : decode cX10_freshOf 2 = .ok (.iload_n 2, 1) := by decide +kernel
theorem dX10_freshOf_3 : decode cX10_freshOf 3 = .ok (.iload_n 1, 1) := by decide +kernel
theorem dX10_freshOf_4 : decode cX10_freshOf 4 = .ok (.if_icmp .gt 95, 3) := by decide +kernel
theorem dX10_freshOf_7 : decode cX10_freshOf 7 = .ok (.aload_n 0, 1) := by decide +kernel
theorem dX10_freshOf_8 : decode cX10_freshOf 8 = .ok (.getfield 108, 3) := by decide +kernel
theorem dX10_freshOf_11 : decode cX10_freshOf 11 = .ok (.iload_n 2, 1) := by decide +kernel
theorem dX10_freshOf_12 : decode cX10_freshOf 12 = .ok (.iload_n 2, 1) := by decide +kernel
theorem dX10_freshOf_13 : decode cX10_freshOf 13 = .ok (.invokestatic 343, 3) := by decide +kernel
theorem dX10_freshOf_16 : decode cX10_freshOf 16 = .ok (.iastore, 1) := by decide +kernel
theorem dX10_freshOf_17 : decode cX10_freshOf 17 = .ok (.iconst 1, 1) := by decide +kernel
theorem dX10_freshOf_18 : decode cX10_freshOf 18 = .ok (.istore_n 3, 1) := by decide +kernel
theorem dX10_freshOf_19 : decode cX10_freshOf 19 = .ok (.iload_n 3, 1) := by decide +kernel
theorem dX10_freshOf_20 : decode cX10_freshOf 20 = .ok (.iload_n 2, 1) := by decide +kernel
theorem dX10_freshOf_21 : decode cX10_freshOf 21 = .ok (.if_icmp .ge 72, 3) := by decide +kernel
theorem dX10_freshOf_24 : decode cX10_freshOf 24 = .ok (.iconst 0, 1) := by decide +kernel
theorem dX10_freshOf_25 : decode cX10_freshOf 25 = .ok (.istore 4, 2) := by decide +kernel
theorem dX10_freshOf_27 : decode cX10_freshOf 27 = .ok (.iconst 1, 1) := by decide +kernel
theorem dX10_freshOf_28 : decode cX10_freshOf 28 = .ok (.istore 5, 2) := by decide +kernel
theorem dX10_freshOf_30 : decode cX10_freshOf 30 = .ok (.iload 5, 2) := by decide +kernel
theorem dX10_freshOf_32 : decode cX10_freshOf 32 = .ok (.iload_n 2, 1) := by decide +kernel
theorem dX10_freshOf_33 : decode cX10_freshOf 33 = .ok (.iload_n 3, 1) := by decide +kernel
theorem dX10_freshOf_34 : decode cX10_freshOf 34 = .ok (.idiv, 1) := by decide +kernel
theorem dX10_freshOf_35 : decode cX10_freshOf 35 = .ok (.if_icmp .gt 34, 3) := by decide +kernel
theorem dX10_freshOf_38 : decode cX10_freshOf 38 = .ok (.iload_n 2, 1) := by decide +kernel
theorem dX10_freshOf_39 : decode cX10_freshOf 39 = .ok (.iload_n 3, 1) := by decide +kernel
theorem dX10_freshOf_40 : decode cX10_freshOf 40 = .ok (.irem, 1) := by decide +kernel
theorem dX10_freshOf_41 : decode cX10_freshOf 41 = .ok (.ifCond .ne 28, 3) := by decide +kernel
theorem dX10_freshOf_44 : decode cX10_freshOf 44 = .ok (.iload 4, 2) := by decide +kernel
theorem dX10_freshOf_46 : decode cX10_freshOf 46 = .ok (.iload_n 2, 1) := by decide +kernel
theorem dX10_freshOf_47 : decode cX10_freshOf 47 = .ok (.iload_n 3, 1) := by decide +kernel
theorem dX10_freshOf_48 : decode cX10_freshOf 48 = .ok (.idiv, 1) := by decide +kernel
theorem dX10_freshOf_49 : decode cX10_freshOf 49 = .ok (.iload 5, 2) := by decide +kernel
theorem dX10_freshOf_51 : decode cX10_freshOf 51 = .ok (.irem, 1) := by decide +kernel
theorem dX10_freshOf_52 : decode cX10_freshOf 52 = .ok (.ifCond .ne 7, 3) := by decide +kernel
theorem dX10_freshOf_55 : decode cX10_freshOf 55 = .ok (.iconst 1, 1) := by decide +kernel
theorem dX10_freshOf_56 : decode cX10_freshOf 56 = .ok (.goto 4, 3) := by decide +kernel
theorem dX10_freshOf_59 : decode cX10_freshOf 59 = .ok (.iconst 0, 1) := by decide +kernel
theorem dX10_freshOf_60 : decode cX10_freshOf 60 = .ok (.iadd, 1) := by decide +kernel
theorem dX10_freshOf_61 : decode cX10_freshOf 61 = .ok (.istore 4, 2) := by decide +kernel
theorem dX10_freshOf_63 : decode cX10_freshOf 63 = .ok (.iinc 5 1, 3) := by decide +kernel
theorem dX10_freshOf_66 : decode cX10_freshOf 66 = .ok (.goto (-36), 3) := by decide +kernel
theorem dX10_freshOf_69 : decode cX10_freshOf 69 = .ok (.aload_n 0, 1) := by decide +kernel
theorem dX10_freshOf_70 : decode cX10_freshOf 70 = .ok (.getfield 108, 3) := by decide +kernel
theorem dX10_freshOf_73 : decode cX10_freshOf 73 = .ok (.iload_n 2, 1) := by decide +kernel
theorem dX10_freshOf_74 : decode cX10_freshOf 74 = .ok (.dup2, 1) := by decide +kernel
theorem dX10_freshOf_75 : decode cX10_freshOf 75 = .ok (.iaload, 1) := by decide +kernel
theorem dX10_freshOf_76 : decode cX10_freshOf 76 = .ok (.aload_n 0, 1) := by decide +kernel
theorem dX10_freshOf_77 : decode cX10_freshOf 77 = .ok (.getfield 108, 3) := by decide +kernel
theorem dX10_freshOf_80 : decode cX10_freshOf 80 = .ok (.iload_n 3, 1) := by decide +kernel
theorem dX10_freshOf_81 : decode cX10_freshOf 81 = .ok (.iaload, 1) := by decide +kernel
theorem dX10_freshOf_82 : decode cX10_freshOf 82 = .ok (.iload 4, 2) := by decide +kernel
theorem dX10_freshOf_84 : decode cX10_freshOf 84 = .ok (.imul, 1) := by decide +kernel
theorem dX10_freshOf_85 : decode cX10_freshOf 85 = .ok (.isub, 1) := by decide +kernel
theorem dX10_freshOf_86 : decode cX10_freshOf 86 = .ok (.iastore, 1) := by decide +kernel
theorem dX10_freshOf_87 : decode cX10_freshOf 87 = .ok (.iinc 3 1, 3) := by decide +kernel
theorem dX10_freshOf_90 : decode cX10_freshOf 90 = .ok (.goto (-71), 3) := by decide +kernel
theorem dX10_freshOf_93 : decode cX10_freshOf 93 = .ok (.iinc 2 1, 3) := by decide +kernel
theorem dX10_freshOf_96 : decode cX10_freshOf 96 = .ok (.goto (-94), 3) := by decide +kernel
theorem dX10_freshOf_99 : decode cX10_freshOf 99 = .ok (.aload_n 0, 1) := by decide +kernel
theorem dX10_freshOf_100 : decode cX10_freshOf 100 = .ok (.getfield 108, 3) := by decide +kernel
theorem dX10_freshOf_103 : decode cX10_freshOf 103 = .ok (.iload_n 1, 1) := by decide +kernel
theorem dX10_freshOf_104 : decode cX10_freshOf 104 = .ok (.iaload, 1) := by decide +kernel
theorem dX10_freshOf_105 : decode cX10_freshOf 105 = .ok (.ireturn, 1) := by decide +kernel
theorem kcX10_freshOf : Cond.code yX10_freshOf cX10_freshOf 6 (some .int) ∈ tb := tq q_1089 rfl
theorem knX10_freshOf : Cond.initialized yX10_freshOf.cls ∈ tb := (tq q_10 rfl)
theorem kdX10_freshOf : yX10_freshOf.cls ≠ "java/lang/invoke/MethodHandle" ∧ yX10_freshOf.cls ≠ "java/lang/invoke/VarHandle" ∧ (parseMethodDescriptor yX10_freshOf.desc).map (fun d => d.parameters.length) = some 1 := ⟨by decide +kernel, by decide +kernel, by decide +kernel⟩
theorem kiX10_freshOf : Cond.instanceMethod yX10_freshOf ∈ tb := (tq q_1088 rfl)
theorem ksX10_freshOf : Cond.selects yX10_freshOf.cls yX10_freshOf yX10_freshOf ∈ tb := (tq z_69 rfl)
theorem tgX10_freshOf {x0 : Nat} {x1 : Int32} {h : PH} {r : Int32 × PH} (hf : (fX10_freshOf x0 x1).1 h = some r) : ∃ n x, nth h x0 = some (9, n, x) := by
  obtain ⟨_, _, e, _⟩ := pb_some hf
  exact (chk_some e).2
set_option maxHeartbeats 4000000 in
set_option maxRecDepth 100000 in
theorem wX10_freshOf_B30 {p : Program} {l : Launch} {e : Env} {s : State} {m : MethodId} {args : Array Value} {below : List Frame} {meth : Method} {c : Code} {G : GG} {ρ : Nat → Nat} {h0 hE hB : PH} {Q : State → Prop} {x0 : Nat} {x1 : Int32} {x2 : Int32} {x3 : Int32} (C : Cx G "PairSymbolsModel" cX10_freshOf 6 (some .int) "freshOf" p s m args meth c) {x4 : Int32} {x5 : Int32} {h : PH} {H : Heap} {locs : List Loc} {cells slots : Nat} {ls : Array Slot} {r : (Int32 × Int32) ⊕ (Int32)} (hf : (fX10_freshOf_b30 x0 x1 x2 x3 x4 x5).1 h = some (r, hB)) (hX : Ext hB hE) (hW : Wd G ρ h0.length (sl h0) s.heap h H locs cells slots) (hl : lv_has ls 6 [(0, .ref (ρ x0)), (1, .int x1), (2, .int x2), (3, .int x3), (4, .int x4), (5, .int x5)]) (kc : ∀ y : Int32 × Int32, r = .inl y → ∀ (H : Heap) (locs : List Loc) (c1 s1 : Nat) (ls : Array Slot), Wd G ρ h0.length (sl h0) s.heap hB H locs c1 s1 → lv_has ls 6 [(0, .ref (ρ x0)), (1, .int x1), (2, .int x2), (3, .int x3), (4, .int y.1), (5, .int y.2)] → W p l e (RM 3 75 h0 hE) s m args below meth c H locs c1 s1 Q (F0 m 30 ls [])) (ke : ∀ z : Int32, r = .inr z → ∀ (H : Heap) (locs : List Loc) (c1 s1 : Nat) (ls : Array Slot), Wd G ρ h0.length (sl h0) s.heap hB H locs c1 s1 → lv_has ls 6 [(0, .ref (ρ x0)), (1, .int x1), (2, .int x2), (3, .int x3), (4, .int z)] → W p l e (RM 3 75 h0 hE) s m args below meth c H locs c1 s1 Q (F0 m 69 ls [])) : W p l e (RM 3 75 h0 hE) s m args below meth c H locs cells slots Q (F0 m 30 ls []) := by
  have hx := C.1
  have hb := C.2.1
  unfold fX10_freshOf_b30 at hf
  refine lv_iload hx hb dX10_freshOf_30 (lv_at hl 5 rfl) ?_
  refine lv_iload_n hx hb dX10_freshOf_32 rfl (lv_at hl 2 rfl) ?_
  refine lv_iload_n hx hb dX10_freshOf_33 rfl (lv_at hl 3 rfl) ?_
  by_cases c6 : x3 = 0
  · rw [if_pos c6] at hf
    exact (pf_no hf).elim
  rw [if_neg c6] at hf
  refine lv_idiv hx hb dX10_freshOf_34 c6 ?_
  refine lv_icmp_gt (tgt := 69) hx hb dX10_freshOf_35 (by decide) (fun c7 => ?_) (fun c7 => ?_)
  · rw [if_pos c7] at hf
    obtain ⟨rfl, rfl⟩ := pp_some hf
    exact ke _ rfl _ _ _ _ _ hW (lv_sub hl [0, 1, 2, 3, 4] rfl)
  · rw [if_neg c7] at hf
    refine lv_iload_n hx hb dX10_freshOf_38 rfl (lv_at hl 2 rfl) ?_
    refine lv_iload_n hx hb dX10_freshOf_39 rfl (lv_at hl 3 rfl) ?_
    by_cases c8 : x3 = 0
    · rw [if_pos c8] at hf
      exact (pf_no hf).elim
    rw [if_neg c8] at hf
    refine lv_irem hx hb dX10_freshOf_40 c8 ?_
    refine lv_if_ne (tgt := 69) hx hb dX10_freshOf_41 (by decide) (fun c9 => ?_) (fun c9 => ?_)
    · rw [if_neg c9] at hf
      obtain ⟨rfl, rfl⟩ := pp_some hf
      exact ke _ rfl _ _ _ _ _ hW (lv_sub hl [0, 1, 2, 3, 4] rfl)
    · rw [if_pos c9] at hf
      refine lv_iload hx hb dX10_freshOf_44 (lv_at hl 4 rfl) ?_
      refine lv_iload_n hx hb dX10_freshOf_46 rfl (lv_at hl 2 rfl) ?_
      refine lv_iload_n hx hb dX10_freshOf_47 rfl (lv_at hl 3 rfl) ?_
      by_cases c10 : x3 = 0
      · rw [if_pos c10] at hf
        exact (pf_no hf).elim
      rw [if_neg c10] at hf
      refine lv_idiv hx hb dX10_freshOf_48 c10 ?_
      refine lv_iload hx hb dX10_freshOf_49 (lv_at hl 5 rfl) ?_
      by_cases c11 : x5 = 0
      · rw [if_pos c11] at hf
        exact (pf_no hf).elim
      rw [if_neg c11] at hf
      refine lv_irem hx hb dX10_freshOf_51 c11 ?_
      refine lv_if_ne (tgt := 59) hx hb dX10_freshOf_52 (by decide) (fun c12 => ?_) (fun c12 => ?_)
      · rw [if_neg c12] at hf
        refine lv_iconst (v := 0) hx hb dX10_freshOf_59 (by decide) ?_
        refine lv_iadd hx hb dX10_freshOf_60 ?_
        refine lv_istore (lv' := [(4, .int (x4 + (0 : Int32))), (0, .ref (ρ x0)), (1, .int x1), (2, .int x2), (3, .int x3), (5, .int x5)]) hx hb dX10_freshOf_61 hl (by decide) rfl (fun ls hl => ?_)
        refine lv_iinc (v := (x5 + 1)) (lv' := [(5, .int (x5 + 1)), (4, .int (x4 + (0 : Int32))), (0, .ref (ρ x0)), (1, .int x1), (2, .int x2), (3, .int x3)]) hx hb dX10_freshOf_63 hl (k := 5) rfl rfl (by decide) rfl (fun ls hl => ?_)
        refine lv_goto (tgt := 30) hx hb dX10_freshOf_66 (by decide) ?_
        obtain ⟨rfl, rfl⟩ := pp_some hf
        exact kc _ rfl _ _ _ _ _ hW (lv_sub hl [2, 3, 4, 5, 1, 0] rfl)
      · rw [if_pos c12] at hf
        refine lv_iconst (v := 1) hx hb dX10_freshOf_55 (by decide) ?_
        refine lv_goto (tgt := 60) hx hb dX10_freshOf_56 (by decide) ?_
        refine lv_iadd hx hb dX10_freshOf_60 ?_
        refine lv_istore (lv' := [(4, .int (x4 + (1 : Int32))), (0, .ref (ρ x0)), (1, .int x1), (2, .int x2), (3, .int x3), (5, .int x5)]) hx hb dX10_freshOf_61 hl (by decide) rfl (fun ls hl => ?_)
        refine lv_iinc (v := (x5 + 1)) (lv' := [(5, .int (x5 + 1)), (4, .int (x4 + (1 : Int32))), (0, .ref (ρ x0)), (1, .int x1), (2, .int x2), (3, .int x3)]) hx hb dX10_freshOf_63 hl (k := 5) rfl rfl (by decide) rfl (fun ls hl => ?_)
        refine lv_goto (tgt := 30) hx hb dX10_freshOf_66 (by decide) ?_
        obtain ⟨rfl, rfl⟩ := pp_some hf
        exact kc _ rfl _ _ _ _ _ hW (lv_sub hl [2, 3, 4, 5, 1, 0] rfl)
set_option maxHeartbeats 4000000 in
theorem wX10_freshOf_L30 {p : Program} {l : Launch} {e : Env} {s : State} {m : MethodId} {args : Array Value} {below : List Frame} {meth : Method} {c : Code} {G : GG} {ρ : Nat → Nat} {h0 hE hB : PH} {Q : State → Prop} {x0 : Nat} {x1 : Int32} {x2 : Int32} {x3 : Int32} (C : Cx G "PairSymbolsModel" cX10_freshOf 6 (some .int) "freshOf" p s m args meth c) {z : (Int32)} (n : Nat) : ∀ (x : Int32 × Int32) {h : PH} {H : Heap} {locs : List Loc} {cells slots : Nat} {ls : Array Slot}, (plo (fX10_freshOf_B30 x0 x1 x2 x3) n x).1 h = some (z, hB) → Ext hB hE → Wd G ρ h0.length (sl h0) s.heap h H locs cells slots → lv_has ls 6 [(0, .ref (ρ x0)), (1, .int x1), (2, .int x2), (3, .int x3), (4, .int x.1), (5, .int x.2)] → (ke : ∀ (H : Heap) (locs : List Loc) (c1 s1 : Nat) (ls : Array Slot), Wd G ρ h0.length (sl h0) s.heap hB H locs c1 s1 → lv_has ls 6 [(0, .ref (ρ x0)), (1, .int x1), (2, .int x2), (3, .int x3), (4, .int z)] → W p l e (RM 3 75 h0 hE) s m args below meth c H locs c1 s1 Q (F0 m 69 ls [])) → W p l e (RM 3 75 h0 hE) s m args below meth c H locs cells slots Q (F0 m 30 ls []) := by
  induction n with
  | zero =>
    intro x h H locs cells slots ls hf
    rw [plo_0] at hf
    exact (pf_no hf).elim
  | succ n ih =>
    intro x h H locs cells slots ls hf hX hW hl ke
    rw [plo_s] at hf
    obtain ⟨r, h1, e1, hf⟩ := pb_some hf
    unfold fX10_freshOf_B30 at e1
    rw [frI_eq, frI_eq] at e1
    refine wX10_freshOf_B30 C e1 ((pext hf).tr hX) hW hl (fun y hr H locs c1 s1 ls hW hl => ?_) (fun y hr H locs c1 s1 ls hW hl => ?_)
    · subst hr
      exact ih y hf hX hW hl ke
    · subst hr
      obtain ⟨rfl, rfl⟩ := pp_some hf
      exact ke H locs c1 s1 ls hW hl
set_option maxHeartbeats 4000000 in
set_option maxRecDepth 100000 in
theorem wX10_freshOf_B19 {p : Program} {l : Launch} {e : Env} {s : State} {m : MethodId} {args : Array Value} {below : List Frame} {meth : Method} {c : Code} {G : GG} {ρ : Nat → Nat} {h0 hE hB : PH} {Q : State → Prop} {x0 : Nat} {x1 : Int32} {x2 : Int32} (C : Cx G "PairSymbolsModel" cX10_freshOf 6 (some .int) "freshOf" p s m args meth c) {x3 : Int32} {h : PH} {H : Heap} {locs : List Loc} {cells slots : Nat} {ls : Array Slot} {r : (Int32) ⊕ (Unit)} (hf : (fX10_freshOf_b19 x0 x1 x2 x3).1 h = some (r, hB)) (hX : Ext hB hE) (hW : Wd G ρ h0.length (sl h0) s.heap h H locs cells slots) (hl : lv_has ls 6 [(0, .ref (ρ x0)), (1, .int x1), (2, .int x2), (3, .int x3)]) (kc : ∀ y : Int32, r = .inl y → ∀ (H : Heap) (locs : List Loc) (c1 s1 : Nat) (ls : Array Slot), Wd G ρ h0.length (sl h0) s.heap hB H locs c1 s1 → lv_has ls 6 [(0, .ref (ρ x0)), (1, .int x1), (2, .int x2), (3, .int y)] → W p l e (RM 3 75 h0 hE) s m args below meth c H locs c1 s1 Q (F0 m 19 ls [])) (ke : ∀ z : Unit, r = .inr z → ∀ (H : Heap) (locs : List Loc) (c1 s1 : Nat) (ls : Array Slot), Wd G ρ h0.length (sl h0) s.heap hB H locs c1 s1 → lv_has ls 6 [(0, .ref (ρ x0)), (1, .int x1), (2, .int x2)] → W p l e (RM 3 75 h0 hE) s m args below meth c H locs c1 s1 Q (F0 m 93 ls [])) : W p l e (RM 3 75 h0 hE) s m args below meth c H locs cells slots Q (F0 m 19 ls []) := by
  have hx := C.1
  have hb := C.2.1
  unfold fX10_freshOf_b19 at hf
  refine lv_iload_n hx hb dX10_freshOf_19 rfl (lv_at hl 3 rfl) ?_
  refine lv_iload_n hx hb dX10_freshOf_20 rfl (lv_at hl 2 rfl) ?_
  refine lv_icmp_ge (tgt := 93) hx hb dX10_freshOf_21 (by decide) (fun c5 => ?_) (fun c5 => ?_)
  · rw [if_pos c5] at hf
    obtain ⟨rfl, rfl⟩ := pp_some hf
    exact ke _ rfl _ _ _ _ _ hW (lv_sub hl [0, 1, 2] rfl)
  · rw [if_neg c5] at hf
    refine lv_iconst (v := 0) hx hb dX10_freshOf_24 (by decide) ?_
    refine lv_istore (lv' := [(4, .int (0 : Int32)), (0, .ref (ρ x0)), (1, .int x1), (2, .int x2), (3, .int x3)]) hx hb dX10_freshOf_25 hl (by decide) rfl (fun ls hl => ?_)
    refine lv_iconst (v := 1) hx hb dX10_freshOf_27 (by decide) ?_
    refine lv_istore (lv' := [(5, .int (1 : Int32)), (4, .int (0 : Int32)), (0, .ref (ρ x0)), (1, .int x1), (2, .int x2), (3, .int x3)]) hx hb dX10_freshOf_28 hl (by decide) rfl (fun ls hl => ?_)
    obtain ⟨z13, h13, e13, hf⟩ := pb_some hf
    refine wX10_freshOf_L30 C fu _ e13 ((pext hf).tr hX) hW (lv_sub hl [2, 3, 4, 5, 1, 0] rfl) (fun H locs c1 s1 ls hW hl => ?_)
    refine lv_aload_n hx hb dX10_freshOf_69 rfl (lv_at hl 0 rfl) ?_
    obtain ⟨v14, e14, hf⟩ := pb_rd (rd_gA _ _ _) hf
    refine r_gA C hW e14 flX10_108 rfl dX10_freshOf_70 ?_
    refine lv_iload_n hx hb dX10_freshOf_73 rfl (lv_at hl 2 rfl) ?_
    refine lv_dup2_11 hx hb dX10_freshOf_74 rfl rfl ?_
    obtain ⟨v15, e15, hf⟩ := pb_rd (rd_lI _ _ _) hf
    refine r_iald C hW e15 dX10_freshOf_75 ?_
    refine lv_aload_n hx hb dX10_freshOf_76 rfl (lv_at hl 0 rfl) ?_
    obtain ⟨v16, e16, hf⟩ := pb_rd (rd_gA _ _ _) hf
    refine r_gA C hW e16 flX10_108 rfl dX10_freshOf_77 ?_
    refine lv_iload_n hx hb dX10_freshOf_80 rfl (lv_at hl 3 rfl) ?_
    obtain ⟨v17, e17, hf⟩ := pb_rd (rd_lI _ _ _) hf
    refine r_iald C hW e17 dX10_freshOf_81 ?_
    refine lv_iload hx hb dX10_freshOf_82 (lv_at hl 4 rfl) ?_
    refine lv_imul hx hb dX10_freshOf_84 ?_
    refine lv_isub hx hb dX10_freshOf_85 ?_
    obtain ⟨_, h18, e18, hf⟩ := pb_some hf
    refine r_iast C hW e18 dX10_freshOf_86 (fun H locs hW => ?_)
    refine lv_iinc (v := (x3 + 1)) (lv' := [(3, .int (x3 + 1)), (0, .ref (ρ x0)), (1, .int x1), (2, .int x2), (4, .int z13)]) hx hb dX10_freshOf_87 hl (k := 3) rfl rfl (by decide) rfl (fun ls hl => ?_)
    refine lv_goto (tgt := 19) hx hb dX10_freshOf_90 (by decide) ?_
    obtain ⟨rfl, rfl⟩ := pp_some hf
    exact kc _ rfl _ _ _ _ _ hW (lv_sub hl [1, 2, 3, 0] rfl)
set_option maxHeartbeats 4000000 in
theorem wX10_freshOf_L19 {p : Program} {l : Launch} {e : Env} {s : State} {m : MethodId} {args : Array Value} {below : List Frame} {meth : Method} {c : Code} {G : GG} {ρ : Nat → Nat} {h0 hE hB : PH} {Q : State → Prop} {x0 : Nat} {x1 : Int32} {x2 : Int32} (C : Cx G "PairSymbolsModel" cX10_freshOf 6 (some .int) "freshOf" p s m args meth c) {z : (Unit)} (n : Nat) : ∀ (x : Int32) {h : PH} {H : Heap} {locs : List Loc} {cells slots : Nat} {ls : Array Slot}, (plo (fX10_freshOf_B19 x0 x1 x2) n x).1 h = some (z, hB) → Ext hB hE → Wd G ρ h0.length (sl h0) s.heap h H locs cells slots → lv_has ls 6 [(0, .ref (ρ x0)), (1, .int x1), (2, .int x2), (3, .int x)] → (ke : ∀ (H : Heap) (locs : List Loc) (c1 s1 : Nat) (ls : Array Slot), Wd G ρ h0.length (sl h0) s.heap hB H locs c1 s1 → lv_has ls 6 [(0, .ref (ρ x0)), (1, .int x1), (2, .int x2)] → W p l e (RM 3 75 h0 hE) s m args below meth c H locs c1 s1 Q (F0 m 93 ls [])) → W p l e (RM 3 75 h0 hE) s m args below meth c H locs cells slots Q (F0 m 19 ls []) := by
  induction n with
  | zero =>
    intro x h H locs cells slots ls hf
    rw [plo_0] at hf
    exact (pf_no hf).elim
  | succ n ih =>
    intro x h H locs cells slots ls hf hX hW hl ke
    rw [plo_s] at hf
    obtain ⟨r, h1, e1, hf⟩ := pb_some hf
    unfold fX10_freshOf_B19 at e1
    rw [frI_eq] at e1
    refine wX10_freshOf_B19 C e1 ((pext hf).tr hX) hW hl (fun y hr H locs c1 s1 ls hW hl => ?_) (fun y hr H locs c1 s1 ls hW hl => ?_)
    · subst hr
      exact ih y hf hX hW hl ke
    · subst hr
      obtain ⟨rfl, rfl⟩ := pp_some hf
      exact ke H locs c1 s1 ls hW hl
set_option maxHeartbeats 4000000 in
set_option maxRecDepth 100000 in
theorem wX10_freshOf_B2 {p : Program} {l : Launch} {e : Env} {s : State} {m : MethodId} {args : Array Value} {below : List Frame} {meth : Method} {c : Code} {G : GG} {ρ : Nat → Nat} {h0 hE hB : PH} {Q : State → Prop} {x0 : Nat} {x1 : Int32} (C : Cx G "PairSymbolsModel" cX10_freshOf 6 (some .int) "freshOf" p s m args meth c) {x2 : Int32} {h : PH} {H : Heap} {locs : List Loc} {cells slots : Nat} {ls : Array Slot} {r : (Int32) ⊕ (Unit)} (hf : (fX10_freshOf_b2 x0 x1 x2).1 h = some (r, hB)) (hX : Ext hB hE) (hW : Wd G ρ h0.length (sl h0) s.heap h H locs cells slots) (hl : lv_has ls 6 [(0, .ref (ρ x0)), (1, .int x1), (2, .int x2)]) (kc : ∀ y : Int32, r = .inl y → ∀ (H : Heap) (locs : List Loc) (c1 s1 : Nat) (ls : Array Slot), Wd G ρ h0.length (sl h0) s.heap hB H locs c1 s1 → lv_has ls 6 [(0, .ref (ρ x0)), (1, .int x1), (2, .int y)] → W p l e (RM 3 75 h0 hE) s m args below meth c H locs c1 s1 Q (F0 m 2 ls [])) (ke : ∀ z : Unit, r = .inr z → ∀ (H : Heap) (locs : List Loc) (c1 s1 : Nat) (ls : Array Slot), Wd G ρ h0.length (sl h0) s.heap hB H locs c1 s1 → lv_has ls 6 [(0, .ref (ρ x0)), (1, .int x1)] → W p l e (RM 3 75 h0 hE) s m args below meth c H locs c1 s1 Q (F0 m 99 ls [])) : W p l e (RM 3 75 h0 hE) s m args below meth c H locs cells slots Q (F0 m 2 ls []) := by
  have hx := C.1
  have hb := C.2.1
  unfold fX10_freshOf_b2 at hf
  refine lv_iload_n hx hb dX10_freshOf_2 rfl (lv_at hl 2 rfl) ?_
  refine lv_iload_n hx hb dX10_freshOf_3 rfl (lv_at hl 1 rfl) ?_
  refine lv_icmp_gt (tgt := 99) hx hb dX10_freshOf_4 (by decide) (fun c1 => ?_) (fun c1 => ?_)
  · rw [if_pos c1] at hf
    obtain ⟨rfl, rfl⟩ := pp_some hf
    exact ke _ rfl _ _ _ _ _ hW (lv_sub hl [0, 1] rfl)
  · rw [if_neg c1] at hf
    refine lv_aload_n hx hb dX10_freshOf_7 rfl (lv_at hl 0 rfl) ?_
    obtain ⟨v2, e2, hf⟩ := pb_rd (rd_gA _ _ _) hf
    refine r_gA C hW e2 flX10_108 rfl dX10_freshOf_8 ?_
    refine lv_iload_n hx hb dX10_freshOf_11 rfl (lv_at hl 2 rfl) ?_
    refine lv_iload_n hx hb dX10_freshOf_12 rfl (lv_at hl 2 rfl) ?_
    obtain ⟨v3, h3, e3, hf⟩ := pb_some hf
    refine r_calli hW (pext e3) (run_S (As := [.int x2]) (rest := [.int x2, .ref (ρ v2)]) C hW (metX10_forms l G ρ e3) ⟨rfl, rfl⟩ kcX10_forms (tq q_1083 rfl) kiX10_forms knX10_forms kdX10_forms ⟨Nat.le_of_ble_eq_true rfl, Nat.le_of_ble_eq_true rfl⟩ hl.1 (Nat.le_of_ble_eq_true rfl) (room_of hW (pext e3) ((pext hf).tr hX)) dX10_freshOf_13 rfl) (fun H locs c1 s1 hW => ?_)
    obtain ⟨_, h4, e4, hf⟩ := pb_some hf
    refine r_iast C hW e4 dX10_freshOf_16 (fun H locs hW => ?_)
    refine lv_iconst (v := 1) hx hb dX10_freshOf_17 (by decide) ?_
    refine lv_istore_n (lv' := [(3, .int (1 : Int32)), (0, .ref (ρ x0)), (1, .int x1), (2, .int x2)]) hx hb dX10_freshOf_18 rfl hl (by decide) rfl (fun ls hl => ?_)
    obtain ⟨z19, h19, e19, hf⟩ := pb_some hf
    refine wX10_freshOf_L19 C fu _ e19 ((pext hf).tr hX) hW (lv_sub hl [1, 2, 3, 0] rfl) (fun H locs c1 s1 ls hW hl => ?_)
    refine lv_iinc (v := (x2 + 1)) (lv' := [(2, .int (x2 + 1)), (0, .ref (ρ x0)), (1, .int x1)]) hx hb dX10_freshOf_93 hl (k := 2) rfl rfl (by decide) rfl (fun ls hl => ?_)
    refine lv_goto (tgt := 2) hx hb dX10_freshOf_96 (by decide) ?_
    obtain ⟨rfl, rfl⟩ := pp_some hf
    exact kc _ rfl _ _ _ _ _ hW (lv_sub hl [1, 2, 0] rfl)
set_option maxHeartbeats 4000000 in
theorem wX10_freshOf_L2 {p : Program} {l : Launch} {e : Env} {s : State} {m : MethodId} {args : Array Value} {below : List Frame} {meth : Method} {c : Code} {G : GG} {ρ : Nat → Nat} {h0 hE hB : PH} {Q : State → Prop} {x0 : Nat} {x1 : Int32} (C : Cx G "PairSymbolsModel" cX10_freshOf 6 (some .int) "freshOf" p s m args meth c) {z : (Unit)} (n : Nat) : ∀ (x : Int32) {h : PH} {H : Heap} {locs : List Loc} {cells slots : Nat} {ls : Array Slot}, (plo (fX10_freshOf_B2 x0 x1) n x).1 h = some (z, hB) → Ext hB hE → Wd G ρ h0.length (sl h0) s.heap h H locs cells slots → lv_has ls 6 [(0, .ref (ρ x0)), (1, .int x1), (2, .int x)] → (ke : ∀ (H : Heap) (locs : List Loc) (c1 s1 : Nat) (ls : Array Slot), Wd G ρ h0.length (sl h0) s.heap hB H locs c1 s1 → lv_has ls 6 [(0, .ref (ρ x0)), (1, .int x1)] → W p l e (RM 3 75 h0 hE) s m args below meth c H locs c1 s1 Q (F0 m 99 ls [])) → W p l e (RM 3 75 h0 hE) s m args below meth c H locs cells slots Q (F0 m 2 ls []) := by
  induction n with
  | zero =>
    intro x h H locs cells slots ls hf
    rw [plo_0] at hf
    exact (pf_no hf).elim
  | succ n ih =>
    intro x h H locs cells slots ls hf hX hW hl ke
    rw [plo_s] at hf
    obtain ⟨r, h1, e1, hf⟩ := pb_some hf
    unfold fX10_freshOf_B2 at e1
    rw [frI_eq] at e1
    refine wX10_freshOf_B2 C e1 ((pext hf).tr hX) hW hl (fun y hr H locs c1 s1 ls hW hl => ?_) (fun y hr H locs c1 s1 ls hW hl => ?_)
    · subst hr
      exact ih y hf hX hW hl ke
    · subst hr
      obtain ⟨rfl, rfl⟩ := pp_some hf
      exact ke H locs c1 s1 ls hW hl
set_option maxHeartbeats 4000000 in
set_option maxRecDepth 100000 in
theorem metX10_freshOf (l : Launch) (G : GG) (ρ : Nat → Nat) {z : Nat} {x0 : Nat} {x1 : Int32} {h hE : PH} {v : Int32} (hf : (fX10_freshOf x0 x1).1 h = some (v, hE)) : Met l yX10_freshOf (wsY yX10_freshOf cX10_freshOf 6 (some .int)) (RM 3 75 h hE) (va_Pc [.ref (ρ x0), .int x1] (PcB G ρ h z)) (QI G ρ v hE h.length z) (DC h hE) (DS h hE) (Af ρ h.length z) := by
  refine met_start (by decide) (Nat.le_of_ble_eq_true rfl) ?_
  intro p e s m below meth c ls hz C hW hl
  subst hz
  have C : Cx G "PairSymbolsModel" cX10_freshOf 6 (some .int) "freshOf" p s m _ meth c := C
  have hx := C.1
  have hb := C.2.1
  have hX : Ext hE hE := Ext.rf hE
  have hl : lv_has ls 6 [(0, .ref (ρ x0)), (1, .int x1)] := hl
  have hW : Wd G ρ h.length (sl h) s.heap h s.heap [] 0 0 := hW
  unfold fX10_freshOf at hf
  obtain ⟨_, e0, hf⟩ := pb_rd (rd_chk _ _) hf
  refine lv_iconst (v := 1) hx hb dX10_freshOf_0 (by decide) ?_
  refine lv_istore_n (lv' := [(2, .int (1 : Int32)), (0, .ref (ρ x0)), (1, .int x1)]) hx hb dX10_freshOf_1 rfl hl (by decide) rfl (fun ls hl => ?_)
  obtain ⟨z20, h20, e20, hf⟩ := pb_some hf
  refine wX10_freshOf_L2 C fu _ e20 ((pext hf).tr hX) hW (lv_sub hl [1, 2, 0] rfl) (fun H locs c1 s1 ls hW hl => ?_)
  refine lv_aload_n hx hb dX10_freshOf_99 rfl (lv_at hl 0 rfl) ?_
  obtain ⟨v21, e21, hf⟩ := pb_rd (rd_gA _ _ _) hf
  refine r_gA C hW e21 flX10_108 rfl dX10_freshOf_100 ?_
  refine lv_iload_n hx hb dX10_freshOf_103 rfl (lv_at hl 1 rfl) ?_
  obtain ⟨v22, e22, hf⟩ := pb_rd (rd_lI _ _ _) hf
  refine r_iald C hW e22 dX10_freshOf_104 ?_
  obtain ⟨rfl, rfl⟩ := pp_some hf
  exact r_iret C hW dX10_freshOf_105

theorem dX10_formulaNow_0 : decode cX10_formulaNow 0 = .ok (.iload_n 2, 1) := by decide +kernel
theorem dX10_formulaNow_1 : decode cX10_formulaNow 1 = .ok (.tableswitch 85 0 4 #[35, 40, 57, 75, 80], 35) := by decide +kernel
theorem dX10_formulaNow_36 : decode cX10_formulaNow 36 = .ok (.iload_n 1, 1) := by decide +kernel
theorem dX10_formulaNow_37 : decode cX10_formulaNow 37 = .ok (.invokestatic 337, 3) := by decide +kernel
theorem dX10_formulaNow_40 : decode cX10_formulaNow 40 = .ok (.ireturn, 1) := by decide +kernel
theorem dX10_formulaNow_41 : decode cX10_formulaNow 41 = .ok (.iload_n 1, 1) := by decide +kernel
theorem dX10_formulaNow_42 : decode cX10_formulaNow 42 = .ok (.iconst 4, 1) := by decide +kernel
theorem dX10_formulaNow_43 : decode cX10_formulaNow 43 = .ok (.irem, 1) := by decide +kernel
theorem dX10_formulaNow_44 : decode cX10_formulaNow 44 = .ok (.ifCond .ne 7, 3) := by decide +kernel
theorem dX10_formulaNow_47 : decode cX10_formulaNow 47 = .ok (.iconst 0, 1) := by decide +kernel
theorem dX10_formulaNow_48 : decode cX10_formulaNow 48 = .ok (.goto 9, 3) := by decide +kernel
theorem dX10_formulaNow_51 : decode cX10_formulaNow 51 = .ok (.iload_n 1, 1) := by decide +kernel
theorem dX10_formulaNow_52 : decode cX10_formulaNow 52 = .ok (.iconst 2, 1) := by decide +kernel
theorem dX10_formulaNow_53 : decode cX10_formulaNow 53 = .ok (.iconst 4, 1) := by decide +kernel
theorem dX10_formulaNow_54 : decode cX10_formulaNow 54 = .ok (.invokestatic 333, 3) := by decide +kernel
theorem dX10_formulaNow_57 : decode cX10_formulaNow 57 = .ok (.ireturn, 1) := by decide +kernel
theorem dX10_formulaNow_58 : decode cX10_formulaNow 58 = .ok (.iload_n 1, 1) := by decide +kernel
theorem dX10_formulaNow_59 : decode cX10_formulaNow 59 = .ok (.bipush 9, 2) := by decide +kernel
theorem dX10_formulaNow_61 : decode cX10_formulaNow 61 = .ok (.irem, 1) := by decide +kernel
theorem dX10_formulaNow_62 : decode cX10_formulaNow 62 = .ok (.ifCond .ne 7, 3) := by decide +kernel
theorem dX10_formulaNow_65 : decode cX10_formulaNow 65 = .ok (.iconst 0, 1) := by decide +kernel
theorem dX10_formulaNow_66 : decode cX10_formulaNow 66 = .ok (.goto 9, 3) := by decide +kernel
theorem dX10_formulaNow_69 : decode cX10_formulaNow 69 = .ok (.iload_n 1, 1) := by decide +kernel
theorem dX10_formulaNow_70 : decode cX10_formulaNow 70 = .ok (.iconst 3, 1) := by decide +kernel
theorem dX10_formulaNow_71 : decode cX10_formulaNow 71 = .ok (.iconst 3, 1) := by decide +kernel
theorem dX10_formulaNow_72 : decode cX10_formulaNow 72 = .ok (.invokestatic 333, 3) := by decide +kernel
theorem dX10_formulaNow_75 : decode cX10_formulaNow 75 = .ok (.ireturn, 1) := by decide +kernel
theorem dX10_formulaNow_76 : decode cX10_formulaNow 76 = .ok (.iload_n 1, 1) := by decide +kernel
theorem dX10_formulaNow_77 : decode cX10_formulaNow 77 = .ok (.invokestatic 340, 3) := by decide +kernel
theorem dX10_formulaNow_80 : decode cX10_formulaNow 80 = .ok (.ireturn, 1) := by decide +kernel
theorem dX10_formulaNow_81 : decode cX10_formulaNow 81 = .ok (.iload_n 1, 1) := by decide +kernel
theorem dX10_formulaNow_82 : decode cX10_formulaNow 82 = .ok (.invokestatic 343, 3) := by decide +kernel
theorem dX10_formulaNow_85 : decode cX10_formulaNow 85 = .ok (.ireturn, 1) := by decide +kernel
theorem dX10_formulaNow_86 : decode cX10_formulaNow 86 = .ok (.aload_n 0, 1) := by decide +kernel
theorem dX10_formulaNow_87 : decode cX10_formulaNow 87 = .ok (.iload_n 1, 1) := by decide +kernel
theorem dX10_formulaNow_88 : decode cX10_formulaNow 88 = .ok (.invokevirtual 346, 3) := by decide +kernel
theorem dX10_formulaNow_91 : decode cX10_formulaNow 91 = .ok (.ireturn, 1) := by decide +kernel
theorem kcX10_formulaNow : Cond.code yX10_formulaNow cX10_formulaNow 3 (some .int) ∈ tb := tq q_1070 rfl
theorem knX10_formulaNow : Cond.initialized yX10_formulaNow.cls ∈ tb := (tq q_10 rfl)
theorem kdX10_formulaNow : yX10_formulaNow.cls ≠ "java/lang/invoke/MethodHandle" ∧ yX10_formulaNow.cls ≠ "java/lang/invoke/VarHandle" ∧ (parseMethodDescriptor yX10_formulaNow.desc).map (fun d => d.parameters.length) = some 2 := ⟨by decide +kernel, by decide +kernel, by decide +kernel⟩
theorem kiX10_formulaNow : Cond.instanceMethod yX10_formulaNow ∈ tb := (tq q_1069 rfl)
theorem ksX10_formulaNow : Cond.selects yX10_formulaNow.cls yX10_formulaNow yX10_formulaNow ∈ tb := (tq z_68 rfl)
theorem tgX10_formulaNow {x0 : Nat} {x1 : Int32} {x2 : Int32} {h : PH} {r : Int32 × PH} (hf : (fX10_formulaNow x0 x1 x2).1 h = some r) : ∃ n x, nth h x0 = some (9, n, x) := by
  obtain ⟨_, _, e, _⟩ := pb_some hf
  exact (chk_some e).2
set_option maxHeartbeats 4000000 in
set_option maxRecDepth 100000 in
theorem metX10_formulaNow (l : Launch) (G : GG) (ρ : Nat → Nat) {z : Nat} {x0 : Nat} {x1 : Int32} {x2 : Int32} {h hE : PH} {v : Int32} (hf : (fX10_formulaNow x0 x1 x2).1 h = some (v, hE)) : Met l yX10_formulaNow (wsY yX10_formulaNow cX10_formulaNow 3 (some .int)) (RM 4 100 h hE) (va_Pc [.ref (ρ x0), .int x1, .int x2] (PcB G ρ h z)) (QI G ρ v hE h.length z) (DC h hE) (DS h hE) (Af ρ h.length z) := by
  refine met_start (by decide) (Nat.le_of_ble_eq_true rfl) ?_
  intro p e s m below meth c ls hz C hW hl
  subst hz
  have C : Cx G "PairSymbolsModel" cX10_formulaNow 3 (some .int) "formulaNow" p s m _ meth c := C
  have hx := C.1
  have hb := C.2.1
  have hX : Ext hE hE := Ext.rf hE
  have hl : lv_has ls 3 [(0, .ref (ρ x0)), (1, .int x1), (2, .int x2)] := hl
  have hW : Wd G ρ h.length (sl h) s.heap h s.heap [] 0 0 := hW
  unfold fX10_formulaNow at hf
  obtain ⟨_, e0, hf⟩ := pb_rd (rd_chk _ _) hf
  refine lv_iload_n hx hb dX10_formulaNow_0 rfl (lv_at hl 2 rfl) ?_
  by_cases c1 : x2 = 0
  · rw [if_pos c1] at hf
    refine lv_tableIn (off := 35) (tgt := 36) hx hb dX10_formulaNow_1 (by rw [c1]; decide) (by rw [c1]; decide) (by rw [c1]; decide) (by decide) ?_
    refine lv_iload_n hx hb dX10_formulaNow_36 rfl (lv_at hl 1 rfl) ?_
    obtain ⟨v2, h2, e2, hf⟩ := pb_some hf
    refine r_calli hW (pext e2) (run_S (As := [.int x1]) (rest := []) C hW (metX10_index l G ρ e2) ⟨rfl, rfl⟩ kcX10_index (tq q_1071 rfl) kiX10_index knX10_index kdX10_index ⟨Nat.le_of_ble_eq_true rfl, Nat.le_of_ble_eq_true rfl⟩ hl.1 (Nat.le_of_ble_eq_true rfl) (room_of hW (pext e2) ((pext hf).tr hX)) dX10_formulaNow_37 rfl) (fun H locs c1 s1 hW => ?_)
    obtain ⟨rfl, rfl⟩ := pp_some hf
    exact r_iret C hW dX10_formulaNow_40
  rw [if_neg c1] at hf
  by_cases c3 : x2 = 1
  · rw [if_pos c3] at hf
    refine lv_tableIn (off := 40) (tgt := 41) hx hb dX10_formulaNow_1 (by rw [c3]; decide) (by rw [c3]; decide) (by rw [c3]; decide) (by decide) ?_
    refine lv_iload_n hx hb dX10_formulaNow_41 rfl (lv_at hl 1 rfl) ?_
    refine lv_iconst (v := 4) hx hb dX10_formulaNow_42 (by decide) ?_
    refine lv_irem hx hb dX10_formulaNow_43 (by decide) ?_
    refine lv_if_ne (tgt := 51) hx hb dX10_formulaNow_44 (by decide) (fun c4 => ?_) (fun c4 => ?_)
    · rw [if_neg c4] at hf
      refine lv_iload_n hx hb dX10_formulaNow_51 rfl (lv_at hl 1 rfl) ?_
      refine lv_iconst (v := 2) hx hb dX10_formulaNow_52 (by decide) ?_
      refine lv_iconst (v := 4) hx hb dX10_formulaNow_53 (by decide) ?_
      obtain ⟨v5, h5, e5, hf⟩ := pb_some hf
      refine r_calli hW (pext e5) (run_S (As := [.int x1, .int (2 : Int32), .int (4 : Int32)]) (rest := []) C hW (metX10_product l G ρ e5) ⟨rfl, rfl⟩ kcX10_product (tq q_1077 rfl) kiX10_product knX10_product kdX10_product ⟨Nat.le_of_ble_eq_true rfl, Nat.le_of_ble_eq_true rfl⟩ hl.1 (Nat.le_of_ble_eq_true rfl) (room_of hW (pext e5) ((pext hf).tr hX)) dX10_formulaNow_54 rfl) (fun H locs c1 s1 hW => ?_)
      obtain ⟨rfl, rfl⟩ := pp_some hf
      exact r_iret C hW dX10_formulaNow_57
    · rw [if_pos c4] at hf
      refine lv_iconst (v := 0) hx hb dX10_formulaNow_47 (by decide) ?_
      refine lv_goto (tgt := 57) hx hb dX10_formulaNow_48 (by decide) ?_
      obtain ⟨rfl, rfl⟩ := pp_some hf
      exact r_iret C hW dX10_formulaNow_57
  rw [if_neg c3] at hf
  by_cases c6 : x2 = 2
  · rw [if_pos c6] at hf
    refine lv_tableIn (off := 57) (tgt := 58) hx hb dX10_formulaNow_1 (by rw [c6]; decide) (by rw [c6]; decide) (by rw [c6]; decide) (by decide) ?_
    refine lv_iload_n hx hb dX10_formulaNow_58 rfl (lv_at hl 1 rfl) ?_
    refine lv_bipush (v := 9) hx hb dX10_formulaNow_59 (by decide) ?_
    refine lv_irem hx hb dX10_formulaNow_61 (by decide) ?_
    refine lv_if_ne (tgt := 69) hx hb dX10_formulaNow_62 (by decide) (fun c7 => ?_) (fun c7 => ?_)
    · rw [if_neg c7] at hf
      refine lv_iload_n hx hb dX10_formulaNow_69 rfl (lv_at hl 1 rfl) ?_
      refine lv_iconst (v := 3) hx hb dX10_formulaNow_70 (by decide) ?_
      refine lv_iconst (v := 3) hx hb dX10_formulaNow_71 (by decide) ?_
      obtain ⟨v8, h8, e8, hf⟩ := pb_some hf
      refine r_calli hW (pext e8) (run_S (As := [.int x1, .int (3 : Int32), .int (3 : Int32)]) (rest := []) C hW (metX10_product l G ρ e8) ⟨rfl, rfl⟩ kcX10_product (tq q_1077 rfl) kiX10_product knX10_product kdX10_product ⟨Nat.le_of_ble_eq_true rfl, Nat.le_of_ble_eq_true rfl⟩ hl.1 (Nat.le_of_ble_eq_true rfl) (room_of hW (pext e8) ((pext hf).tr hX)) dX10_formulaNow_72 rfl) (fun H locs c1 s1 hW => ?_)
      obtain ⟨rfl, rfl⟩ := pp_some hf
      exact r_iret C hW dX10_formulaNow_75
    · rw [if_pos c7] at hf
      refine lv_iconst (v := 0) hx hb dX10_formulaNow_65 (by decide) ?_
      refine lv_goto (tgt := 75) hx hb dX10_formulaNow_66 (by decide) ?_
      obtain ⟨rfl, rfl⟩ := pp_some hf
      exact r_iret C hW dX10_formulaNow_75
  rw [if_neg c6] at hf
  by_cases c9 : x2 = 3
  · rw [if_pos c9] at hf
    refine lv_tableIn (off := 75) (tgt := 76) hx hb dX10_formulaNow_1 (by rw [c9]; decide) (by rw [c9]; decide) (by rw [c9]; decide) (by decide) ?_
    refine lv_iload_n hx hb dX10_formulaNow_76 rfl (lv_at hl 1 rfl) ?_
    obtain ⟨v10, h10, e10, hf⟩ := pb_some hf
    refine r_calli hW (pext e10) (run_S (As := [.int x1]) (rest := []) C hW (metX10_ends l G ρ e10) ⟨rfl, rfl⟩ kcX10_ends (tq q_1080 rfl) kiX10_ends knX10_ends kdX10_ends ⟨Nat.le_of_ble_eq_true rfl, Nat.le_of_ble_eq_true rfl⟩ hl.1 (Nat.le_of_ble_eq_true rfl) (room_of hW (pext e10) ((pext hf).tr hX)) dX10_formulaNow_77 rfl) (fun H locs c1 s1 hW => ?_)
    obtain ⟨rfl, rfl⟩ := pp_some hf
    exact r_iret C hW dX10_formulaNow_80
  rw [if_neg c9] at hf
  by_cases c11 : x2 = 4
  · rw [if_pos c11] at hf
    refine lv_tableIn (off := 80) (tgt := 81) hx hb dX10_formulaNow_1 (by rw [c11]; decide) (by rw [c11]; decide) (by rw [c11]; decide) (by decide) ?_
    refine lv_iload_n hx hb dX10_formulaNow_81 rfl (lv_at hl 1 rfl) ?_
    obtain ⟨v12, h12, e12, hf⟩ := pb_some hf
    refine r_calli hW (pext e12) (run_S (As := [.int x1]) (rest := []) C hW (metX10_forms l G ρ e12) ⟨rfl, rfl⟩ kcX10_forms (tq q_1083 rfl) kiX10_forms knX10_forms kdX10_forms ⟨Nat.le_of_ble_eq_true rfl, Nat.le_of_ble_eq_true rfl⟩ hl.1 (Nat.le_of_ble_eq_true rfl) (room_of hW (pext e12) ((pext hf).tr hX)) dX10_formulaNow_82 rfl) (fun H locs c1 s1 hW => ?_)
    obtain ⟨rfl, rfl⟩ := pp_some hf
    exact r_iret C hW dX10_formulaNow_85
  rw [if_neg c11] at hf
  refine lv_tableOut (tgt := 86) hx hb dX10_formulaNow_1 (sw_out [0, 1, 2, 3, 4] (List.forall_mem_cons.mpr ⟨c1, List.forall_mem_cons.mpr ⟨c3, List.forall_mem_cons.mpr ⟨c6, List.forall_mem_cons.mpr ⟨c9, List.forall_mem_cons.mpr ⟨c11, fun _ h => absurd h List.not_mem_nil⟩⟩⟩⟩⟩) (by decide)) (by decide) ?_
  refine lv_aload_n hx hb dX10_formulaNow_86 rfl (lv_at hl 0 rfl) ?_
  refine lv_iload_n hx hb dX10_formulaNow_87 rfl (lv_at hl 1 rfl) ?_
  obtain ⟨v13, h13, e13, hf⟩ := pb_some hf
  obtain ⟨_, _, t14⟩ := tgX10_freshOf e13
  refine r_calli hW (pext e13) (run_V (b := x0) (As := [.int x1]) (rest := []) C hW (metX10_freshOf l G ρ e13) ⟨rfl, rfl⟩ kcX10_freshOf (tq q_1086 rfl) kiX10_freshOf ksX10_freshOf knX10_freshOf kdX10_freshOf t14 rfl rfl ⟨Nat.le_of_ble_eq_true rfl, Nat.le_of_ble_eq_true rfl⟩ hl.1 (Nat.le_of_ble_eq_true rfl) (room_of hW (pext e13) ((pext hf).tr hX)) dX10_formulaNow_88 rfl) (fun H locs c1 s1 hW => ?_)
  obtain ⟨rfl, rfl⟩ := pp_some hf
  exact r_iret C hW dX10_formulaNow_91

theorem dX10_formula_0 : decode cX10_formula 0 = .ok (.iload_n 1, 1) := by decide +kernel
theorem dX10_formula_1 : decode cX10_formula 1 = .ok (.i2l, 1) := by decide +kernel
theorem dX10_formula_2 : decode cX10_formula 2 = .ok (.lconst 1, 1) := by decide +kernel
theorem dX10_formula_3 : decode cX10_formula 3 = .ok (.ldc2_w 349, 3) := by decide +kernel
theorem dX10_formula_6 : decode cX10_formula 6 = .ok (.invokestatic 236, 3) := by decide +kernel
theorem dX10_formula_9 : decode cX10_formula 9 = .ok (.ifCond .eq 24, 3) := by decide +kernel
theorem dX10_formula_12 : decode cX10_formula 12 = .ok (.iload_n 2, 1) := by decide +kernel
theorem dX10_formula_13 : decode cX10_formula 13 = .ok (.i2l, 1) := by decide +kernel
theorem dX10_formula_14 : decode cX10_formula 14 = .ok (.lconst 0, 1) := by decide +kernel
theorem dX10_formula_15 : decode cX10_formula 15 = .ok (.ldc2_w 351, 3) := by decide +kernel
theorem dX10_formula_18 : decode cX10_formula 18 = .ok (.invokestatic 236, 3) := by decide +kernel
theorem dX10_formula_21 : decode cX10_formula 21 = .ok (.ifCond .eq 12, 3) := by decide +kernel
theorem dX10_formula_24 : decode cX10_formula 24 = .ok (.aload_n 0, 1) := by decide +kernel
theorem dX10_formula_25 : decode cX10_formula 25 = .ok (.iload_n 1, 1) := by decide +kernel
theorem dX10_formula_26 : decode cX10_formula 26 = .ok (.iload_n 2, 1) := by decide +kernel
theorem dX10_formula_27 : decode cX10_formula 27 = .ok (.invokevirtual 353, 3) := by decide +kernel
theorem dX10_formula_30 : decode cX10_formula 30 = .ok (.goto 9, 3) := by decide +kernel
theorem dX10_formula_33 : decode cX10_formula 33 = .ok (.aload_n 0, 1) := by decide +kernel
theorem dX10_formula_34 : decode cX10_formula 34 = .ok (.bipush (-2), 2) := by decide +kernel
theorem dX10_formula_36 : decode cX10_formula 36 = .ok (.invokevirtual 240, 3) := by decide +kernel
theorem dX10_formula_39 : decode cX10_formula 39 = .ok (.ireturn, 1) := by decide +kernel
theorem kcX10_formula : Cond.code yX10_formula cX10_formula 3 (some .int) ∈ tb := tq q_1064 rfl
theorem knX10_formula : Cond.initialized yX10_formula.cls ∈ tb := (tq q_10 rfl)
theorem kdX10_formula : yX10_formula.cls ≠ "java/lang/invoke/MethodHandle" ∧ yX10_formula.cls ≠ "java/lang/invoke/VarHandle" ∧ (parseMethodDescriptor yX10_formula.desc).map (fun d => d.parameters.length) = some 2 := ⟨by decide +kernel, by decide +kernel, by decide +kernel⟩
theorem kiX10_formula : Cond.instanceMethod yX10_formula ∈ tb := (tq q_1062 rfl)
theorem ksX10_formula : Cond.selects yX10_formula.cls yX10_formula yX10_formula ∈ tb := (tq q_1063 rfl)
theorem tgX10_formula {x0 : Nat} {x1 : Int32} {x2 : Int32} {h : PH} {r : Int32 × PH} (hf : (fX10_formula x0 x1 x2).1 h = some r) : ∃ n x, nth h x0 = some (9, n, x) := by
  obtain ⟨_, _, e, _⟩ := pb_some hf
  exact (chk_some e).2
set_option maxHeartbeats 4000000 in
set_option maxRecDepth 100000 in
theorem metX10_formula (l : Launch) (G : GG) (ρ : Nat → Nat) {z : Nat} {x0 : Nat} {x1 : Int32} {x2 : Int32} {h hE : PH} {v : Int32} (hf : (fX10_formula x0 x1 x2).1 h = some (v, hE)) : Met l yX10_formula (wsY yX10_formula cX10_formula 3 (some .int)) (RM 5 122 h hE) (va_Pc [.ref (ρ x0), .int x1, .int x2] (PcB G ρ h z)) (QI G ρ v hE h.length z) (DC h hE) (DS h hE) (Af ρ h.length z) := by
  refine met_start (by decide) (Nat.le_of_ble_eq_true rfl) ?_
  intro p e s m below meth c ls hz C hW hl
  subst hz
  have C : Cx G "PairSymbolsModel" cX10_formula 3 (some .int) "formula" p s m _ meth c := C
  have hx := C.1
  have hb := C.2.1
  have hX : Ext hE hE := Ext.rf hE
  have hl : lv_has ls 3 [(0, .ref (ρ x0)), (1, .int x1), (2, .int x2)] := hl
  have hW : Wd G ρ h.length (sl h) s.heap h s.heap [] 0 0 := hW
  unfold fX10_formula at hf
  obtain ⟨_, e0, hf⟩ := pb_rd (rd_chk _ _) hf
  refine lv_iload_n hx hb dX10_formula_0 rfl (lv_at hl 1 rfl) ?_
  refine lv_i2l (v := x1.toInt64) hx hb dX10_formula_1 rfl ?_
  refine lv_lconst (v := 1) hx hb dX10_formula_2 (by decide) ?_
  refine r_ldc2 (v := 60) C (tq q_1065 rfl) dX10_formula_3 ?_
  obtain ⟨v1, h1, e1, hf⟩ := pb_some hf
  refine r_calli hW (pext e1) (run_S (As := [.long x1.toInt64, .long (1 : Int64), .long (60 : Int64)]) (rest := []) C hW (metX10_in l G ρ e1) ⟨rfl, rfl⟩ kcX10_in (tq q_834 rfl) kiX10_in knX10_in kdX10_in ⟨Nat.le_of_ble_eq_true rfl, Nat.le_of_ble_eq_true rfl⟩ hl.1 (Nat.le_of_ble_eq_true rfl) (room_of hW (pext e1) ((pext hf).tr hX)) dX10_formula_6 rfl) (fun H locs c1 s1 hW => ?_)
  refine lv_if_eq (tgt := 33) hx hb dX10_formula_9 (by decide) (fun c2 => ?_) (fun c2 => ?_)
  · rw [if_pos c2] at hf
    refine lv_aload_n hx hb dX10_formula_33 rfl (lv_at hl 0 rfl) ?_
    refine lv_bipush (v := -2) hx hb dX10_formula_34 (by decide) ?_
    obtain ⟨v3, h3, e3, hf⟩ := pb_some hf
    obtain ⟨_, _, t4⟩ := tgX10_refuses e3
    refine r_calli hW (pext e3) (run_V (b := x0) (As := [.int (-2 : Int32)]) (rest := []) C hW (metX10_refuses l G ρ e3) ⟨rfl, rfl⟩ kcX10_refuses (tq q_837 rfl) kiX10_refuses ksX10_refuses knX10_refuses kdX10_refuses t4 rfl rfl ⟨Nat.le_of_ble_eq_true rfl, Nat.le_of_ble_eq_true rfl⟩ hl.1 (Nat.le_of_ble_eq_true rfl) (room_of hW (pext e3) ((pext hf).tr hX)) dX10_formula_36 rfl) (fun H locs c1 s1 hW => ?_)
    obtain ⟨rfl, rfl⟩ := pp_some hf
    exact r_iret C hW dX10_formula_39
  · rw [if_neg c2] at hf
    refine lv_iload_n hx hb dX10_formula_12 rfl (lv_at hl 2 rfl) ?_
    refine lv_i2l (v := x2.toInt64) hx hb dX10_formula_13 rfl ?_
    refine lv_lconst (v := 0) hx hb dX10_formula_14 (by decide) ?_
    refine r_ldc2 (v := 5) C (tq q_1066 rfl) dX10_formula_15 ?_
    obtain ⟨v5, h5, e5, hf⟩ := pb_some hf
    refine r_calli hW (pext e5) (run_S (As := [.long x2.toInt64, .long (0 : Int64), .long (5 : Int64)]) (rest := []) C hW (metX10_in l G ρ e5) ⟨rfl, rfl⟩ kcX10_in (tq q_834 rfl) kiX10_in knX10_in kdX10_in ⟨Nat.le_of_ble_eq_true rfl, Nat.le_of_ble_eq_true rfl⟩ hl.1 (Nat.le_of_ble_eq_true rfl) (room_of hW (pext e5) ((pext hf).tr hX)) dX10_formula_18 rfl) (fun H locs c1 s1 hW => ?_)
    refine lv_if_eq (tgt := 33) hx hb dX10_formula_21 (by decide) (fun c6 => ?_) (fun c6 => ?_)
    · rw [if_pos c6] at hf
      refine lv_aload_n hx hb dX10_formula_33 rfl (lv_at hl 0 rfl) ?_
      refine lv_bipush (v := -2) hx hb dX10_formula_34 (by decide) ?_
      obtain ⟨v7, h7, e7, hf⟩ := pb_some hf
      obtain ⟨_, _, t8⟩ := tgX10_refuses e7
      refine r_calli hW (pext e7) (run_V (b := x0) (As := [.int (-2 : Int32)]) (rest := []) C hW (metX10_refuses l G ρ e7) ⟨rfl, rfl⟩ kcX10_refuses (tq q_837 rfl) kiX10_refuses ksX10_refuses knX10_refuses kdX10_refuses t8 rfl rfl ⟨Nat.le_of_ble_eq_true rfl, Nat.le_of_ble_eq_true rfl⟩ hl.1 (Nat.le_of_ble_eq_true rfl) (room_of hW (pext e7) ((pext hf).tr hX)) dX10_formula_36 rfl) (fun H locs c1 s1 hW => ?_)
      obtain ⟨rfl, rfl⟩ := pp_some hf
      exact r_iret C hW dX10_formula_39
    · rw [if_neg c6] at hf
      refine lv_aload_n hx hb dX10_formula_24 rfl (lv_at hl 0 rfl) ?_
      refine lv_iload_n hx hb dX10_formula_25 rfl (lv_at hl 1 rfl) ?_
      refine lv_iload_n hx hb dX10_formula_26 rfl (lv_at hl 2 rfl) ?_
      obtain ⟨v9, h9, e9, hf⟩ := pb_some hf
      obtain ⟨_, _, t10⟩ := tgX10_formulaNow e9
      refine r_calli hW (pext e9) (run_V (b := x0) (As := [.int x1, .int x2]) (rest := []) C hW (metX10_formulaNow l G ρ e9) ⟨rfl, rfl⟩ kcX10_formulaNow (tq q_1067 rfl) kiX10_formulaNow ksX10_formulaNow knX10_formulaNow kdX10_formulaNow t10 rfl rfl ⟨Nat.le_of_ble_eq_true rfl, Nat.le_of_ble_eq_true rfl⟩ hl.1 (Nat.le_of_ble_eq_true rfl) (room_of hW (pext e9) ((pext hf).tr hX)) dX10_formula_27 rfl) (fun H locs c1 s1 hW => ?_)
      refine lv_goto (tgt := 39) hx hb dX10_formula_30 (by decide) ?_
      obtain ⟨rfl, rfl⟩ := pp_some hf
      exact r_iret C hW dX10_formula_39

theorem dX10_laysSum_0 : decode cX10_laysSum 0 = .ok (.iconst 0, 1) := by decide +kernel
theorem dX10_laysSum_1 : decode cX10_laysSum 1 = .ok (.istore_n 1, 1) := by decide +kernel
theorem dX10_laysSum_2 : decode cX10_laysSum 2 = .ok (.iload_n 1, 1) := by decide +kernel
theorem dX10_laysSum_3 : decode cX10_laysSum 3 = .ok (.bipush 16, 2) := by decide +kernel
theorem dX10_laysSum_5 : decode cX10_laysSum 5 = .ok (.if_icmp .ge 41, 3) := by decide +kernel
theorem dX10_laysSum_8 : decode cX10_laysSum 8 = .ok (.aload_n 0, 1) := by decide +kernel
theorem dX10_laysSum_9 : decode cX10_laysSum 9 = .ok (.getfield 111, 3) := by decide +kernel
theorem dX10_laysSum_12 : decode cX10_laysSum 12 = .ok (.iload_n 1, 1) := by decide +kernel
theorem dX10_laysSum_13 : decode cX10_laysSum 13 = .ok (.aload_n 0, 1) := by decide +kernel
theorem dX10_laysSum_14 : decode cX10_laysSum 14 = .ok (.getfield 7, 3) := by decide +kernel
theorem dX10_laysSum_17 : decode cX10_laysSum 17 = .ok (.iconst 1, 1) := by decide +kernel
theorem dX10_laysSum_18 : decode cX10_laysSum 18 = .ok (.iconst 2, 1) := by decide +kernel
theorem dX10_laysSum_19 : decode cX10_laysSum 19 = .ok (.iload_n 1, 1) := by decide +kernel
theorem dX10_laysSum_20 : decode cX10_laysSum 20 = .ok (.imul, 1) := by decide +kernel
theorem dX10_laysSum_21 : decode cX10_laysSum 21 = .ok (.iadd, 1) := by decide +kernel
theorem dX10_laysSum_22 : decode cX10_laysSum 22 = .ok (.laload, 1) := by decide +kernel
theorem dX10_laysSum_23 : decode cX10_laysSum 23 = .ok (.lastore, 1) := by decide +kernel
theorem dX10_laysSum_24 : decode cX10_laysSum 24 = .ok (.aload_n 0, 1) := by decide +kernel
theorem dX10_laysSum_25 : decode cX10_laysSum 25 = .ok (.getfield 114, 3) := by decide +kernel
theorem dX10_laysSum_28 : decode cX10_laysSum 28 = .ok (.iload_n 1, 1) := by decide +kernel
theorem dX10_laysSum_29 : decode cX10_laysSum 29 = .ok (.aload_n 0, 1) := by decide +kernel
theorem dX10_laysSum_30 : decode cX10_laysSum 30 = .ok (.getfield 7, 3) := by decide +kernel
theorem dX10_laysSum_33 : decode cX10_laysSum 33 = .ok (.iconst 2, 1) := by decide +kernel
theorem dX10_laysSum_34 : decode cX10_laysSum 34 = .ok (.iconst 2, 1) := by decide +kernel
theorem dX10_laysSum_35 : decode cX10_laysSum 35 = .ok (.iload_n 1, 1) := by decide +kernel
theorem dX10_laysSum_36 : decode cX10_laysSum 36 = .ok (.imul, 1) := by decide +kernel
theorem dX10_laysSum_37 : decode cX10_laysSum 37 = .ok (.iadd, 1) := by decide +kernel
theorem dX10_laysSum_38 : decode cX10_laysSum 38 = .ok (.laload, 1) := by decide +kernel
theorem dX10_laysSum_39 : decode cX10_laysSum 39 = .ok (.lastore, 1) := by decide +kernel
theorem dX10_laysSum_40 : decode cX10_laysSum 40 = .ok (.iinc 1 1, 3) := by decide +kernel
theorem dX10_laysSum_43 : decode cX10_laysSum 43 = .ok (.goto (-41), 3) := by decide +kernel
theorem dX10_laysSum_46 : decode cX10_laysSum 46 = .ok (.return_, 1) := by decide +kernel
theorem kcX10_laysSum : Cond.code yX10_laysSum cX10_laysSum 2 none ∈ tb := tq q_1103 rfl
theorem knX10_laysSum : Cond.initialized yX10_laysSum.cls ∈ tb := (tq q_10 rfl)
theorem kdX10_laysSum : yX10_laysSum.cls ≠ "java/lang/invoke/MethodHandle" ∧ yX10_laysSum.cls ≠ "java/lang/invoke/VarHandle" ∧ (parseMethodDescriptor yX10_laysSum.desc).map (fun d => d.parameters.length) = some 0 := ⟨by decide +kernel, by decide +kernel, by decide +kernel⟩
theorem kiX10_laysSum : Cond.instanceMethod yX10_laysSum ∈ tb := (tq q_1102 rfl)
theorem ksX10_laysSum : Cond.selects yX10_laysSum.cls yX10_laysSum yX10_laysSum ∈ tb := (tq z_71 rfl)
theorem tgX10_laysSum {x0 : Nat} {h : PH} {r : Unit × PH} (hf : (fX10_laysSum x0).1 h = some r) : ∃ n x, nth h x0 = some (9, n, x) := by
  obtain ⟨_, _, e, _⟩ := pb_some hf
  exact (chk_some e).2
set_option maxHeartbeats 4000000 in
set_option maxRecDepth 100000 in
theorem wX10_laysSum_B2 {p : Program} {l : Launch} {e : Env} {s : State} {m : MethodId} {args : Array Value} {below : List Frame} {meth : Method} {c : Code} {G : GG} {ρ : Nat → Nat} {h0 hE hB : PH} {Q : State → Prop} {x0 : Nat} (C : Cx G "PairSymbolsModel" cX10_laysSum 2 none "laysSum" p s m args meth c) {x1 : Int32} {h : PH} {H : Heap} {locs : List Loc} {cells slots : Nat} {ls : Array Slot} {r : (Int32) ⊕ (Unit)} (hf : (fX10_laysSum_b2 x0 x1).1 h = some (r, hB)) (hX : Ext hB hE) (hW : Wd G ρ h0.length (sl h0) s.heap h H locs cells slots) (hl : lv_has ls 2 [(0, .ref (ρ x0)), (1, .int x1)]) (kc : ∀ y : Int32, r = .inl y → ∀ (H : Heap) (locs : List Loc) (c1 s1 : Nat) (ls : Array Slot), Wd G ρ h0.length (sl h0) s.heap hB H locs c1 s1 → lv_has ls 2 [(0, .ref (ρ x0)), (1, .int y)] → W p l e (RM 0 0 h0 hE) s m args below meth c H locs c1 s1 Q (F0 m 2 ls [])) (ke : ∀ z : Unit, r = .inr z → ∀ (H : Heap) (locs : List Loc) (c1 s1 : Nat) (ls : Array Slot), Wd G ρ h0.length (sl h0) s.heap hB H locs c1 s1 → lv_has ls 2 [] → W p l e (RM 0 0 h0 hE) s m args below meth c H locs c1 s1 Q (F0 m 46 ls [])) : W p l e (RM 0 0 h0 hE) s m args below meth c H locs cells slots Q (F0 m 2 ls []) := by
  have hx := C.1
  have hb := C.2.1
  unfold fX10_laysSum_b2 at hf
  refine lv_iload_n hx hb dX10_laysSum_2 rfl (lv_at hl 1 rfl) ?_
  refine lv_bipush (v := 16) hx hb dX10_laysSum_3 (by decide) ?_
  refine lv_icmp_ge (tgt := 46) hx hb dX10_laysSum_5 (by decide) (fun c1 => ?_) (fun c1 => ?_)
  · rw [if_pos c1] at hf
    obtain ⟨rfl, rfl⟩ := pp_some hf
    exact ke _ rfl _ _ _ _ _ hW (lv_sub hl [] rfl)
  · rw [if_neg c1] at hf
    refine lv_aload_n hx hb dX10_laysSum_8 rfl (lv_at hl 0 rfl) ?_
    obtain ⟨v2, e2, hf⟩ := pb_rd (rd_gA _ _ _) hf
    refine r_gA C hW e2 flX10_111 rfl dX10_laysSum_9 ?_
    refine lv_iload_n hx hb dX10_laysSum_12 rfl (lv_at hl 1 rfl) ?_
    refine lv_aload_n hx hb dX10_laysSum_13 rfl (lv_at hl 0 rfl) ?_
    obtain ⟨v3, e3, hf⟩ := pb_rd (rd_gA _ _ _) hf
    refine r_gA C hW e3 flX10_7 rfl dX10_laysSum_14 ?_
    refine lv_iconst (v := 1) hx hb dX10_laysSum_17 (by decide) ?_
    refine lv_iconst (v := 2) hx hb dX10_laysSum_18 (by decide) ?_
    refine lv_iload_n hx hb dX10_laysSum_19 rfl (lv_at hl 1 rfl) ?_
    refine lv_imul hx hb dX10_laysSum_20 ?_
    refine lv_iadd hx hb dX10_laysSum_21 ?_
    obtain ⟨v4, e4, hf⟩ := pb_rd (rd_lJ _ _ _) hf
    refine r_lald C hW e4 dX10_laysSum_22 ?_
    obtain ⟨_, h5, e5, hf⟩ := pb_some hf
    refine r_last C hW e5 dX10_laysSum_23 (fun H locs hW => ?_)
    refine lv_aload_n hx hb dX10_laysSum_24 rfl (lv_at hl 0 rfl) ?_
    obtain ⟨v6, e6, hf⟩ := pb_rd (rd_gA _ _ _) hf
    refine r_gA C hW e6 flX10_114 rfl dX10_laysSum_25 ?_
    refine lv_iload_n hx hb dX10_laysSum_28 rfl (lv_at hl 1 rfl) ?_
    refine lv_aload_n hx hb dX10_laysSum_29 rfl (lv_at hl 0 rfl) ?_
    obtain ⟨v7, e7, hf⟩ := pb_rd (rd_gA _ _ _) hf
    refine r_gA C hW e7 flX10_7 rfl dX10_laysSum_30 ?_
    refine lv_iconst (v := 2) hx hb dX10_laysSum_33 (by decide) ?_
    refine lv_iconst (v := 2) hx hb dX10_laysSum_34 (by decide) ?_
    refine lv_iload_n hx hb dX10_laysSum_35 rfl (lv_at hl 1 rfl) ?_
    refine lv_imul hx hb dX10_laysSum_36 ?_
    refine lv_iadd hx hb dX10_laysSum_37 ?_
    obtain ⟨v8, e8, hf⟩ := pb_rd (rd_lJ _ _ _) hf
    refine r_lald C hW e8 dX10_laysSum_38 ?_
    obtain ⟨_, h9, e9, hf⟩ := pb_some hf
    refine r_last C hW e9 dX10_laysSum_39 (fun H locs hW => ?_)
    refine lv_iinc (v := (x1 + 1)) (lv' := [(1, .int (x1 + 1)), (0, .ref (ρ x0))]) hx hb dX10_laysSum_40 hl (k := 1) rfl rfl (by decide) rfl (fun ls hl => ?_)
    refine lv_goto (tgt := 2) hx hb dX10_laysSum_43 (by decide) ?_
    obtain ⟨rfl, rfl⟩ := pp_some hf
    exact kc _ rfl _ _ _ _ _ hW (lv_sub hl [1, 0] rfl)
set_option maxHeartbeats 4000000 in
theorem wX10_laysSum_L2 {p : Program} {l : Launch} {e : Env} {s : State} {m : MethodId} {args : Array Value} {below : List Frame} {meth : Method} {c : Code} {G : GG} {ρ : Nat → Nat} {h0 hE hB : PH} {Q : State → Prop} {x0 : Nat} (C : Cx G "PairSymbolsModel" cX10_laysSum 2 none "laysSum" p s m args meth c) {z : (Unit)} (n : Nat) : ∀ (x : Int32) {h : PH} {H : Heap} {locs : List Loc} {cells slots : Nat} {ls : Array Slot}, (plo (fX10_laysSum_B2 x0) n x).1 h = some (z, hB) → Ext hB hE → Wd G ρ h0.length (sl h0) s.heap h H locs cells slots → lv_has ls 2 [(0, .ref (ρ x0)), (1, .int x)] → (ke : ∀ (H : Heap) (locs : List Loc) (c1 s1 : Nat) (ls : Array Slot), Wd G ρ h0.length (sl h0) s.heap hB H locs c1 s1 → lv_has ls 2 [] → W p l e (RM 0 0 h0 hE) s m args below meth c H locs c1 s1 Q (F0 m 46 ls [])) → W p l e (RM 0 0 h0 hE) s m args below meth c H locs cells slots Q (F0 m 2 ls []) := by
  induction n with
  | zero =>
    intro x h H locs cells slots ls hf
    rw [plo_0] at hf
    exact (pf_no hf).elim
  | succ n ih =>
    intro x h H locs cells slots ls hf hX hW hl ke
    rw [plo_s] at hf
    obtain ⟨r, h1, e1, hf⟩ := pb_some hf
    unfold fX10_laysSum_B2 at e1
    rw [frI_eq] at e1
    refine wX10_laysSum_B2 C e1 ((pext hf).tr hX) hW hl (fun y hr H locs c1 s1 ls hW hl => ?_) (fun y hr H locs c1 s1 ls hW hl => ?_)
    · subst hr
      exact ih y hf hX hW hl ke
    · subst hr
      obtain ⟨rfl, rfl⟩ := pp_some hf
      exact ke H locs c1 s1 ls hW hl
set_option maxHeartbeats 4000000 in
set_option maxRecDepth 100000 in
theorem metX10_laysSum (l : Launch) (G : GG) (ρ : Nat → Nat) {z : Nat} {x0 : Nat} {h hE : PH} {v : Unit} (hf : (fX10_laysSum x0).1 h = some (v, hE)) : Met l yX10_laysSum (wsY yX10_laysSum cX10_laysSum 2 none) (RM 0 0 h hE) (va_Pc [.ref (ρ x0)] (PcB G ρ h z)) (QV G ρ hE h.length z) (DC h hE) (DS h hE) (Af ρ h.length z) := by
  refine met_start (by decide) (Nat.le_of_ble_eq_true rfl) ?_
  intro p e s m below meth c ls hz C hW hl
  subst hz
  have C : Cx G "PairSymbolsModel" cX10_laysSum 2 none "laysSum" p s m _ meth c := C
  have hx := C.1
  have hb := C.2.1
  have hX : Ext hE hE := Ext.rf hE
  have hl : lv_has ls 2 [(0, .ref (ρ x0))] := hl
  have hW : Wd G ρ h.length (sl h) s.heap h s.heap [] 0 0 := hW
  unfold fX10_laysSum at hf
  obtain ⟨_, e0, hf⟩ := pb_rd (rd_chk _ _) hf
  refine lv_iconst (v := 0) hx hb dX10_laysSum_0 (by decide) ?_
  refine lv_istore_n (lv' := [(1, .int (0 : Int32)), (0, .ref (ρ x0))]) hx hb dX10_laysSum_1 rfl hl (by decide) rfl (fun ls hl => ?_)
  obtain ⟨z10, h10, e10, hf⟩ := pb_some hf
  refine wX10_laysSum_L2 C fu _ e10 ((pext hf).tr hX) hW (lv_sub hl [1, 0] rfl) (fun H locs c1 s1 ls hW hl => ?_)
  obtain ⟨rfl, rfl⟩ := pp_some hf
  exact r_vret C hW dX10_laysSum_46

theorem dX10_addsTo_0 : decode cX10_addsTo 0 = .ok (.iconst 0, 1) := by decide +kernel
theorem dX10_addsTo_1 : decode cX10_addsTo 1 = .ok (.istore 4, 2) := by decide +kernel
theorem dX10_addsTo_3 : decode cX10_addsTo 3 = .ok (.iload 4, 2) := by decide +kernel
theorem dX10_addsTo_5 : decode cX10_addsTo 5 = .ok (.aload_n 0, 1) := by decide +kernel
theorem dX10_addsTo_6 : decode cX10_addsTo 6 = .ok (.getfield 192, 3) := by decide +kernel
theorem dX10_addsTo_9 : decode cX10_addsTo 9 = .ok (.if_icmp .ge 80, 3) := by decide +kernel
theorem dX10_addsTo_12 : decode cX10_addsTo 12 = .ok (.iload_n 1, 1) := by decide +kernel
theorem dX10_addsTo_13 : decode cX10_addsTo 13 = .ok (.iconst (-1), 1) := by decide +kernel
theorem dX10_addsTo_14 : decode cX10_addsTo 14 = .ok (.if_icmp .eq 75, 3) := by decide +kernel
theorem dX10_addsTo_17 : decode cX10_addsTo 17 = .ok (.aload_n 0, 1) := by decide +kernel
theorem dX10_addsTo_18 : decode cX10_addsTo 18 = .ok (.aload_n 0, 1) := by decide +kernel
theorem dX10_addsTo_19 : decode cX10_addsTo 19 = .ok (.getfield 111, 3) := by decide +kernel
theorem dX10_addsTo_22 : decode cX10_addsTo 22 = .ok (.iload 4, 2) := by decide +kernel
theorem dX10_addsTo_24 : decode cX10_addsTo 24 = .ok (.laload, 1) := by decide +kernel
theorem dX10_addsTo_25 : decode cX10_addsTo 25 = .ok (.aload_n 0, 1) := by decide +kernel
theorem dX10_addsTo_26 : decode cX10_addsTo 26 = .ok (.getfield 114, 3) := by decide +kernel
theorem dX10_addsTo_29 : decode cX10_addsTo 29 = .ok (.iload 4, 2) := by decide +kernel
theorem dX10_addsTo_31 : decode cX10_addsTo 31 = .ok (.laload, 1) := by decide +kernel
theorem dX10_addsTo_32 : decode cX10_addsTo 32 = .ok (.lload_n 2, 1) := by decide +kernel
theorem dX10_addsTo_33 : decode cX10_addsTo 33 = .ok (.lconst 1, 1) := by decide +kernel
theorem dX10_addsTo_34 : decode cX10_addsTo 34 = .ok (.aload_n 0, 1) := by decide +kernel
theorem dX10_addsTo_35 : decode cX10_addsTo 35 = .ok (.getfield 51, 3) := by decide +kernel
theorem dX10_addsTo_38 : decode cX10_addsTo 38 = .ok (.bipush 16, 2) := by decide +kernel
theorem dX10_addsTo_40 : decode cX10_addsTo 40 = .ok (.iload_n 1, 1) := by decide +kernel
theorem dX10_addsTo_41 : decode cX10_addsTo 41 = .ok (.imul, 1) := by decide +kernel
theorem dX10_addsTo_42 : decode cX10_addsTo 42 = .ok (.iload 4, 2) := by decide +kernel
theorem dX10_addsTo_44 : decode cX10_addsTo 44 = .ok (.iadd, 1) := by decide +kernel
theorem dX10_addsTo_45 : decode cX10_addsTo 45 = .ok (.laload, 1) := by decide +kernel
theorem dX10_addsTo_46 : decode cX10_addsTo 46 = .ok (.aload_n 0, 1) := by decide +kernel
theorem dX10_addsTo_47 : decode cX10_addsTo 47 = .ok (.getfield 54, 3) := by decide +kernel
theorem dX10_addsTo_50 : decode cX10_addsTo 50 = .ok (.bipush 16, 2) := by decide +kernel
theorem dX10_addsTo_52 : decode cX10_addsTo 52 = .ok (.iload_n 1, 1) := by decide +kernel
theorem dX10_addsTo_53 : decode cX10_addsTo 53 = .ok (.imul, 1) := by decide +kernel
theorem dX10_addsTo_54 : decode cX10_addsTo 54 = .ok (.iload 4, 2) := by decide +kernel
theorem dX10_addsTo_56 : decode cX10_addsTo 56 = .ok (.iadd, 1) := by decide +kernel
theorem dX10_addsTo_57 : decode cX10_addsTo 57 = .ok (.laload, 1) := by decide +kernel
theorem dX10_addsTo_58 : decode cX10_addsTo 58 = .ok (.invokevirtual 169, 3) := by decide +kernel
theorem dX10_addsTo_61 : decode cX10_addsTo 61 = .ok (.aload_n 0, 1) := by decide +kernel
theorem dX10_addsTo_62 : decode cX10_addsTo 62 = .ok (.getfield 111, 3) := by decide +kernel
theorem dX10_addsTo_65 : decode cX10_addsTo 65 = .ok (.iload 4, 2) := by decide +kernel
theorem dX10_addsTo_67 : decode cX10_addsTo 67 = .ok (.aload_n 0, 1) := by decide +kernel
theorem dX10_addsTo_68 : decode cX10_addsTo 68 = .ok (.getfield 133, 3) := by decide +kernel
theorem dX10_addsTo_71 : decode cX10_addsTo 71 = .ok (.lastore, 1) := by decide +kernel
theorem dX10_addsTo_72 : decode cX10_addsTo 72 = .ok (.aload_n 0, 1) := by decide +kernel
theorem dX10_addsTo_73 : decode cX10_addsTo 73 = .ok (.getfield 114, 3) := by decide +kernel
theorem dX10_addsTo_76 : decode cX10_addsTo 76 = .ok (.iload 4, 2) := by decide +kernel
theorem dX10_addsTo_78 : decode cX10_addsTo 78 = .ok (.aload_n 0, 1) := by decide +kernel
theorem dX10_addsTo_79 : decode cX10_addsTo 79 = .ok (.getfield 137, 3) := by decide +kernel
theorem dX10_addsTo_82 : decode cX10_addsTo 82 = .ok (.lastore, 1) := by decide +kernel
theorem dX10_addsTo_83 : decode cX10_addsTo 83 = .ok (.iinc 4 1, 3) := by decide +kernel
theorem dX10_addsTo_86 : decode cX10_addsTo 86 = .ok (.goto (-83), 3) := by decide +kernel
theorem dX10_addsTo_89 : decode cX10_addsTo 89 = .ok (.return_, 1) := by decide +kernel
theorem kcX10_addsTo : Cond.code yX10_addsTo cX10_addsTo 5 none ∈ tb := tq q_1107 rfl
theorem knX10_addsTo : Cond.initialized yX10_addsTo.cls ∈ tb := (tq q_10 rfl)
theorem kdX10_addsTo : yX10_addsTo.cls ≠ "java/lang/invoke/MethodHandle" ∧ yX10_addsTo.cls ≠ "java/lang/invoke/VarHandle" ∧ (parseMethodDescriptor yX10_addsTo.desc).map (fun d => d.parameters.length) = some 2 := ⟨by decide +kernel, by decide +kernel, by decide +kernel⟩
theorem kiX10_addsTo : Cond.instanceMethod yX10_addsTo ∈ tb := (tq q_1106 rfl)
theorem ksX10_addsTo : Cond.selects yX10_addsTo.cls yX10_addsTo yX10_addsTo ∈ tb := (tq z_72 rfl)
theorem tgX10_addsTo {x0 : Nat} {x1 : Int32} {x2 : Int64} {h : PH} {r : Unit × PH} (hf : (fX10_addsTo x0 x1 x2).1 h = some r) : ∃ n x, nth h x0 = some (9, n, x) := by
  obtain ⟨_, _, e, _⟩ := pb_some hf
  exact (chk_some e).2
set_option maxHeartbeats 4000000 in
set_option maxRecDepth 100000 in
theorem wX10_addsTo_B3 {p : Program} {l : Launch} {e : Env} {s : State} {m : MethodId} {args : Array Value} {below : List Frame} {meth : Method} {c : Code} {G : GG} {ρ : Nat → Nat} {h0 hE hB : PH} {Q : State → Prop} {x0 : Nat} {x1 : Int32} {x2 : Int64} (C : Cx G "PairSymbolsModel" cX10_addsTo 5 none "addsTo" p s m args meth c) {x4 : Int32} {h : PH} {H : Heap} {locs : List Loc} {cells slots : Nat} {ls : Array Slot} {r : (Int32) ⊕ (Unit)} (hf : (fX10_addsTo_b3 x0 x1 x2 x4).1 h = some (r, hB)) (hX : Ext hB hE) (hW : Wd G ρ h0.length (sl h0) s.heap h H locs cells slots) (hl : lv_has ls 5 [(0, .ref (ρ x0)), (1, .int x1), (2, .long x2), (4, .int x4)]) (kc : ∀ y : Int32, r = .inl y → ∀ (H : Heap) (locs : List Loc) (c1 s1 : Nat) (ls : Array Slot), Wd G ρ h0.length (sl h0) s.heap hB H locs c1 s1 → lv_has ls 5 [(0, .ref (ρ x0)), (1, .int x1), (2, .long x2), (4, .int y)] → W p l e (RM 4 115 h0 hE) s m args below meth c H locs c1 s1 Q (F0 m 3 ls [])) (ke : ∀ z : Unit, r = .inr z → ∀ (H : Heap) (locs : List Loc) (c1 s1 : Nat) (ls : Array Slot), Wd G ρ h0.length (sl h0) s.heap hB H locs c1 s1 → lv_has ls 5 [] → W p l e (RM 4 115 h0 hE) s m args below meth c H locs c1 s1 Q (F0 m 89 ls [])) : W p l e (RM 4 115 h0 hE) s m args below meth c H locs cells slots Q (F0 m 3 ls []) := by
  have hx := C.1
  have hb := C.2.1
  unfold fX10_addsTo_b3 at hf
  refine lv_iload hx hb dX10_addsTo_3 (lv_at hl 3 rfl) ?_
  refine lv_aload_n hx hb dX10_addsTo_5 rfl (lv_at hl 0 rfl) ?_
  obtain ⟨v1, e1, hf⟩ := pb_rd (rd_gI _ _ _) hf
  refine r_gI C hW e1 flX10_192 rfl dX10_addsTo_6 ?_
  refine lv_icmp_ge (tgt := 89) hx hb dX10_addsTo_9 (by decide) (fun c2 => ?_) (fun c2 => ?_)
  · rw [if_pos c2] at hf
    obtain ⟨rfl, rfl⟩ := pp_some hf
    exact ke _ rfl _ _ _ _ _ hW (lv_sub hl [] rfl)
  · rw [if_neg c2] at hf
    refine lv_iload_n hx hb dX10_addsTo_12 rfl (lv_at hl 1 rfl) ?_
    refine lv_iconst (v := -1) hx hb dX10_addsTo_13 (by decide) ?_
    refine lv_icmp_eq (tgt := 89) hx hb dX10_addsTo_14 (by decide) (fun c3 => ?_) (fun c3 => ?_)
    · rw [if_pos c3] at hf
      obtain ⟨rfl, rfl⟩ := pp_some hf
      exact ke _ rfl _ _ _ _ _ hW (lv_sub hl [] rfl)
    · rw [if_neg c3] at hf
      refine lv_aload_n hx hb dX10_addsTo_17 rfl (lv_at hl 0 rfl) ?_
      refine lv_aload_n hx hb dX10_addsTo_18 rfl (lv_at hl 0 rfl) ?_
      obtain ⟨v4, e4, hf⟩ := pb_rd (rd_gA _ _ _) hf
      refine r_gA C hW e4 flX10_111 rfl dX10_addsTo_19 ?_
      refine lv_iload hx hb dX10_addsTo_22 (lv_at hl 3 rfl) ?_
      obtain ⟨v5, e5, hf⟩ := pb_rd (rd_lJ _ _ _) hf
      refine r_lald C hW e5 dX10_addsTo_24 ?_
      refine lv_aload_n hx hb dX10_addsTo_25 rfl (lv_at hl 0 rfl) ?_
      obtain ⟨v6, e6, hf⟩ := pb_rd (rd_gA _ _ _) hf
      refine r_gA C hW e6 flX10_114 rfl dX10_addsTo_26 ?_
      refine lv_iload hx hb dX10_addsTo_29 (lv_at hl 3 rfl) ?_
      obtain ⟨v7, e7, hf⟩ := pb_rd (rd_lJ _ _ _) hf
      refine r_lald C hW e7 dX10_addsTo_31 ?_
      refine lv_lload_n hx hb dX10_addsTo_32 rfl (lv_at hl 2 rfl) ?_
      refine lv_lconst (v := 1) hx hb dX10_addsTo_33 (by decide) ?_
      refine lv_aload_n hx hb dX10_addsTo_34 rfl (lv_at hl 0 rfl) ?_
      obtain ⟨v8, e8, hf⟩ := pb_rd (rd_gA _ _ _) hf
      refine r_gA C hW e8 flX10_51 rfl dX10_addsTo_35 ?_
      refine lv_bipush (v := 16) hx hb dX10_addsTo_38 (by decide) ?_
      refine lv_iload_n hx hb dX10_addsTo_40 rfl (lv_at hl 1 rfl) ?_
      refine lv_imul hx hb dX10_addsTo_41 ?_
      refine lv_iload hx hb dX10_addsTo_42 (lv_at hl 3 rfl) ?_
      refine lv_iadd hx hb dX10_addsTo_44 ?_
      obtain ⟨v9, e9, hf⟩ := pb_rd (rd_lJ _ _ _) hf
      refine r_lald C hW e9 dX10_addsTo_45 ?_
      refine lv_aload_n hx hb dX10_addsTo_46 rfl (lv_at hl 0 rfl) ?_
      obtain ⟨v10, e10, hf⟩ := pb_rd (rd_gA _ _ _) hf
      refine r_gA C hW e10 flX10_54 rfl dX10_addsTo_47 ?_
      refine lv_bipush (v := 16) hx hb dX10_addsTo_50 (by decide) ?_
      refine lv_iload_n hx hb dX10_addsTo_52 rfl (lv_at hl 1 rfl) ?_
      refine lv_imul hx hb dX10_addsTo_53 ?_
      refine lv_iload hx hb dX10_addsTo_54 (lv_at hl 3 rfl) ?_
      refine lv_iadd hx hb dX10_addsTo_56 ?_
      obtain ⟨v11, e11, hf⟩ := pb_rd (rd_lJ _ _ _) hf
      refine r_lald C hW e11 dX10_addsTo_57 ?_
      obtain ⟨_, h12, e12, hf⟩ := pb_some hf
      obtain ⟨_, _, t13⟩ := tgX10_more e12
      refine r_callv hW (pext e12) (run_V (b := x0) (As := [.long v5, .long v7, .long x2, .long (1 : Int64), .long v9, .long v11]) (rest := []) C hW (metX10_more l G ρ e12) ⟨rfl, rfl⟩ kcX10_more (tq q_919 rfl) kiX10_more ksX10_more knX10_more kdX10_more t13 rfl rfl ⟨Nat.le_of_ble_eq_true rfl, Nat.le_of_ble_eq_true rfl⟩ hl.1 (Nat.le_of_ble_eq_true rfl) (room_of hW (pext e12) ((pext hf).tr hX)) dX10_addsTo_58 rfl) (fun H locs c1 s1 hW => ?_)
      refine lv_aload_n hx hb dX10_addsTo_61 rfl (lv_at hl 0 rfl) ?_
      obtain ⟨v14, e14, hf⟩ := pb_rd (rd_gA _ _ _) hf
      refine r_gA C hW e14 flX10_111 rfl dX10_addsTo_62 ?_
      refine lv_iload hx hb dX10_addsTo_65 (lv_at hl 3 rfl) ?_
      refine lv_aload_n hx hb dX10_addsTo_67 rfl (lv_at hl 0 rfl) ?_
      obtain ⟨v15, e15, hf⟩ := pb_rd (rd_gJ _ _ _) hf
      refine r_gJ C hW e15 flX10_133 rfl dX10_addsTo_68 ?_
      obtain ⟨_, h16, e16, hf⟩ := pb_some hf
      refine r_last C hW e16 dX10_addsTo_71 (fun H locs hW => ?_)
      refine lv_aload_n hx hb dX10_addsTo_72 rfl (lv_at hl 0 rfl) ?_
      obtain ⟨v17, e17, hf⟩ := pb_rd (rd_gA _ _ _) hf
      refine r_gA C hW e17 flX10_114 rfl dX10_addsTo_73 ?_
      refine lv_iload hx hb dX10_addsTo_76 (lv_at hl 3 rfl) ?_
      refine lv_aload_n hx hb dX10_addsTo_78 rfl (lv_at hl 0 rfl) ?_
      obtain ⟨v18, e18, hf⟩ := pb_rd (rd_gJ _ _ _) hf
      refine r_gJ C hW e18 flX10_137 rfl dX10_addsTo_79 ?_
      obtain ⟨_, h19, e19, hf⟩ := pb_some hf
      refine r_last C hW e19 dX10_addsTo_82 (fun H locs hW => ?_)
      refine lv_iinc (v := (x4 + 1)) (lv' := [(4, .int (x4 + 1)), (0, .ref (ρ x0)), (1, .int x1), (2, .long x2)]) hx hb dX10_addsTo_83 hl (k := 3) rfl rfl (by decide) rfl (fun ls hl => ?_)
      refine lv_goto (tgt := 3) hx hb dX10_addsTo_86 (by decide) ?_
      obtain ⟨rfl, rfl⟩ := pp_some hf
      exact kc _ rfl _ _ _ _ _ hW (lv_sub hl [1, 2, 3, 0] rfl)
set_option maxHeartbeats 4000000 in
theorem wX10_addsTo_L3 {p : Program} {l : Launch} {e : Env} {s : State} {m : MethodId} {args : Array Value} {below : List Frame} {meth : Method} {c : Code} {G : GG} {ρ : Nat → Nat} {h0 hE hB : PH} {Q : State → Prop} {x0 : Nat} {x1 : Int32} {x2 : Int64} (C : Cx G "PairSymbolsModel" cX10_addsTo 5 none "addsTo" p s m args meth c) {z : (Unit)} (n : Nat) : ∀ (x : Int32) {h : PH} {H : Heap} {locs : List Loc} {cells slots : Nat} {ls : Array Slot}, (plo (fX10_addsTo_B3 x0 x1 x2) n x).1 h = some (z, hB) → Ext hB hE → Wd G ρ h0.length (sl h0) s.heap h H locs cells slots → lv_has ls 5 [(0, .ref (ρ x0)), (1, .int x1), (2, .long x2), (4, .int x)] → (ke : ∀ (H : Heap) (locs : List Loc) (c1 s1 : Nat) (ls : Array Slot), Wd G ρ h0.length (sl h0) s.heap hB H locs c1 s1 → lv_has ls 5 [] → W p l e (RM 4 115 h0 hE) s m args below meth c H locs c1 s1 Q (F0 m 89 ls [])) → W p l e (RM 4 115 h0 hE) s m args below meth c H locs cells slots Q (F0 m 3 ls []) := by
  induction n with
  | zero =>
    intro x h H locs cells slots ls hf
    rw [plo_0] at hf
    exact (pf_no hf).elim
  | succ n ih =>
    intro x h H locs cells slots ls hf hX hW hl ke
    rw [plo_s] at hf
    obtain ⟨r, h1, e1, hf⟩ := pb_some hf
    unfold fX10_addsTo_B3 at e1
    rw [frI_eq] at e1
    refine wX10_addsTo_B3 C e1 ((pext hf).tr hX) hW hl (fun y hr H locs c1 s1 ls hW hl => ?_) (fun y hr H locs c1 s1 ls hW hl => ?_)
    · subst hr
      exact ih y hf hX hW hl ke
    · subst hr
      obtain ⟨rfl, rfl⟩ := pp_some hf
      exact ke H locs c1 s1 ls hW hl
set_option maxHeartbeats 4000000 in
set_option maxRecDepth 100000 in
theorem metX10_addsTo (l : Launch) (G : GG) (ρ : Nat → Nat) {z : Nat} {x0 : Nat} {x1 : Int32} {x2 : Int64} {h hE : PH} {v : Unit} (hf : (fX10_addsTo x0 x1 x2).1 h = some (v, hE)) : Met l yX10_addsTo (wsY yX10_addsTo cX10_addsTo 5 none) (RM 4 115 h hE) (va_Pc [.ref (ρ x0), .int x1, .long x2] (PcB G ρ h z)) (QV G ρ hE h.length z) (DC h hE) (DS h hE) (Af ρ h.length z) := by
  refine met_start (by decide) (Nat.le_of_ble_eq_true rfl) ?_
  intro p e s m below meth c ls hz C hW hl
  subst hz
  have C : Cx G "PairSymbolsModel" cX10_addsTo 5 none "addsTo" p s m _ meth c := C
  have hx := C.1
  have hb := C.2.1
  have hX : Ext hE hE := Ext.rf hE
  have hl : lv_has ls 5 [(0, .ref (ρ x0)), (1, .int x1), (2, .long x2)] := hl
  have hW : Wd G ρ h.length (sl h) s.heap h s.heap [] 0 0 := hW
  unfold fX10_addsTo at hf
  obtain ⟨_, e0, hf⟩ := pb_rd (rd_chk _ _) hf
  refine lv_iconst (v := 0) hx hb dX10_addsTo_0 (by decide) ?_
  refine lv_istore (lv' := [(4, .int (0 : Int32)), (0, .ref (ρ x0)), (1, .int x1), (2, .long x2)]) hx hb dX10_addsTo_1 hl (by decide) rfl (fun ls hl => ?_)
  obtain ⟨z20, h20, e20, hf⟩ := pb_some hf
  refine wX10_addsTo_L3 C fu _ e20 ((pext hf).tr hX) hW (lv_sub hl [1, 2, 3, 0] rfl) (fun H locs c1 s1 ls hW hl => ?_)
  obtain ⟨rfl, rfl⟩ := pp_some hf
  exact r_vret C hW dX10_addsTo_89
