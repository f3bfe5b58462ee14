theorem flX9_263 : FL "PairSymbols" 263 6 3 true := ⟨_, CT6, by decide, (tq q_250 rfl), rfl, fun _ => Or.inr trivial⟩
theorem flX9_266 : FL "PairSymbols" 266 6 4 true := ⟨_, CT6, by decide, (tq q_252 rfl), rfl, fun _ => Or.inr trivial⟩
theorem flX9_269 : FL "PairSymbols" 269 6 2 true := ⟨_, CT6, by decide, (tq q_248 rfl), rfl, fun _ => Or.inr trivial⟩
theorem flX9_215 : FL "PairSymbols" 215 6 5 false := ⟨_, CT6, by decide, (tq q_254 rfl), rfl, fun _ => Or.inr trivial⟩
theorem flX9_221 : FL "PairSymbols" 221 2 1 false := ⟨_, CT2, by decide, (tq q_232 rfl), rfl, fun _ => Or.inr trivial⟩
theorem dX9_perform_0 : decode cX9_perform 0 = .ok (.aload_n 0, 1) := by decide +kernel
theorem dX9_perform_1 : decode cX9_perform 1 = .ok (.getfield 40, 3) := by decide +kernel
theorem dX9_perform_4 : decode cX9_perform 4 = .ok (.getfield 263, 3) := by decide +kernel
theorem dX9_perform_7 : decode cX9_perform 7 = .ok (.iload_n 1, 1) := by decide +kernel
theorem dX9_perform_8 : decode cX9_perform 8 = .ok (.iaload, 1) := by decide +kernel
theorem dX9_perform_9 : decode cX9_perform 9 = .ok (.istore_n 2, 1) := by decide +kernel
theorem dX9_perform_10 : decode cX9_perform 10 = .ok (.aload_n 0, 1) := by decide +kernel
theorem dX9_perform_11 : decode cX9_perform 11 = .ok (.getfield 40, 3) := by decide +kernel
theorem dX9_perform_14 : decode cX9_perform 14 = .ok (.getfield 266, 3) := by decide +kernel
theorem dX9_perform_17 : decode cX9_perform 17 = .ok (.iload_n 1, 1) := by decide +kernel
theorem dX9_perform_18 : decode cX9_perform 18 = .ok (.iaload, 1) := by decide +kernel
theorem dX9_perform_19 : decode cX9_perform 19 = .ok (.istore_n 3, 1) := by decide +kernel
theorem dX9_perform_20 : decode cX9_perform 20 = .ok (.aload_n 0, 1) := by decide +kernel
theorem dX9_perform_21 : decode cX9_perform 21 = .ok (.getfield 40, 3) := by decide +kernel
theorem dX9_perform_24 : decode cX9_perform 24 = .ok (.getfield 269, 3) := by decide +kernel
theorem dX9_perform_27 : decode cX9_perform 27 = .ok (.iload_n 1, 1) := by decide +kernel
theorem dX9_perform_28 : decode cX9_perform 28 = .ok (.iaload, 1) := by decide +kernel
theorem dX9_perform_29 : decode cX9_perform 29 = .ok (.lookupswitch 78 #[(43, 49), (110, 43), (116, 59), (119, 68)], 43) := by decide +kernel
theorem dX9_perform_72 : decode cX9_perform 72 = .ok (.aload_n 0, 1) := by decide +kernel
theorem dX9_perform_73 : decode cX9_perform 73 = .ok (.iload_n 2, 1) := by decide +kernel
theorem dX9_perform_74 : decode cX9_perform 74 = .ok (.invokevirtual 55, 3) := by decide +kernel
theorem dX9_perform_77 : decode cX9_perform 77 = .ok (.ireturn, 1) := by decide +kernel
theorem dX9_perform_78 : decode cX9_perform 78 = .ok (.aload_n 0, 1) := by decide +kernel
theorem dX9_perform_79 : decode cX9_perform 79 = .ok (.getfield 27, 3) := by decide +kernel
theorem dX9_perform_82 : decode cX9_perform 82 = .ok (.iload_n 3, 1) := by decide +kernel
theorem dX9_perform_83 : decode cX9_perform 83 = .ok (.iload_n 2, 1) := by decide +kernel
theorem dX9_perform_84 : decode cX9_perform 84 = .ok (.invokevirtual 189, 3) := by decide +kernel
theorem dX9_perform_87 : decode cX9_perform 87 = .ok (.ireturn, 1) := by decide +kernel
theorem dX9_perform_88 : decode cX9_perform 88 = .ok (.aload_n 0, 1) := by decide +kernel
theorem dX9_perform_89 : decode cX9_perform 89 = .ok (.getfield 27, 3) := by decide +kernel
theorem dX9_perform_92 : decode cX9_perform 92 = .ok (.iload_n 2, 1) := by decide +kernel
theorem dX9_perform_93 : decode cX9_perform 93 = .ok (.invokevirtual 192, 3) := by decide +kernel
theorem dX9_perform_96 : decode cX9_perform 96 = .ok (.ireturn, 1) := by decide +kernel
theorem dX9_perform_97 : decode cX9_perform 97 = .ok (.aload_n 0, 1) := by decide +kernel
theorem dX9_perform_98 : decode cX9_perform 98 = .ok (.getfield 27, 3) := by decide +kernel
theorem dX9_perform_101 : decode cX9_perform 101 = .ok (.iload_n 2, 1) := by decide +kernel
theorem dX9_perform_102 : decode cX9_perform 102 = .ok (.iload_n 3, 1) := by decide +kernel
theorem dX9_perform_103 : decode cX9_perform 103 = .ok (.invokevirtual 195, 3) := by decide +kernel
theorem dX9_perform_106 : decode cX9_perform 106 = .ok (.ireturn, 1) := by decide +kernel
theorem dX9_perform_107 : decode cX9_perform 107 = .ok (.aload_n 0, 1) := by decide +kernel
theorem dX9_perform_108 : decode cX9_perform 108 = .ok (.getfield 27, 3) := by decide +kernel
theorem dX9_perform_111 : decode cX9_perform 111 = .ok (.invokevirtual 260, 3) := by decide +kernel
theorem dX9_perform_114 : decode cX9_perform 114 = .ok (.ireturn, 1) := by decide +kernel
theorem kcX9_perform : Cond.code yX9_perform cX9_perform 4 (some .int) ∈ tb := tq q_640 rfl
theorem knX9_perform : Cond.initialized yX9_perform.cls ∈ tb := (tq q_1 rfl)
theorem kdX9_perform : yX9_perform.cls ≠ "java/lang/invoke/MethodHandle" ∧ yX9_perform.cls ≠ "java/lang/invoke/VarHandle" ∧ (parseMethodDescriptor yX9_perform.desc).map (fun d => d.parameters.length) = some 1 := ⟨by decide +kernel, by decide +kernel, by decide +kernel⟩
theorem kiX9_perform : Cond.instanceMethod yX9_perform ∈ tb := (tq q_639 rfl)
theorem ksX9_perform : Cond.selects yX9_perform.cls yX9_perform yX9_perform ∈ tb := (tq z_23 rfl)
theorem tgX9_perform {x0 : Nat} {x1 : Int32} {h : PH} {r : Int32 × PH} (hf : (fX9_perform x0 x1).1 h = some r) : ∃ n x, nth h x0 = some (8, n, x) := by
  obtain ⟨_, _, e, _⟩ := pb_some hf
  exact (chk_some e).2
set_option maxHeartbeats 4000000 in
set_option maxRecDepth 100000 in
theorem metX9_perform (l : Launch) (G : GG) (ρ : Nat → Nat) {z : Nat} {x0 : Nat} {x1 : Int32} {h hE : PH} {v : Int32} (hf : (fX9_perform x0 x1).1 h = some (v, hE)) : Met l yX9_perform (wsY yX9_perform cX9_perform 4 (some .int)) (RM 6 147 h hE) (va_Pc [.ref (ρ x0), .int x1] (PcB G ρ h z)) (QI G ρ v hE h.length z) (DC h hE) (DS h hE) (Af ρ h.length z) := by
  refine met_start (by decide) (Nat.le_of_ble_eq_true rfl) ?_
  intro p e s m below meth c ls hz C hW hl
  subst hz
  have C : Cx G "PairSymbols" cX9_perform 4 (some .int) "perform" p s m _ meth c := C
  have hx := C.1
  have hb := C.2.1
  have hX : Ext hE hE := Ext.rf hE
  have hl : lv_has ls 4 [(0, .ref (ρ x0)), (1, .int x1)] := hl
  have hW : Wd G ρ h.length (sl h) s.heap h s.heap [] 0 0 := hW
  unfold fX9_perform at hf
  obtain ⟨_, e0, hf⟩ := pb_rd (rd_chk _ _) hf
  refine lv_aload_n hx hb dX9_perform_0 rfl (lv_at hl 0 rfl) ?_
  obtain ⟨v1, e1, hf⟩ := pb_rd (rd_gA _ _ _) hf
  refine r_gA C hW e1 flX9_40 rfl dX9_perform_1 ?_
  obtain ⟨v2, e2, hf⟩ := pb_rd (rd_gA _ _ _) hf
  refine r_gA C hW e2 flX9_263 rfl dX9_perform_4 ?_
  refine lv_iload_n hx hb dX9_perform_7 rfl (lv_at hl 1 rfl) ?_
  obtain ⟨v3, e3, hf⟩ := pb_rd (rd_lI _ _ _) hf
  refine r_iald C hW e3 dX9_perform_8 ?_
  refine lv_istore_n (lv' := [(2, .int v3), (0, .ref (ρ x0)), (1, .int x1)]) hx hb dX9_perform_9 rfl hl (by decide) rfl (fun ls hl => ?_)
  refine lv_aload_n hx hb dX9_perform_10 rfl (lv_at hl 1 rfl) ?_
  obtain ⟨v4, e4, hf⟩ := pb_rd (rd_gA _ _ _) hf
  refine r_gA C hW e4 flX9_40 rfl dX9_perform_11 ?_
  obtain ⟨v5, e5, hf⟩ := pb_rd (rd_gA _ _ _) hf
  refine r_gA C hW e5 flX9_266 rfl dX9_perform_14 ?_
  refine lv_iload_n hx hb dX9_perform_17 rfl (lv_at hl 2 rfl) ?_
  obtain ⟨v6, e6, hf⟩ := pb_rd (rd_lI _ _ _) hf
  refine r_iald C hW e6 dX9_perform_18 ?_
  refine lv_istore_n (lv' := [(3, .int v6), (2, .int v3), (0, .ref (ρ x0)), (1, .int x1)]) hx hb dX9_perform_19 rfl hl (by decide) rfl (fun ls hl => ?_)
  refine lv_aload_n hx hb dX9_perform_20 rfl (lv_at hl 2 rfl) ?_
  obtain ⟨v7, e7, hf⟩ := pb_rd (rd_gA _ _ _) hf
  refine r_gA C hW e7 flX9_40 rfl dX9_perform_21 ?_
  obtain ⟨v8, e8, hf⟩ := pb_rd (rd_gA _ _ _) hf
  refine r_gA C hW e8 flX9_269 rfl dX9_perform_24 ?_
  refine lv_iload_n hx hb dX9_perform_27 rfl (lv_at hl 3 rfl) ?_
  obtain ⟨v9, e9, hf⟩ := pb_rd (rd_lI _ _ _) hf
  refine r_iald C hW e9 dX9_perform_28 ?_
  by_cases c10 : v9 = 43
  · rw [if_pos c10] at hf
    refine lv_lookup (off := 49) (tgt := 78) hx hb dX9_perform_29 (by decide) (by rw [c10]; decide) (by decide) ?_
    refine lv_aload_n hx hb dX9_perform_78 rfl (lv_at hl 2 rfl) ?_
    obtain ⟨v11, e11, hf⟩ := pb_rd (rd_gA _ _ _) hf
    refine r_gA C hW e11 flX9_27 rfl dX9_perform_79 ?_
    refine lv_iload_n hx hb dX9_perform_82 rfl (lv_at hl 0 rfl) ?_
    refine lv_iload_n hx hb dX9_perform_83 rfl (lv_at hl 1 rfl) ?_
    obtain ⟨v12, h12, e12, hf⟩ := pb_some hf
    obtain ⟨_, _, t13⟩ := tgX8_addMultiple e12
    refine r_calli hW (pext e12) (run_V (b := v11) (As := [.int v6, .int v3]) (rest := []) C hW (metX8_addMultiple l G ρ e12) ⟨rfl, rfl⟩ kcX8_addMultiple (tq q_537 rfl) kiX8_addMultiple ksX8_addMultiple knX8_addMultiple kdX8_addMultiple t13 rfl rfl ⟨Nat.le_of_ble_eq_true rfl, Nat.le_of_ble_eq_true rfl⟩ hl.1 (Nat.le_of_ble_eq_true rfl) (room_of hW (pext e12) ((pext hf).tr hX)) dX9_perform_84 rfl) (fun H locs c1 s1 hW => ?_)
    obtain ⟨rfl, rfl⟩ := pp_some hf
    exact r_iret C hW dX9_perform_87
  rw [if_neg c10] at hf
  by_cases c14 : v9 = 110
  · rw [if_pos c14] at hf
    refine lv_lookup (off := 43) (tgt := 72) hx hb dX9_perform_29 (by decide) (by rw [c14]; decide) (by decide) ?_
    refine lv_aload_n hx hb dX9_perform_72 rfl (lv_at hl 2 rfl) ?_
    refine lv_iload_n hx hb dX9_perform_73 rfl (lv_at hl 1 rfl) ?_
    obtain ⟨v15, h15, e15, hf⟩ := pb_some hf
    obtain ⟨_, _, t16⟩ := tgX9_enter e15
    refine r_calli hW (pext e15) (run_V (b := x0) (As := [.int v3]) (rest := []) C hW (metX9_enter l G ρ e15) ⟨rfl, rfl⟩ kcX9_enter (tq q_325 rfl) kiX9_enter ksX9_enter knX9_enter kdX9_enter t16 rfl rfl ⟨Nat.le_of_ble_eq_true rfl, Nat.le_of_ble_eq_true rfl⟩ hl.1 (Nat.le_of_ble_eq_true rfl) (room_of hW (pext e15) ((pext hf).tr hX)) dX9_perform_74 rfl) (fun H locs c1 s1 hW => ?_)
    obtain ⟨rfl, rfl⟩ := pp_some hf
    exact r_iret C hW dX9_perform_77
  rw [if_neg c14] at hf
  by_cases c17 : v9 = 116
  · rw [if_pos c17] at hf
    refine lv_lookup (off := 59) (tgt := 88) hx hb dX9_perform_29 (by decide) (by rw [c17]; decide) (by decide) ?_
    refine lv_aload_n hx hb dX9_perform_88 rfl (lv_at hl 2 rfl) ?_
    obtain ⟨v18, e18, hf⟩ := pb_rd (rd_gA _ _ _) hf
    refine r_gA C hW e18 flX9_27 rfl dX9_perform_89 ?_
    refine lv_iload_n hx hb dX9_perform_92 rfl (lv_at hl 1 rfl) ?_
    obtain ⟨v19, h19, e19, hf⟩ := pb_some hf
    obtain ⟨_, _, t20⟩ := tgX8_applyOperator e19
    refine r_calli hW (pext e19) (run_V (b := v18) (As := [.int v3]) (rest := []) C hW (metX8_applyOperator l G ρ e19) ⟨rfl, rfl⟩ kcX8_applyOperator (tq q_557 rfl) kiX8_applyOperator ksX8_applyOperator knX8_applyOperator kdX8_applyOperator t20 rfl rfl ⟨Nat.le_of_ble_eq_true rfl, Nat.le_of_ble_eq_true rfl⟩ hl.1 (Nat.le_of_ble_eq_true rfl) (room_of hW (pext e19) ((pext hf).tr hX)) dX9_perform_93 rfl) (fun H locs c1 s1 hW => ?_)
    obtain ⟨rfl, rfl⟩ := pp_some hf
    exact r_iret C hW dX9_perform_96
  rw [if_neg c17] at hf
  by_cases c21 : v9 = 119
  · rw [if_pos c21] at hf
    refine lv_lookup (off := 68) (tgt := 97) hx hb dX9_perform_29 (by decide) (by rw [c21]; decide) (by decide) ?_
    refine lv_aload_n hx hb dX9_perform_97 rfl (lv_at hl 2 rfl) ?_
    obtain ⟨v22, e22, hf⟩ := pb_rd (rd_gA _ _ _) hf
    refine r_gA C hW e22 flX9_27 rfl dX9_perform_98 ?_
    refine lv_iload_n hx hb dX9_perform_101 rfl (lv_at hl 1 rfl) ?_
    refine lv_iload_n hx hb dX9_perform_102 rfl (lv_at hl 0 rfl) ?_
    obtain ⟨v23, h23, e23, hf⟩ := pb_some hf
    obtain ⟨_, _, t24⟩ := tgX8_addPath e23
    refine r_calli hW (pext e23) (run_V (b := v22) (As := [.int v3, .int v6]) (rest := []) C hW (metX8_addPath l G ρ e23) ⟨rfl, rfl⟩ kcX8_addPath (tq q_571 rfl) kiX8_addPath ksX8_addPath knX8_addPath kdX8_addPath t24 rfl rfl ⟨Nat.le_of_ble_eq_true rfl, Nat.le_of_ble_eq_true rfl⟩ hl.1 (Nat.le_of_ble_eq_true rfl) (room_of hW (pext e23) ((pext hf).tr hX)) dX9_perform_103 rfl) (fun H locs c1 s1 hW => ?_)
    obtain ⟨rfl, rfl⟩ := pp_some hf
    exact r_iret C hW dX9_perform_106
  rw [if_neg c21] at hf
  refine lv_lookup (off := 78) (tgt := 107) hx hb dX9_perform_29 (by decide) (by show Op.lookupswitch.offset [(43, 49), (110, 43), (116, 59), (119, 68)] 78 _ = _; rw [lv_osw c10 (by decide), lv_osw c14 (by decide), lv_osw c17 (by decide), lv_osw c21 (by decide)]; rfl) (by decide) ?_
  refine lv_aload_n hx hb dX9_perform_107 rfl (lv_at hl 2 rfl) ?_
  obtain ⟨v25, e25, hf⟩ := pb_rd (rd_gA _ _ _) hf
  refine r_gA C hW e25 flX9_27 rfl dX9_perform_108 ?_
  obtain ⟨v26, h26, e26, hf⟩ := pb_some hf
  obtain ⟨_, _, t27⟩ := tgX8_becomeZero e26
  refine r_calli hW (pext e26) (run_V (b := v25) (As := []) (rest := []) C hW (metX8_becomeZero l G ρ e26) ⟨rfl, rfl⟩ kcX8_becomeZero (tq q_332 rfl) kiX8_becomeZero ksX8_becomeZero knX8_becomeZero kdX8_becomeZero t27 rfl rfl ⟨Nat.le_of_ble_eq_true rfl, Nat.le_of_ble_eq_true rfl⟩ hl.1 (Nat.le_of_ble_eq_true rfl) (room_of hW (pext e26) ((pext hf).tr hX)) dX9_perform_111 rfl) (fun H locs c1 s1 hW => ?_)
  obtain ⟨rfl, rfl⟩ := pp_some hf
  exact r_iret C hW dX9_perform_114

theorem dX9_reads_0 : decode cX9_reads 0 = .ok (.aload_n 0, 1) := by decide +kernel
theorem dX9_reads_1 : decode cX9_reads 1 = .ok (.getfield 40, 3) := by decide +kernel
theorem dX9_reads_4 : decode cX9_reads 4 = .ok (.invokevirtual 212, 3) := by decide +kernel
theorem dX9_reads_7 : decode cX9_reads 7 = .ok (.istore_n 1, 1) := by decide +kernel
theorem dX9_reads_8 : decode cX9_reads 8 = .ok (.iload_n 1, 1) := by decide +kernel
theorem dX9_reads_9 : decode cX9_reads 9 = .ok (.iconst (-1), 1) := by decide +kernel
theorem dX9_reads_10 : decode cX9_reads 10 = .ok (.if_icmp .eq 8, 3) := by decide +kernel
theorem dX9_reads_13 : decode cX9_reads 13 = .ok (.bipush (-10), 2) := by decide +kernel
theorem dX9_reads_15 : decode cX9_reads 15 = .ok (.iload_n 1, 1) := by decide +kernel
theorem dX9_reads_16 : decode cX9_reads 16 = .ok (.isub, 1) := by decide +kernel
theorem dX9_reads_17 : decode cX9_reads 17 = .ok (.ireturn, 1) := by decide +kernel
theorem dX9_reads_18 : decode cX9_reads 18 = .ok (.aload_n 0, 1) := by decide +kernel
theorem dX9_reads_19 : decode cX9_reads 19 = .ok (.getfield 27, 3) := by decide +kernel
theorem dX9_reads_22 : decode cX9_reads 22 = .ok (.aload_n 0, 1) := by decide +kernel
theorem dX9_reads_23 : decode cX9_reads 23 = .ok (.getfield 23, 3) := by decide +kernel
theorem dX9_reads_26 : decode cX9_reads 26 = .ok (.invokevirtual 51, 3) := by decide +kernel
theorem dX9_reads_29 : decode cX9_reads 29 = .ok (.iconst 0, 1) := by decide +kernel
theorem dX9_reads_30 : decode cX9_reads 30 = .ok (.istore_n 2, 1) := by decide +kernel
theorem dX9_reads_31 : decode cX9_reads 31 = .ok (.iload_n 2, 1) := by decide +kernel
theorem dX9_reads_32 : decode cX9_reads 32 = .ok (.aload_n 0, 1) := by decide +kernel
theorem dX9_reads_33 : decode cX9_reads 33 = .ok (.getfield 40, 3) := by decide +kernel
theorem dX9_reads_36 : decode cX9_reads 36 = .ok (.getfield 215, 3) := by decide +kernel
theorem dX9_reads_39 : decode cX9_reads 39 = .ok (.if_icmp .ge 23, 3) := by decide +kernel
theorem dX9_reads_42 : decode cX9_reads 42 = .ok (.aload_n 0, 1) := by decide +kernel
theorem dX9_reads_43 : decode cX9_reads 43 = .ok (.iload_n 2, 1) := by decide +kernel
theorem dX9_reads_44 : decode cX9_reads 44 = .ok (.invokevirtual 218, 3) := by decide +kernel
theorem dX9_reads_47 : decode cX9_reads 47 = .ok (.ifCond .ge 9, 3) := by decide +kernel
theorem dX9_reads_50 : decode cX9_reads 50 = .ok (.sipush (-1000), 3) := by decide +kernel
theorem dX9_reads_53 : decode cX9_reads 53 = .ok (.iload_n 2, 1) := by decide +kernel
theorem dX9_reads_54 : decode cX9_reads 54 = .ok (.isub, 1) := by decide +kernel
theorem dX9_reads_55 : decode cX9_reads 55 = .ok (.ireturn, 1) := by decide +kernel
theorem dX9_reads_56 : decode cX9_reads 56 = .ok (.iinc 2 1, 3) := by decide +kernel
theorem dX9_reads_59 : decode cX9_reads 59 = .ok (.goto (-28), 3) := by decide +kernel
theorem dX9_reads_62 : decode cX9_reads 62 = .ok (.aload_n 0, 1) := by decide +kernel
theorem dX9_reads_63 : decode cX9_reads 63 = .ok (.aload_n 0, 1) := by decide +kernel
theorem dX9_reads_64 : decode cX9_reads 64 = .ok (.getfield 40, 3) := by decide +kernel
theorem dX9_reads_67 : decode cX9_reads 67 = .ok (.getfield 215, 3) := by decide +kernel
theorem dX9_reads_70 : decode cX9_reads 70 = .ok (.invokevirtual 59, 3) := by decide +kernel
theorem dX9_reads_73 : decode cX9_reads 73 = .ok (.ireturn, 1) := by decide +kernel
theorem kcX9_reads : Cond.code yX9_reads cX9_reads 3 (some .int) ∈ tb := tq q_608 rfl
theorem knX9_reads : Cond.initialized yX9_reads.cls ∈ tb := (tq q_1 rfl)
theorem kdX9_reads : yX9_reads.cls ≠ "java/lang/invoke/MethodHandle" ∧ yX9_reads.cls ≠ "java/lang/invoke/VarHandle" ∧ (parseMethodDescriptor yX9_reads.desc).map (fun d => d.parameters.length) = some 0 := ⟨by decide +kernel, by decide +kernel, by decide +kernel⟩
theorem kiX9_reads : Cond.instanceMethod yX9_reads ∈ tb := (tq q_606 rfl)
theorem ksX9_reads : Cond.selects yX9_reads.cls yX9_reads yX9_reads ∈ tb := (tq q_607 rfl)
theorem tgX9_reads {x0 : Nat} {h : PH} {r : Int32 × PH} (hf : (fX9_reads x0).1 h = some r) : ∃ n x, nth h x0 = some (8, n, x) := by
  obtain ⟨_, _, e, _⟩ := pb_some hf
  exact (chk_some e).2
set_option maxHeartbeats 4000000 in
set_option maxRecDepth 100000 in
theorem wX9_reads_B31 {p : Program} {l : Launch} {e : Env} {s : State} {m : MethodId} {args : Array Value} {below : List Frame} {meth : Method} {c : Code} {G : GG} {ρ : Nat → Nat} {h0 hE hB : PH} {Q : State → Prop} {x0 : Nat} (C : Cx G "PairSymbols" cX9_reads 3 (some .int) "reads" p s m args meth c) {x2 : Int32} {h : PH} {H : Heap} {locs : List Loc} {cells slots : Nat} {ls : Array Slot} {r : (Int32) ⊕ (Int32 ⊕ (Unit))} (hf : (fX9_reads_b31 x0 x2).1 h = some (r, hB)) (hX : Ext hB hE) (hW : Wd G ρ h0.length (sl h0) s.heap h H locs cells slots) (hl : lv_has ls 3 [(0, .ref (ρ x0)), (2, .int x2)]) (kc : ∀ y : Int32, r = .inl y → ∀ (H : Heap) (locs : List Loc) (c1 s1 : Nat) (ls : Array Slot), Wd G ρ h0.length (sl h0) s.heap hB H locs c1 s1 → lv_has ls 3 [(0, .ref (ρ x0)), (2, .int y)] → W p l e (RM 7 170 h0 hE) s m args below meth c H locs c1 s1 Q (F0 m 31 ls [])) (kr : ∀ v : Int32, r = .inr (.inl v) → ∀ (H : Heap) (locs : List Loc) (c1 s1 : Nat) (ls : Array Slot) (pc : Nat), Wd G ρ h0.length (sl h0) s.heap hB H locs c1 s1 → decode cX9_reads pc = .ok (.ireturn, 1) → W p l e (RM 7 170 h0 hE) s m args below meth c H locs c1 s1 Q (F0 m pc ls [.int v])) (ke : ∀ z : Unit, r = .inr (.inr z) → ∀ (H : Heap) (locs : List Loc) (c1 s1 : Nat) (ls : Array Slot), Wd G ρ h0.length (sl h0) s.heap hB H locs c1 s1 → lv_has ls 3 [(0, .ref (ρ x0))] → W p l e (RM 7 170 h0 hE) s m args below meth c H locs c1 s1 Q (F0 m 62 ls [])) : W p l e (RM 7 170 h0 hE) s m args below meth c H locs cells slots Q (F0 m 31 ls []) := by
  have hx := C.1
  have hb := C.2.1
  unfold fX9_reads_b31 at hf
  refine lv_iload_n hx hb dX9_reads_31 rfl (lv_at hl 1 rfl) ?_
  refine lv_aload_n hx hb dX9_reads_32 rfl (lv_at hl 0 rfl) ?_
  obtain ⟨v9, e9, hf⟩ := pb_rd (rd_gA _ _ _) hf
  refine r_gA C hW e9 flX9_40 rfl dX9_reads_33 ?_
  obtain ⟨v10, e10, hf⟩ := pb_rd (rd_gI _ _ _) hf
  refine r_gI C hW e10 flX9_215 rfl dX9_reads_36 ?_
  refine lv_icmp_ge (tgt := 62) hx hb dX9_reads_39 (by decide) (fun c11 => ?_) (fun c11 => ?_)
  · rw [if_pos c11] at hf
    obtain ⟨rfl, rfl⟩ := pp_some hf
    exact ke _ rfl _ _ _ _ _ hW (lv_sub hl [0] rfl)
  · rw [if_neg c11] at hf
    refine lv_aload_n hx hb dX9_reads_42 rfl (lv_at hl 0 rfl) ?_
    refine lv_iload_n hx hb dX9_reads_43 rfl (lv_at hl 1 rfl) ?_
    obtain ⟨v12, h12, e12, hf⟩ := pb_some hf
    obtain ⟨_, _, t13⟩ := tgX9_perform e12
    refine r_calli hW (pext e12) (run_V (b := x0) (As := [.int x2]) (rest := []) C hW (metX9_perform l G ρ e12) ⟨rfl, rfl⟩ kcX9_perform (tq q_637 rfl) kiX9_perform ksX9_perform knX9_perform kdX9_perform t13 rfl rfl ⟨Nat.le_of_ble_eq_true rfl, Nat.le_of_ble_eq_true rfl⟩ hl.1 (Nat.le_of_ble_eq_true rfl) (room_of hW (pext e12) ((pext hf).tr hX)) dX9_reads_44 rfl) (fun H locs c1 s1 hW => ?_)
    refine lv_if_ge (tgt := 56) hx hb dX9_reads_47 (by decide) (fun c14 => ?_) (fun c14 => ?_)
    · rw [if_pos c14] at hf
      refine lv_iinc (v := (x2 + 1)) (lv' := [(2, .int (x2 + 1)), (0, .ref (ρ x0))]) hx hb dX9_reads_56 hl (k := 1) rfl rfl (by decide) rfl (fun ls hl => ?_)
      refine lv_goto (tgt := 31) hx hb dX9_reads_59 (by decide) ?_
      obtain ⟨rfl, rfl⟩ := pp_some hf
      exact kc _ rfl _ _ _ _ _ hW (lv_sub hl [1, 0] rfl)
    · rw [if_neg c14] at hf
      refine lv_sipush (v := -1000) hx hb dX9_reads_50 (by decide) ?_
      refine lv_iload_n hx hb dX9_reads_53 rfl (lv_at hl 1 rfl) ?_
      refine lv_isub hx hb dX9_reads_54 ?_
      obtain ⟨rfl, rfl⟩ := pp_some hf
      exact kr _ rfl _ _ _ _ _ _ hW dX9_reads_55
set_option maxHeartbeats 4000000 in
theorem wX9_reads_L31 {p : Program} {l : Launch} {e : Env} {s : State} {m : MethodId} {args : Array Value} {below : List Frame} {meth : Method} {c : Code} {G : GG} {ρ : Nat → Nat} {h0 hE hB : PH} {Q : State → Prop} {x0 : Nat} (C : Cx G "PairSymbols" cX9_reads 3 (some .int) "reads" p s m args meth c) {z : (Int32 ⊕ (Unit))} (n : Nat) : ∀ (x : Int32) {h : PH} {H : Heap} {locs : List Loc} {cells slots : Nat} {ls : Array Slot}, (plo (fX9_reads_B31 x0) n x).1 h = some (z, hB) → Ext hB hE → Wd G ρ h0.length (sl h0) s.heap h H locs cells slots → lv_has ls 3 [(0, .ref (ρ x0)), (2, .int x)] → (kr : ∀ v : Int32, z = .inl v → ∀ (H : Heap) (locs : List Loc) (c1 s1 : Nat) (ls : Array Slot) (pc : Nat), Wd G ρ h0.length (sl h0) s.heap hB H locs c1 s1 → decode cX9_reads pc = .ok (.ireturn, 1) → W p l e (RM 7 170 h0 hE) s m args below meth c H locs c1 s1 Q (F0 m pc ls [.int v])) → (ke : ∀ y : Unit, z = .inr y → ∀ (H : Heap) (locs : List Loc) (c1 s1 : Nat) (ls : Array Slot), Wd G ρ h0.length (sl h0) s.heap hB H locs c1 s1 → lv_has ls 3 [(0, .ref (ρ x0))] → W p l e (RM 7 170 h0 hE) s m args below meth c H locs c1 s1 Q (F0 m 62 ls [])) → W p l e (RM 7 170 h0 hE) s m args below meth c H locs cells slots Q (F0 m 31 ls []) := by
  induction n with
  | zero =>
    intro x h H locs cells slots ls hf
    rw [plo_0] at hf
    exact (pf_no hf).elim
  | succ n ih =>
    intro x h H locs cells slots ls hf hX hW hl kr ke
    rw [plo_s] at hf
    obtain ⟨r, h1, e1, hf⟩ := pb_some hf
    unfold fX9_reads_B31 at e1
    rw [frI_eq] at e1
    refine wX9_reads_B31 C e1 ((pext hf).tr hX) hW hl (fun y hr H locs c1 s1 ls hW hl => ?_) (fun v hr H locs c1 s1 ls pc hW hd => ?_) (fun y hr H locs c1 s1 ls hW hl => ?_)
    · subst hr
      exact ih y hf hX hW hl kr ke
    · subst hr
      obtain ⟨rfl, rfl⟩ := pp_some hf
      exact kr v rfl H locs c1 s1 ls pc hW hd
    · subst hr
      obtain ⟨rfl, rfl⟩ := pp_some hf
      exact ke y rfl H locs c1 s1 ls hW hl
set_option maxHeartbeats 4000000 in
set_option maxRecDepth 100000 in
theorem metX9_reads (l : Launch) (G : GG) (ρ : Nat → Nat) {z : Nat} {x0 : Nat} {h hE : PH} {v : Int32} (hf : (fX9_reads x0).1 h = some (v, hE)) : Met l yX9_reads (wsY yX9_reads cX9_reads 3 (some .int)) (RM 7 170 h hE) (va_Pc [.ref (ρ x0)] (PcB G ρ h z)) (QI G ρ v hE h.length z) (DC h hE) (DS h hE) (Af ρ h.length z) := by
  refine met_start (by decide) (Nat.le_of_ble_eq_true rfl) ?_
  intro p e s m below meth c ls hz C hW hl
  subst hz
  have C : Cx G "PairSymbols" cX9_reads 3 (some .int) "reads" p s m _ meth c := C
  have hx := C.1
  have hb := C.2.1
  have hX : Ext hE hE := Ext.rf hE
  have hl : lv_has ls 3 [(0, .ref (ρ x0))] := hl
  have hW : Wd G ρ h.length (sl h) s.heap h s.heap [] 0 0 := hW
  unfold fX9_reads at hf
  obtain ⟨_, e0, hf⟩ := pb_rd (rd_chk _ _) hf
  refine lv_aload_n hx hb dX9_reads_0 rfl (lv_at hl 0 rfl) ?_
  obtain ⟨v1, e1, hf⟩ := pb_rd (rd_gA _ _ _) hf
  refine r_gA C hW e1 flX9_40 rfl dX9_reads_1 ?_
  obtain ⟨v2, h2, e2, hf⟩ := pb_some hf
  obtain ⟨_, _, t3⟩ := tgX7_parse e2
  refine r_calli hW (pext e2) (run_V (b := v1) (As := []) (rest := []) C hW (metX7_parse l G ρ e2) ⟨rfl, rfl⟩ kcX7_parse (tq q_609 rfl) kiX7_parse ksX7_parse knX7_parse kdX7_parse t3 rfl rfl ⟨Nat.le_of_ble_eq_true rfl, Nat.le_of_ble_eq_true rfl⟩ hl.1 (Nat.le_of_ble_eq_true rfl) (room_of hW (pext e2) ((pext hf).tr hX)) dX9_reads_4 rfl) (fun H locs c1 s1 hW => ?_)
  refine lv_istore_n (lv' := [(1, .int v2), (0, .ref (ρ x0))]) hx hb dX9_reads_7 rfl hl (by decide) rfl (fun ls hl => ?_)
  refine lv_iload_n hx hb dX9_reads_8 rfl (lv_at hl 0 rfl) ?_
  refine lv_iconst (v := -1) hx hb dX9_reads_9 (by decide) ?_
  refine lv_icmp_eq (tgt := 18) hx hb dX9_reads_10 (by decide) (fun c4 => ?_) (fun c4 => ?_)
  · rw [if_pos c4] at hf
    refine lv_aload_n hx hb dX9_reads_18 rfl (lv_at hl 1 rfl) ?_
    obtain ⟨v5, e5, hf⟩ := pb_rd (rd_gA _ _ _) hf
    refine r_gA C hW e5 flX9_27 rfl dX9_reads_19 ?_
    refine lv_aload_n hx hb dX9_reads_22 rfl (lv_at hl 1 rfl) ?_
    obtain ⟨v6, e6, hf⟩ := pb_rd (rd_gA _ _ _) hf
    refine r_gA C hW e6 flX9_23 rfl dX9_reads_23 ?_
    obtain ⟨_, h7, e7, hf⟩ := pb_some hf
    obtain ⟨_, _, t8⟩ := tgX8_copyFrom e7
    refine r_callv hW (pext e7) (run_V (b := v5) (As := [.ref (ρ v6)]) (rest := []) C hW (metX8_copyFrom l G ρ e7) ⟨rfl, rfl⟩ kcX8_copyFrom (tq q_318 rfl) kiX8_copyFrom ksX8_copyFrom knX8_copyFrom kdX8_copyFrom t8 rfl rfl ⟨Nat.le_of_ble_eq_true rfl, Nat.le_of_ble_eq_true rfl⟩ hl.1 (Nat.le_of_ble_eq_true rfl) (room_of hW (pext e7) ((pext hf).tr hX)) dX9_reads_26 rfl) (fun H locs c1 s1 hW => ?_)
    refine lv_iconst (v := 0) hx hb dX9_reads_29 (by decide) ?_
    refine lv_istore_n (lv' := [(2, .int (0 : Int32)), (1, .int v2), (0, .ref (ρ x0))]) hx hb dX9_reads_30 rfl hl (by decide) rfl (fun ls hl => ?_)
    obtain ⟨z15, h15, e15, hf⟩ := pb_some hf
    refine wX9_reads_L31 C fu _ e15 ((pext hf).tr hX) hW (lv_sub hl [2, 0] rfl) (fun v15 hz H locs c1 s1 ls pc hW hd => ?_) (fun z16 hz H locs c1 s1 ls hW hl => ?_)
    · subst hz
      obtain ⟨rfl, rfl⟩ := pp_some hf
      exact r_iret C hW hd
    · subst hz
      try dsimp only at hf
      refine lv_aload_n hx hb dX9_reads_62 rfl (lv_at hl 0 rfl) ?_
      refine lv_aload_n hx hb dX9_reads_63 rfl (lv_at hl 0 rfl) ?_
      obtain ⟨v17, e17, hf⟩ := pb_rd (rd_gA _ _ _) hf
      refine r_gA C hW e17 flX9_40 rfl dX9_reads_64 ?_
      obtain ⟨v18, e18, hf⟩ := pb_rd (rd_gI _ _ _) hf
      refine r_gI C hW e18 flX9_215 rfl dX9_reads_67 ?_
      obtain ⟨v19, h19, e19, hf⟩ := pb_some hf
      obtain ⟨_, _, t20⟩ := tgX9_settle e19
      refine r_calli hW (pext e19) (run_V (b := x0) (As := [.int v18]) (rest := []) C hW (metX9_settle l G ρ e19) ⟨rfl, rfl⟩ kcX9_settle (tq q_339 rfl) kiX9_settle ksX9_settle knX9_settle kdX9_settle t20 rfl rfl ⟨Nat.le_of_ble_eq_true rfl, Nat.le_of_ble_eq_true rfl⟩ hl.1 (Nat.le_of_ble_eq_true rfl) (room_of hW (pext e19) ((pext hf).tr hX)) dX9_reads_70 rfl) (fun H locs c1 s1 hW => ?_)
      obtain ⟨rfl, rfl⟩ := pp_some hf
      exact r_iret C hW dX9_reads_73
  · rw [if_neg c4] at hf
    refine lv_bipush (v := -10) hx hb dX9_reads_13 (by decide) ?_
    refine lv_iload_n hx hb dX9_reads_15 rfl (lv_at hl 0 rfl) ?_
    refine lv_isub hx hb dX9_reads_16 ?_
    obtain ⟨rfl, rfl⟩ := pp_some hf
    exact r_iret C hW dX9_reads_17

theorem dX2_restore_0 : decode cX2_restore 0 = .ok (.aload_n 0, 1) := by decide +kernel
theorem dX2_restore_1 : decode cX2_restore 1 = .ok (.getfield 20, 3) := by decide +kernel
theorem dX2_restore_4 : decode cX2_restore 4 = .ok (.ifCond .le 26, 3) := by decide +kernel
theorem dX2_restore_7 : decode cX2_restore 7 = .ok (.aload_n 0, 1) := by decide +kernel
theorem dX2_restore_8 : decode cX2_restore 8 = .ok (.dup, 1) := by decide +kernel
theorem dX2_restore_9 : decode cX2_restore 9 = .ok (.getfield 20, 3) := by decide +kernel
theorem dX2_restore_12 : decode cX2_restore 12 = .ok (.iconst 1, 1) := by decide +kernel
theorem dX2_restore_13 : decode cX2_restore 13 = .ok (.isub, 1) := by decide +kernel
theorem dX2_restore_14 : decode cX2_restore 14 = .ok (.putfield 20, 3) := by decide +kernel
theorem dX2_restore_17 : decode cX2_restore 17 = .ok (.aload_n 1, 1) := by decide +kernel
theorem dX2_restore_18 : decode cX2_restore 18 = .ok (.aload_n 0, 1) := by decide +kernel
theorem dX2_restore_19 : decode cX2_restore 19 = .ok (.getfield 11, 3) := by decide +kernel
theorem dX2_restore_22 : decode cX2_restore 22 = .ok (.aload_n 0, 1) := by decide +kernel
theorem dX2_restore_23 : decode cX2_restore 23 = .ok (.getfield 20, 3) := by decide +kernel
theorem dX2_restore_26 : decode cX2_restore 26 = .ok (.aaload, 1) := by decide +kernel
theorem dX2_restore_27 : decode cX2_restore 27 = .ok (.invokevirtual 27, 3) := by decide +kernel
theorem dX2_restore_30 : decode cX2_restore 30 = .ok (.return_, 1) := by decide +kernel
theorem kcX2_restore : Cond.code yX2_restore cX2_restore 2 none ∈ tb := tq q_648 rfl
theorem knX2_restore : Cond.initialized yX2_restore.cls ∈ tb := (tq q_7 rfl)
theorem kdX2_restore : yX2_restore.cls ≠ "java/lang/invoke/MethodHandle" ∧ yX2_restore.cls ≠ "java/lang/invoke/VarHandle" ∧ (parseMethodDescriptor yX2_restore.desc).map (fun d => d.parameters.length) = some 1 := ⟨by decide +kernel, by decide +kernel, by decide +kernel⟩
theorem kiX2_restore : Cond.instanceMethod yX2_restore ∈ tb := (tq q_646 rfl)
theorem ksX2_restore : Cond.selects yX2_restore.cls yX2_restore yX2_restore ∈ tb := (tq q_647 rfl)
theorem tgX2_restore {x0 : Nat} {x1 : Nat} {h : PH} {r : Unit × PH} (hf : (fX2_restore x0 x1).1 h = some r) : ∃ n x, nth h x0 = some (2, n, x) := by
  obtain ⟨_, _, e, _⟩ := pb_some hf
  exact (chk_some e).2
set_option maxHeartbeats 4000000 in
set_option maxRecDepth 100000 in
theorem metX2_restore (l : Launch) (G : GG) (ρ : Nat → Nat) {z : Nat} {x0 : Nat} {x1 : Nat} {h hE : PH} {v : Unit} (hf : (fX2_restore x0 x1).1 h = some (v, hE)) : Met l yX2_restore (wsY yX2_restore cX2_restore 2 none) (RM 2 101 h hE) (va_Pc [.ref (ρ x0), .ref (ρ x1)] (PcB G ρ h z)) (QV G ρ hE h.length z) (DC h hE) (DS h hE) (Af ρ h.length z) := by
  refine met_start (by decide) (Nat.le_of_ble_eq_true rfl) ?_
  intro p e s m below meth c ls hz C hW hl
  subst hz
  have C : Cx G "PairSymbols$History" cX2_restore 2 none "restore" p s m _ meth c := C
  have hx := C.1
  have hb := C.2.1
  have hX : Ext hE hE := Ext.rf hE
  have hl : lv_has ls 2 [(0, .ref (ρ x0)), (1, .ref (ρ x1))] := hl
  have hW : Wd G ρ h.length (sl h) s.heap h s.heap [] 0 0 := hW
  unfold fX2_restore at hf
  obtain ⟨_, e0, hf⟩ := pb_rd (rd_chk _ _) hf
  refine lv_aload_n hx hb dX2_restore_0 rfl (lv_at hl 0 rfl) ?_
  obtain ⟨v1, e1, hf⟩ := pb_rd (rd_gI _ _ _) hf
  refine r_gI C hW e1 flX2_20 rfl dX2_restore_1 ?_
  refine lv_if_le (tgt := 30) hx hb dX2_restore_4 (by decide) (fun c2 => ?_) (fun c2 => ?_)
  · rw [if_pos c2] at hf
    obtain ⟨rfl, rfl⟩ := pp_some hf
    exact r_vret C hW dX2_restore_30
  · rw [if_neg c2] at hf
    refine lv_aload_n hx hb dX2_restore_7 rfl (lv_at hl 0 rfl) ?_
    refine lv_dup hx hb dX2_restore_8 rfl ?_
    obtain ⟨v3, e3, hf⟩ := pb_rd (rd_gI _ _ _) hf
    refine r_gI C hW e3 flX2_20 rfl dX2_restore_9 ?_
    refine lv_iconst (v := 1) hx hb dX2_restore_12 (by decide) ?_
    refine lv_isub hx hb dX2_restore_13 ?_
    obtain ⟨_, h4, e4, hf⟩ := pb_some hf
    refine r_sI C hW e4 flX2_20 (Or.inl rfl) rfl dX2_restore_14 (fun H locs hW => ?_)
    refine lv_aload_n hx hb dX2_restore_17 rfl (lv_at hl 1 rfl) ?_
    refine lv_aload_n hx hb dX2_restore_18 rfl (lv_at hl 0 rfl) ?_
    obtain ⟨v5, e5, hf⟩ := pb_rd (rd_gA _ _ _) hf
    refine r_gA C hW e5 flX2_11 rfl dX2_restore_19 ?_
    refine lv_aload_n hx hb dX2_restore_22 rfl (lv_at hl 0 rfl) ?_
    obtain ⟨v6, e6, hf⟩ := pb_rd (rd_gI _ _ _) hf
    refine r_gI C hW e6 flX2_20 rfl dX2_restore_23 ?_
    obtain ⟨v7, e7, hf⟩ := pb_rd (rd_lA _ _ _) hf
    refine r_aald C hW e7 (by decide) (by decide) dX2_restore_26 ?_
    obtain ⟨_, h8, e8, hf⟩ := pb_some hf
    obtain ⟨_, _, t9⟩ := tgX8_copyFrom e8
    refine r_callv hW (pext e8) (run_V (b := x1) (As := [.ref (ρ v7)]) (rest := []) C hW (metX8_copyFrom l G ρ e8) ⟨rfl, rfl⟩ kcX8_copyFrom (tq q_355 rfl) kiX8_copyFrom ksX8_copyFrom knX8_copyFrom kdX8_copyFrom t9 rfl rfl ⟨Nat.le_of_ble_eq_true rfl, Nat.le_of_ble_eq_true rfl⟩ hl.1 (Nat.le_of_ble_eq_true rfl) (room_of hW (pext e8) ((pext hf).tr hX)) dX2_restore_27 rfl) (fun H locs c1 s1 hW => ?_)
    obtain ⟨rfl, rfl⟩ := pp_some hf
    exact r_vret C hW dX2_restore_30

theorem dX9_back_0 : decode cX9_back 0 = .ok (.aload_n 0, 1) := by decide +kernel
theorem dX9_back_1 : decode cX9_back 1 = .ok (.getfield 33, 3) := by decide +kernel
theorem dX9_back_4 : decode cX9_back 4 = .ok (.getfield 221, 3) := by decide +kernel
theorem dX9_back_7 : decode cX9_back 7 = .ok (.ifCond .ne 10, 3) := by decide +kernel
theorem dX9_back_10 : decode cX9_back 10 = .ok (.aload_n 0, 1) := by decide +kernel
theorem dX9_back_11 : decode cX9_back 11 = .ok (.bipush (-3), 2) := by decide +kernel
theorem dX9_back_13 : decode cX9_back 13 = .ok (.invokevirtual 74, 3) := by decide +kernel
theorem dX9_back_16 : decode cX9_back 16 = .ok (.ireturn, 1) := by decide +kernel
theorem dX9_back_17 : decode cX9_back 17 = .ok (.aload_n 0, 1) := by decide +kernel
theorem dX9_back_18 : decode cX9_back 18 = .ok (.getfield 33, 3) := by decide +kernel
theorem dX9_back_21 : decode cX9_back 21 = .ok (.aload_n 0, 1) := by decide +kernel
theorem dX9_back_22 : decode cX9_back 22 = .ok (.getfield 23, 3) := by decide +kernel
theorem dX9_back_25 : decode cX9_back 25 = .ok (.invokevirtual 222, 3) := by decide +kernel
theorem dX9_back_28 : decode cX9_back 28 = .ok (.aload_n 0, 1) := by decide +kernel
theorem dX9_back_29 : decode cX9_back 29 = .ok (.getfield 33, 3) := by decide +kernel
theorem dX9_back_32 : decode cX9_back 32 = .ok (.getfield 221, 3) := by decide +kernel
theorem dX9_back_35 : decode cX9_back 35 = .ok (.ireturn, 1) := by decide +kernel
theorem kcX9_back : Cond.code yX9_back cX9_back 1 (some .int) ∈ tb := tq q_644 rfl
theorem knX9_back : Cond.initialized yX9_back.cls ∈ tb := (tq q_1 rfl)
theorem kdX9_back : yX9_back.cls ≠ "java/lang/invoke/MethodHandle" ∧ yX9_back.cls ≠ "java/lang/invoke/VarHandle" ∧ (parseMethodDescriptor yX9_back.desc).map (fun d => d.parameters.length) = some 0 := ⟨by decide +kernel, by decide +kernel, by decide +kernel⟩
theorem kiX9_back : Cond.instanceMethod yX9_back ∈ tb := (tq q_642 rfl)
theorem ksX9_back : Cond.selects yX9_back.cls yX9_back yX9_back ∈ tb := (tq q_643 rfl)
theorem tgX9_back {x0 : Nat} {h : PH} {r : Int32 × PH} (hf : (fX9_back x0).1 h = some r) : ∃ n x, nth h x0 = some (8, n, x) := by
  obtain ⟨_, _, e, _⟩ := pb_some hf
  exact (chk_some e).2
set_option maxHeartbeats 4000000 in
set_option maxRecDepth 100000 in
theorem metX9_back (l : Launch) (G : GG) (ρ : Nat → Nat) {z : Nat} {x0 : Nat} {h hE : PH} {v : Int32} (hf : (fX9_back x0).1 h = some (v, hE)) : Met l yX9_back (wsY yX9_back cX9_back 1 (some .int)) (RM 3 122 h hE) (va_Pc [.ref (ρ x0)] (PcB G ρ h z)) (QI G ρ v hE h.length z) (DC h hE) (DS h hE) (Af ρ h.length z) := by
  refine met_start (by decide) (Nat.le_of_ble_eq_true rfl) ?_
  intro p e s m below meth c ls hz C hW hl
  subst hz
  have C : Cx G "PairSymbols" cX9_back 1 (some .int) "back" p s m _ meth c := C
  have hx := C.1
  have hb := C.2.1
  have hX : Ext hE hE := Ext.rf hE
  have hl : lv_has ls 1 [(0, .ref (ρ x0))] := hl
  have hW : Wd G ρ h.length (sl h) s.heap h s.heap [] 0 0 := hW
  unfold fX9_back at hf
  obtain ⟨_, e0, hf⟩ := pb_rd (rd_chk _ _) hf
  refine lv_aload_n hx hb dX9_back_0 rfl (lv_at hl 0 rfl) ?_
  obtain ⟨v1, e1, hf⟩ := pb_rd (rd_gA _ _ _) hf
  refine r_gA C hW e1 flX9_33 rfl dX9_back_1 ?_
  obtain ⟨v2, e2, hf⟩ := pb_rd (rd_gI _ _ _) hf
  refine r_gI C hW e2 flX9_221 rfl dX9_back_4 ?_
  refine lv_if_ne (tgt := 17) hx hb dX9_back_7 (by decide) (fun c3 => ?_) (fun c3 => ?_)
  · rw [if_neg c3] at hf
    refine lv_aload_n hx hb dX9_back_17 rfl (lv_at hl 0 rfl) ?_
    obtain ⟨v4, e4, hf⟩ := pb_rd (rd_gA _ _ _) hf
    refine r_gA C hW e4 flX9_33 rfl dX9_back_18 ?_
    refine lv_aload_n hx hb dX9_back_21 rfl (lv_at hl 0 rfl) ?_
    obtain ⟨v5, e5, hf⟩ := pb_rd (rd_gA _ _ _) hf
    refine r_gA C hW e5 flX9_23 rfl dX9_back_22 ?_
    obtain ⟨_, h6, e6, hf⟩ := pb_some hf
    obtain ⟨_, _, t7⟩ := tgX2_restore e6
    refine r_callv hW (pext e6) (run_V (b := v4) (As := [.ref (ρ v5)]) (rest := []) C hW (metX2_restore l G ρ e6) ⟨rfl, rfl⟩ kcX2_restore (tq q_645 rfl) kiX2_restore ksX2_restore knX2_restore kdX2_restore t7 rfl rfl ⟨Nat.le_of_ble_eq_true rfl, Nat.le_of_ble_eq_true rfl⟩ hl.1 (Nat.le_of_ble_eq_true rfl) (room_of hW (pext e6) ((pext hf).tr hX)) dX9_back_25 rfl) (fun H locs c1 s1 hW => ?_)
    refine lv_aload_n hx hb dX9_back_28 rfl (lv_at hl 0 rfl) ?_
    obtain ⟨v8, e8, hf⟩ := pb_rd (rd_gA _ _ _) hf
    refine r_gA C hW e8 flX9_33 rfl dX9_back_29 ?_
    obtain ⟨v9, e9, hf⟩ := pb_rd (rd_gI _ _ _) hf
    refine r_gI C hW e9 flX9_221 rfl dX9_back_32 ?_
    obtain ⟨rfl, rfl⟩ := pp_some hf
    exact r_iret C hW dX9_back_35
  · rw [if_pos c3] at hf
    refine lv_aload_n hx hb dX9_back_10 rfl (lv_at hl 0 rfl) ?_
    refine lv_bipush (v := -3) hx hb dX9_back_11 (by decide) ?_
    obtain ⟨v10, h10, e10, hf⟩ := pb_some hf
    obtain ⟨_, _, t11⟩ := tgX9_refuse e10
    refine r_calli hW (pext e10) (run_V (b := x0) (As := [.int (-3 : Int32)]) (rest := []) C hW (metX9_refuse l G ρ e10) ⟨rfl, rfl⟩ kcX9_refuse (tq q_343 rfl) kiX9_refuse ksX9_refuse knX9_refuse kdX9_refuse t11 rfl rfl ⟨Nat.le_of_ble_eq_true rfl, Nat.le_of_ble_eq_true rfl⟩ hl.1 (Nat.le_of_ble_eq_true rfl) (room_of hW (pext e10) ((pext hf).tr hX)) dX9_back_13 rfl) (fun H locs c1 s1 hW => ?_)
    obtain ⟨rfl, rfl⟩ := pp_some hf
    exact r_iret C hW dX9_back_16

theorem dX9_told_0 : decode cX9_told 0 = .ok (.iload_n 1, 1) := by decide +kernel
theorem dX9_told_1 : decode cX9_told 1 = .ok (.tableswitch 81 0 5 #[39, 44, 49, 54, 62, 73], 39) := by decide +kernel
theorem dX9_told_40 : decode cX9_told 40 = .ok (.aload_n 0, 1) := by decide +kernel
theorem dX9_told_41 : decode cX9_told 41 = .ok (.getfield 225, 3) := by decide +kernel
theorem dX9_told_44 : decode cX9_told 44 = .ok (.ireturn, 1) := by decide +kernel
theorem dX9_told_45 : decode cX9_told 45 = .ok (.aload_n 0, 1) := by decide +kernel
theorem dX9_told_46 : decode cX9_told 46 = .ok (.getfield 228, 3) := by decide +kernel
theorem dX9_told_49 : decode cX9_told 49 = .ok (.ireturn, 1) := by decide +kernel
theorem dX9_told_50 : decode cX9_told 50 = .ok (.aload_n 0, 1) := by decide +kernel
theorem dX9_told_51 : decode cX9_told 51 = .ok (.getfield 231, 3) := by decide +kernel
theorem dX9_told_54 : decode cX9_told 54 = .ok (.ireturn, 1) := by decide +kernel
theorem dX9_told_55 : decode cX9_told 55 = .ok (.aload_n 0, 1) := by decide +kernel
theorem dX9_told_56 : decode cX9_told 56 = .ok (.getfield 40, 3) := by decide +kernel
theorem dX9_told_59 : decode cX9_told 59 = .ok (.getfield 209, 3) := by decide +kernel
theorem dX9_told_62 : decode cX9_told 62 = .ok (.ireturn, 1) := by decide +kernel
theorem dX9_told_63 : decode cX9_told 63 = .ok (.aload_n 0, 1) := by decide +kernel
theorem dX9_told_64 : decode cX9_told 64 = .ok (.getfield 23, 3) := by decide +kernel
theorem dX9_told_67 : decode cX9_told 67 = .ok (.getfield 62, 3) := by decide +kernel
theorem dX9_told_70 : decode cX9_told 70 = .ok (.getfield 234, 3) := by decide +kernel
theorem dX9_told_73 : decode cX9_told 73 = .ok (.ireturn, 1) := by decide +kernel
theorem dX9_told_74 : decode cX9_told 74 = .ok (.aload_n 0, 1) := by decide +kernel
theorem dX9_told_75 : decode cX9_told 75 = .ok (.getfield 33, 3) := by decide +kernel
theorem dX9_told_78 : decode cX9_told 78 = .ok (.getfield 221, 3) := by decide +kernel
theorem dX9_told_81 : decode cX9_told 81 = .ok (.ireturn, 1) := by decide +kernel
theorem dX9_told_82 : decode cX9_told 82 = .ok (.aload_n 0, 1) := by decide +kernel
theorem dX9_told_83 : decode cX9_told 83 = .ok (.bipush (-2), 2) := by decide +kernel
theorem dX9_told_85 : decode cX9_told 85 = .ok (.invokevirtual 74, 3) := by decide +kernel
theorem dX9_told_88 : decode cX9_told 88 = .ok (.ireturn, 1) := by decide +kernel
theorem kcX9_told : Cond.code yX9_told cX9_told 2 (some .int) ∈ tb := tq q_652 rfl
theorem knX9_told : Cond.initialized yX9_told.cls ∈ tb := (tq q_1 rfl)
theorem kdX9_told : yX9_told.cls ≠ "java/lang/invoke/MethodHandle" ∧ yX9_told.cls ≠ "java/lang/invoke/VarHandle" ∧ (parseMethodDescriptor yX9_told.desc).map (fun d => d.parameters.length) = some 1 := ⟨by decide +kernel, by decide +kernel, by decide +kernel⟩
theorem kiX9_told : Cond.instanceMethod yX9_told ∈ tb := (tq q_650 rfl)
theorem ksX9_told : Cond.selects yX9_told.cls yX9_told yX9_told ∈ tb := (tq q_651 rfl)
theorem tgX9_told {x0 : Nat} {x1 : Int32} {h : PH} {r : Int32 × PH} (hf : (fX9_told x0 x1).1 h = some r) : ∃ n x, nth h x0 = some (8, n, x) := by
  obtain ⟨_, _, e, _⟩ := pb_some hf
  exact (chk_some e).2
set_option maxHeartbeats 4000000 in
set_option maxRecDepth 100000 in
theorem metX9_told (l : Launch) (G : GG) (ρ : Nat → Nat) {z : Nat} {x0 : Nat} {x1 : Int32} {h hE : PH} {v : Int32} (hf : (fX9_told x0 x1).1 h = some (v, hE)) : Met l yX9_told (wsY yX9_told cX9_told 2 (some .int)) (RM 1 21 h hE) (va_Pc [.ref (ρ x0), .int x1] (PcB G ρ h z)) (QI G ρ v hE h.length z) (DC h hE) (DS h hE) (Af ρ h.length z) := by
  refine met_start (by decide) (Nat.le_of_ble_eq_true rfl) ?_
  intro p e s m below meth c ls hz C hW hl
  subst hz
  have C : Cx G "PairSymbols" cX9_told 2 (some .int) "told" p s m _ meth c := C
  have hx := C.1
  have hb := C.2.1
  have hX : Ext hE hE := Ext.rf hE
  have hl : lv_has ls 2 [(0, .ref (ρ x0)), (1, .int x1)] := hl
  have hW : Wd G ρ h.length (sl h) s.heap h s.heap [] 0 0 := hW
  unfold fX9_told at hf
  obtain ⟨_, e0, hf⟩ := pb_rd (rd_chk _ _) hf
  refine lv_iload_n hx hb dX9_told_0 rfl (lv_at hl 1 rfl) ?_
  by_cases c1 : x1 = 0
  · rw [if_pos c1] at hf
    refine lv_tableIn (off := 39) (tgt := 40) hx hb dX9_told_1 (by rw [c1]; decide) (by rw [c1]; decide) (by rw [c1]; decide) (by decide) ?_
    refine lv_aload_n hx hb dX9_told_40 rfl (lv_at hl 0 rfl) ?_
    obtain ⟨v2, e2, hf⟩ := pb_rd (rd_gI _ _ _) hf
    refine r_gI C hW e2 flX9_225 rfl dX9_told_41 ?_
    obtain ⟨rfl, rfl⟩ := pp_some hf
    exact r_iret C hW dX9_told_44
  rw [if_neg c1] at hf
  by_cases c3 : x1 = 1
  · rw [if_pos c3] at hf
    refine lv_tableIn (off := 44) (tgt := 45) hx hb dX9_told_1 (by rw [c3]; decide) (by rw [c3]; decide) (by rw [c3]; decide) (by decide) ?_
    refine lv_aload_n hx hb dX9_told_45 rfl (lv_at hl 0 rfl) ?_
    obtain ⟨v4, e4, hf⟩ := pb_rd (rd_gI _ _ _) hf
    refine r_gI C hW e4 flX9_228 rfl dX9_told_46 ?_
    obtain ⟨rfl, rfl⟩ := pp_some hf
    exact r_iret C hW dX9_told_49
  rw [if_neg c3] at hf
  by_cases c5 : x1 = 2
  · rw [if_pos c5] at hf
    refine lv_tableIn (off := 49) (tgt := 50) hx hb dX9_told_1 (by rw [c5]; decide) (by rw [c5]; decide) (by rw [c5]; decide) (by decide) ?_
    refine lv_aload_n hx hb dX9_told_50 rfl (lv_at hl 0 rfl) ?_
    obtain ⟨v6, e6, hf⟩ := pb_rd (rd_gI _ _ _) hf
    refine r_gI C hW e6 flX9_231 rfl dX9_told_51 ?_
    obtain ⟨rfl, rfl⟩ := pp_some hf
    exact r_iret C hW dX9_told_54
  rw [if_neg c5] at hf
  by_cases c7 : x1 = 3
  · rw [if_pos c7] at hf
    refine lv_tableIn (off := 54) (tgt := 55) hx hb dX9_told_1 (by rw [c7]; decide) (by rw [c7]; decide) (by rw [c7]; decide) (by decide) ?_
    refine lv_aload_n hx hb dX9_told_55 rfl (lv_at hl 0 rfl) ?_
    obtain ⟨v8, e8, hf⟩ := pb_rd (rd_gA _ _ _) hf
    refine r_gA C hW e8 flX9_40 rfl dX9_told_56 ?_
    obtain ⟨v9, e9, hf⟩ := pb_rd (rd_gI _ _ _) hf
    refine r_gI C hW e9 flX9_209 rfl dX9_told_59 ?_
    obtain ⟨rfl, rfl⟩ := pp_some hf
    exact r_iret C hW dX9_told_62
  rw [if_neg c7] at hf
  by_cases c10 : x1 = 4
  · rw [if_pos c10] at hf
    refine lv_tableIn (off := 62) (tgt := 63) hx hb dX9_told_1 (by rw [c10]; decide) (by rw [c10]; decide) (by rw [c10]; decide) (by decide) ?_
    refine lv_aload_n hx hb dX9_told_63 rfl (lv_at hl 0 rfl) ?_
    obtain ⟨v11, e11, hf⟩ := pb_rd (rd_gA _ _ _) hf
    refine r_gA C hW e11 flX9_23 rfl dX9_told_64 ?_
    obtain ⟨v12, e12, hf⟩ := pb_rd (rd_gA _ _ _) hf
    refine r_gA C hW e12 flX9_62 rfl dX9_told_67 ?_
    obtain ⟨v13, e13, hf⟩ := pb_rd (rd_gI _ _ _) hf
    refine r_gI C hW e13 flX9_234 rfl dX9_told_70 ?_
    obtain ⟨rfl, rfl⟩ := pp_some hf
    exact r_iret C hW dX9_told_73
  rw [if_neg c10] at hf
  by_cases c14 : x1 = 5
  · rw [if_pos c14] at hf
    refine lv_tableIn (off := 73) (tgt := 74) hx hb dX9_told_1 (by rw [c14]; decide) (by rw [c14]; decide) (by rw [c14]; decide) (by decide) ?_
    refine lv_aload_n hx hb dX9_told_74 rfl (lv_at hl 0 rfl) ?_
    obtain ⟨v15, e15, hf⟩ := pb_rd (rd_gA _ _ _) hf
    refine r_gA C hW e15 flX9_33 rfl dX9_told_75 ?_
    obtain ⟨v16, e16, hf⟩ := pb_rd (rd_gI _ _ _) hf
    refine r_gI C hW e16 flX9_221 rfl dX9_told_78 ?_
    obtain ⟨rfl, rfl⟩ := pp_some hf
    exact r_iret C hW dX9_told_81
  rw [if_neg c14] at hf
  refine lv_tableOut (tgt := 82) hx hb dX9_told_1 (sw_out [0, 1, 2, 3, 4, 5] (List.forall_mem_cons.mpr ⟨c1, List.forall_mem_cons.mpr ⟨c3, List.forall_mem_cons.mpr ⟨c5, List.forall_mem_cons.mpr ⟨c7, List.forall_mem_cons.mpr ⟨c10, List.forall_mem_cons.mpr ⟨c14, fun _ h => absurd h List.not_mem_nil⟩⟩⟩⟩⟩⟩) (by decide)) (by decide) ?_
  refine lv_aload_n hx hb dX9_told_82 rfl (lv_at hl 0 rfl) ?_
  refine lv_bipush (v := -2) hx hb dX9_told_83 (by decide) ?_
  obtain ⟨v17, h17, e17, hf⟩ := pb_some hf
  obtain ⟨_, _, t18⟩ := tgX9_refuse e17
  refine r_calli hW (pext e17) (run_V (b := x0) (As := [.int (-2 : Int32)]) (rest := []) C hW (metX9_refuse l G ρ e17) ⟨rfl, rfl⟩ kcX9_refuse (tq q_343 rfl) kiX9_refuse ksX9_refuse knX9_refuse kdX9_refuse t18 rfl rfl ⟨Nat.le_of_ble_eq_true rfl, Nat.le_of_ble_eq_true rfl⟩ hl.1 (Nat.le_of_ble_eq_true rfl) (room_of hW (pext e17) ((pext hf).tr hX)) dX9_told_85 rfl) (fun H locs c1 s1 hW => ?_)
  obtain ⟨rfl, rfl⟩ := pp_some hf
  exact r_iret C hW dX9_told_88

theorem dX9_digest_0 : decode cX9_digest 0 = .ok (.ldc2_w 237, 3) := by decide +kernel
theorem dX9_digest_3 : decode cX9_digest 3 = .ok (.lstore_n 1, 1) := by decide +kernel
theorem dX9_digest_4 : decode cX9_digest 4 = .ok (.iconst 0, 1) := by decide +kernel
theorem dX9_digest_5 : decode cX9_digest 5 = .ok (.istore_n 3, 1) := by decide +kernel
theorem dX9_digest_6 : decode cX9_digest 6 = .ok (.iload_n 3, 1) := by decide +kernel
theorem dX9_digest_7 : decode cX9_digest 7 = .ok (.iconst 5, 1) := by decide +kernel
theorem dX9_digest_8 : decode cX9_digest 8 = .ok (.if_icmp .gt 22, 3) := by decide +kernel
theorem dX9_digest_11 : decode cX9_digest 11 = .ok (.ldc2_w 239, 3) := by decide +kernel
theorem dX9_digest_14 : decode cX9_digest 14 = .ok (.lload_n 1, 1) := by decide +kernel
theorem dX9_digest_15 : decode cX9_digest 15 = .ok (.lmul, 1) := by decide +kernel
theorem dX9_digest_16 : decode cX9_digest 16 = .ok (.aload_n 0, 1) := by decide +kernel
theorem dX9_digest_17 : decode cX9_digest 17 = .ok (.iload_n 3, 1) := by decide +kernel
theorem dX9_digest_18 : decode cX9_digest 18 = .ok (.invokevirtual 241, 3) := by decide +kernel
theorem dX9_digest_21 : decode cX9_digest 21 = .ok (.i2l, 1) := by decide +kernel
theorem dX9_digest_22 : decode cX9_digest 22 = .ok (.ladd, 1) := by decide +kernel
theorem dX9_digest_23 : decode cX9_digest 23 = .ok (.lstore_n 1, 1) := by decide +kernel
theorem dX9_digest_24 : decode cX9_digest 24 = .ok (.iinc 3 1, 3) := by decide +kernel
theorem dX9_digest_27 : decode cX9_digest 27 = .ok (.goto (-21), 3) := by decide +kernel
theorem dX9_digest_30 : decode cX9_digest 30 = .ok (.ldc2_w 239, 3) := by decide +kernel
theorem dX9_digest_33 : decode cX9_digest 33 = .ok (.lload_n 1, 1) := by decide +kernel
theorem dX9_digest_34 : decode cX9_digest 34 = .ok (.lmul, 1) := by decide +kernel
theorem dX9_digest_35 : decode cX9_digest 35 = .ok (.aload_n 0, 1) := by decide +kernel
theorem dX9_digest_36 : decode cX9_digest 36 = .ok (.invokevirtual 244, 3) := by decide +kernel
theorem dX9_digest_39 : decode cX9_digest 39 = .ok (.i2l, 1) := by decide +kernel
theorem dX9_digest_40 : decode cX9_digest 40 = .ok (.ladd, 1) := by decide +kernel
theorem dX9_digest_41 : decode cX9_digest 41 = .ok (.lstore_n 1, 1) := by decide +kernel
theorem dX9_digest_42 : decode cX9_digest 42 = .ok (.iconst 0, 1) := by decide +kernel
theorem dX9_digest_43 : decode cX9_digest 43 = .ok (.istore_n 3, 1) := by decide +kernel
theorem dX9_digest_44 : decode cX9_digest 44 = .ok (.iload_n 3, 1) := by decide +kernel
theorem dX9_digest_45 : decode cX9_digest 45 = .ok (.iconst 2, 1) := by decide +kernel
theorem dX9_digest_46 : decode cX9_digest 46 = .ok (.if_icmp .gt 22, 3) := by decide +kernel
theorem dX9_digest_49 : decode cX9_digest 49 = .ok (.ldc2_w 239, 3) := by decide +kernel
theorem dX9_digest_52 : decode cX9_digest 52 = .ok (.lload_n 1, 1) := by decide +kernel
theorem dX9_digest_53 : decode cX9_digest 53 = .ok (.lmul, 1) := by decide +kernel
theorem dX9_digest_54 : decode cX9_digest 54 = .ok (.aload_n 0, 1) := by decide +kernel
theorem dX9_digest_55 : decode cX9_digest 55 = .ok (.iload_n 3, 1) := by decide +kernel
theorem dX9_digest_56 : decode cX9_digest 56 = .ok (.invokevirtual 247, 3) := by decide +kernel
theorem dX9_digest_59 : decode cX9_digest 59 = .ok (.i2l, 1) := by decide +kernel
theorem dX9_digest_60 : decode cX9_digest 60 = .ok (.ladd, 1) := by decide +kernel
theorem dX9_digest_61 : decode cX9_digest 61 = .ok (.lstore_n 1, 1) := by decide +kernel
theorem dX9_digest_62 : decode cX9_digest 62 = .ok (.iinc 3 1, 3) := by decide +kernel
theorem dX9_digest_65 : decode cX9_digest 65 = .ok (.goto (-21), 3) := by decide +kernel
theorem dX9_digest_68 : decode cX9_digest 68 = .ok (.iconst 0, 1) := by decide +kernel
theorem dX9_digest_69 : decode cX9_digest 69 = .ok (.istore_n 3, 1) := by decide +kernel
theorem dX9_digest_70 : decode cX9_digest 70 = .ok (.iload_n 3, 1) := by decide +kernel
theorem dX9_digest_71 : decode cX9_digest 71 = .ok (.aload_n 0, 1) := by decide +kernel
theorem dX9_digest_72 : decode cX9_digest 72 = .ok (.getfield 23, 3) := by decide +kernel
theorem dX9_digest_75 : decode cX9_digest 75 = .ok (.getfield 62, 3) := by decide +kernel
theorem dX9_digest_78 : decode cX9_digest 78 = .ok (.getfield 107, 3) := by decide +kernel
theorem dX9_digest_81 : decode cX9_digest 81 = .ok (.if_icmp .ge 35, 3) := by decide +kernel
theorem dX9_digest_84 : decode cX9_digest 84 = .ok (.ldc2_w 239, 3) := by decide +kernel
theorem dX9_digest_87 : decode cX9_digest 87 = .ok (.lload_n 1, 1) := by decide +kernel
theorem dX9_digest_88 : decode cX9_digest 88 = .ok (.lmul, 1) := by decide +kernel
theorem dX9_digest_89 : decode cX9_digest 89 = .ok (.aload_n 0, 1) := by decide +kernel
theorem dX9_digest_90 : decode cX9_digest 90 = .ok (.iload_n 3, 1) := by decide +kernel
theorem dX9_digest_91 : decode cX9_digest 91 = .ok (.iconst 0, 1) := by decide +kernel
theorem dX9_digest_92 : decode cX9_digest 92 = .ok (.invokevirtual 250, 3) := by decide +kernel
theorem dX9_digest_95 : decode cX9_digest 95 = .ok (.ladd, 1) := by decide +kernel
theorem dX9_digest_96 : decode cX9_digest 96 = .ok (.lstore_n 1, 1) := by decide +kernel
theorem dX9_digest_97 : decode cX9_digest 97 = .ok (.ldc2_w 239, 3) := by decide +kernel
theorem dX9_digest_100 : decode cX9_digest 100 = .ok (.lload_n 1, 1) := by decide +kernel
theorem dX9_digest_101 : decode cX9_digest 101 = .ok (.lmul, 1) := by decide +kernel
theorem dX9_digest_102 : decode cX9_digest 102 = .ok (.aload_n 0, 1) := by decide +kernel
theorem dX9_digest_103 : decode cX9_digest 103 = .ok (.iload_n 3, 1) := by decide +kernel
theorem dX9_digest_104 : decode cX9_digest 104 = .ok (.iconst 1, 1) := by decide +kernel
theorem dX9_digest_105 : decode cX9_digest 105 = .ok (.invokevirtual 250, 3) := by decide +kernel
theorem dX9_digest_108 : decode cX9_digest 108 = .ok (.ladd, 1) := by decide +kernel
theorem dX9_digest_109 : decode cX9_digest 109 = .ok (.lstore_n 1, 1) := by decide +kernel
theorem dX9_digest_110 : decode cX9_digest 110 = .ok (.iinc 3 1, 3) := by decide +kernel
theorem dX9_digest_113 : decode cX9_digest 113 = .ok (.goto (-43), 3) := by decide +kernel
theorem dX9_digest_116 : decode cX9_digest 116 = .ok (.ldc2_w 239, 3) := by decide +kernel
theorem dX9_digest_119 : decode cX9_digest 119 = .ok (.lload_n 1, 1) := by decide +kernel
theorem dX9_digest_120 : decode cX9_digest 120 = .ok (.lmul, 1) := by decide +kernel
theorem dX9_digest_121 : decode cX9_digest 121 = .ok (.aload_n 0, 1) := by decide +kernel
theorem dX9_digest_122 : decode cX9_digest 122 = .ok (.invokevirtual 254, 3) := by decide +kernel
theorem dX9_digest_125 : decode cX9_digest 125 = .ok (.i2l, 1) := by decide +kernel
theorem dX9_digest_126 : decode cX9_digest 126 = .ok (.ladd, 1) := by decide +kernel
theorem dX9_digest_127 : decode cX9_digest 127 = .ok (.lreturn, 1) := by decide +kernel
theorem kcX9_digest : Cond.code yX9_digest cX9_digest 4 (some .long) ∈ tb := tq q_656 rfl
theorem knX9_digest : Cond.initialized yX9_digest.cls ∈ tb := (tq q_1 rfl)
theorem kdX9_digest : yX9_digest.cls ≠ "java/lang/invoke/MethodHandle" ∧ yX9_digest.cls ≠ "java/lang/invoke/VarHandle" ∧ (parseMethodDescriptor yX9_digest.desc).map (fun d => d.parameters.length) = some 0 := ⟨by decide +kernel, by decide +kernel, by decide +kernel⟩
theorem kiX9_digest : Cond.instanceMethod yX9_digest ∈ tb := (tq q_654 rfl)
theorem ksX9_digest : Cond.selects yX9_digest.cls yX9_digest yX9_digest ∈ tb := (tq q_655 rfl)
theorem tgX9_digest {x0 : Nat} {h : PH} {r : Int64 × PH} (hf : (fX9_digest x0).1 h = some r) : ∃ n x, nth h x0 = some (8, n, x) := by
  obtain ⟨_, _, e, _⟩ := pb_some hf
  exact (chk_some e).2
set_option maxHeartbeats 4000000 in
set_option maxRecDepth 100000 in
theorem wX9_digest_B6 {p : Program} {l : Launch} {e : Env} {s : State} {m : MethodId} {args : Array Value} {below : List Frame} {meth : Method} {c : Code} {G : GG} {ρ : Nat → Nat} {h0 hE hB : PH} {Q : State → Prop} {x0 : Nat} (C : Cx G "PairSymbols" cX9_digest 4 (some .long) "digest" p s m args meth c) {x1 : Int64} {x3 : Int32} {h : PH} {H : Heap} {locs : List Loc} {cells slots : Nat} {ls : Array Slot} {r : (Int64 × Int32) ⊕ (Int64)} (hf : (fX9_digest_b6 x0 x1 x3).1 h = some (r, hB)) (hX : Ext hB hE) (hW : Wd G ρ h0.length (sl h0) s.heap h H locs cells slots) (hl : lv_has ls 4 [(0, .ref (ρ x0)), (1, .long x1), (3, .int x3)]) (kc : ∀ y : Int64 × Int32, r = .inl y → ∀ (H : Heap) (locs : List Loc) (c1 s1 : Nat) (ls : Array Slot), Wd G ρ h0.length (sl h0) s.heap hB H locs c1 s1 → lv_has ls 4 [(0, .ref (ρ x0)), (1, .long y.1), (3, .int y.2)] → W p l e (RM 3 70 h0 hE) s m args below meth c H locs c1 s1 Q (F0 m 6 ls [])) (ke : ∀ z : Int64, r = .inr z → ∀ (H : Heap) (locs : List Loc) (c1 s1 : Nat) (ls : Array Slot), Wd G ρ h0.length (sl h0) s.heap hB H locs c1 s1 → lv_has ls 4 [(0, .ref (ρ x0)), (1, .long z)] → W p l e (RM 3 70 h0 hE) s m args below meth c H locs c1 s1 Q (F0 m 30 ls [])) : W p l e (RM 3 70 h0 hE) s m args below meth c H locs cells slots Q (F0 m 6 ls []) := by
  have hx := C.1
  have hb := C.2.1
  unfold fX9_digest_b6 at hf
  refine lv_iload_n hx hb dX9_digest_6 rfl (lv_at hl 2 rfl) ?_
  refine lv_iconst (v := 5) hx hb dX9_digest_7 (by decide) ?_
  refine lv_icmp_gt (tgt := 30) hx hb dX9_digest_8 (by decide) (fun c1 => ?_) (fun c1 => ?_)
  · rw [if_pos c1] at hf
    obtain ⟨rfl, rfl⟩ := pp_some hf
    exact ke _ rfl _ _ _ _ _ hW (lv_sub hl [0, 1] rfl)
  · rw [if_neg c1] at hf
    refine r_ldc2 (v := 31) C (tq q_658 rfl) dX9_digest_11 ?_
    refine lv_lload_n hx hb dX9_digest_14 rfl (lv_at hl 1 rfl) ?_
    refine lv_lmul hx hb dX9_digest_15 ?_
    refine lv_aload_n hx hb dX9_digest_16 rfl (lv_at hl 0 rfl) ?_
    refine lv_iload_n hx hb dX9_digest_17 rfl (lv_at hl 2 rfl) ?_
    obtain ⟨v2, h2, e2, hf⟩ := pb_some hf
    obtain ⟨_, _, t3⟩ := tgX9_told e2
    refine r_calli hW (pext e2) (run_V (b := x0) (As := [.int x3]) (rest := [.long ((31 : Int64) * x1)]) C hW (metX9_told l G ρ e2) ⟨rfl, rfl⟩ kcX9_told (tq q_659 rfl) kiX9_told ksX9_told knX9_told kdX9_told t3 rfl rfl ⟨Nat.le_of_ble_eq_true rfl, Nat.le_of_ble_eq_true rfl⟩ hl.1 (Nat.le_of_ble_eq_true rfl) (room_of hW (pext e2) ((pext hf).tr hX)) dX9_digest_18 rfl) (fun H locs c1 s1 hW => ?_)
    refine lv_i2l (v := v2.toInt64) hx hb dX9_digest_21 rfl ?_
    refine lv_ladd hx hb dX9_digest_22 ?_
    refine lv_lstore_n (lv' := [(1, .long (((31 : Int64) * x1) + v2.toInt64)), (0, .ref (ρ x0)), (3, .int x3)]) hx hb dX9_digest_23 rfl hl (by decide) rfl (fun ls hl => ?_)
    refine lv_iinc (v := (x3 + 1)) (lv' := [(3, .int (x3 + 1)), (1, .long (((31 : Int64) * x1) + v2.toInt64)), (0, .ref (ρ x0))]) hx hb dX9_digest_24 hl (k := 2) rfl rfl (by decide) rfl (fun ls hl => ?_)
    refine lv_goto (tgt := 6) hx hb dX9_digest_27 (by decide) ?_
    obtain ⟨rfl, rfl⟩ := pp_some hf
    exact kc _ rfl _ _ _ _ _ hW (lv_sub hl [2, 1, 0] rfl)
set_option maxHeartbeats 4000000 in
theorem wX9_digest_L6 {p : Program} {l : Launch} {e : Env} {s : State} {m : MethodId} {args : Array Value} {below : List Frame} {meth : Method} {c : Code} {G : GG} {ρ : Nat → Nat} {h0 hE hB : PH} {Q : State → Prop} {x0 : Nat} (C : Cx G "PairSymbols" cX9_digest 4 (some .long) "digest" p s m args meth c) {z : (Int64)} (n : Nat) : ∀ (x : Int64 × Int32) {h : PH} {H : Heap} {locs : List Loc} {cells slots : Nat} {ls : Array Slot}, (plo (fX9_digest_B6 x0) n x).1 h = some (z, hB) → Ext hB hE → Wd G ρ h0.length (sl h0) s.heap h H locs cells slots → lv_has ls 4 [(0, .ref (ρ x0)), (1, .long x.1), (3, .int x.2)] → (ke : ∀ (H : Heap) (locs : List Loc) (c1 s1 : Nat) (ls : Array Slot), Wd G ρ h0.length (sl h0) s.heap hB H locs c1 s1 → lv_has ls 4 [(0, .ref (ρ x0)), (1, .long z)] → W p l e (RM 3 70 h0 hE) s m args below meth c H locs c1 s1 Q (F0 m 30 ls [])) → W p l e (RM 3 70 h0 hE) s m args below meth c H locs cells slots Q (F0 m 6 ls []) := by
  induction n with
  | zero =>
    intro x h H locs cells slots ls hf
    rw [plo_0] at hf
    exact (pf_no hf).elim
  | succ n ih =>
    intro x h H locs cells slots ls hf hX hW hl ke
    rw [plo_s] at hf
    obtain ⟨r, h1, e1, hf⟩ := pb_some hf
    unfold fX9_digest_B6 at e1
    rw [frJ_eq, frI_eq] at e1
    refine wX9_digest_B6 C e1 ((pext hf).tr hX) hW hl (fun y hr H locs c1 s1 ls hW hl => ?_) (fun y hr H locs c1 s1 ls hW hl => ?_)
    · subst hr
      exact ih y hf hX hW hl ke
    · subst hr
      obtain ⟨rfl, rfl⟩ := pp_some hf
      exact ke H locs c1 s1 ls hW hl
set_option maxHeartbeats 4000000 in
set_option maxRecDepth 100000 in
theorem wX9_digest_B44 {p : Program} {l : Launch} {e : Env} {s : State} {m : MethodId} {args : Array Value} {below : List Frame} {meth : Method} {c : Code} {G : GG} {ρ : Nat → Nat} {h0 hE hB : PH} {Q : State → Prop} {x0 : Nat} (C : Cx G "PairSymbols" cX9_digest 4 (some .long) "digest" p s m args meth c) {x1 : Int64} {x3 : Int32} {h : PH} {H : Heap} {locs : List Loc} {cells slots : Nat} {ls : Array Slot} {r : (Int64 × Int32) ⊕ (Int64)} (hf : (fX9_digest_b44 x0 x1 x3).1 h = some (r, hB)) (hX : Ext hB hE) (hW : Wd G ρ h0.length (sl h0) s.heap h H locs cells slots) (hl : lv_has ls 4 [(0, .ref (ρ x0)), (1, .long x1), (3, .int x3)]) (kc : ∀ y : Int64 × Int32, r = .inl y → ∀ (H : Heap) (locs : List Loc) (c1 s1 : Nat) (ls : Array Slot), Wd G ρ h0.length (sl h0) s.heap hB H locs c1 s1 → lv_has ls 4 [(0, .ref (ρ x0)), (1, .long y.1), (3, .int y.2)] → W p l e (RM 3 70 h0 hE) s m args below meth c H locs c1 s1 Q (F0 m 44 ls [])) (ke : ∀ z : Int64, r = .inr z → ∀ (H : Heap) (locs : List Loc) (c1 s1 : Nat) (ls : Array Slot), Wd G ρ h0.length (sl h0) s.heap hB H locs c1 s1 → lv_has ls 4 [(0, .ref (ρ x0)), (1, .long z)] → W p l e (RM 3 70 h0 hE) s m args below meth c H locs c1 s1 Q (F0 m 68 ls [])) : W p l e (RM 3 70 h0 hE) s m args below meth c H locs cells slots Q (F0 m 44 ls []) := by
  have hx := C.1
  have hb := C.2.1
  unfold fX9_digest_b44 at hf
  refine lv_iload_n hx hb dX9_digest_44 rfl (lv_at hl 2 rfl) ?_
  refine lv_iconst (v := 2) hx hb dX9_digest_45 (by decide) ?_
  refine lv_icmp_gt (tgt := 68) hx hb dX9_digest_46 (by decide) (fun c7 => ?_) (fun c7 => ?_)
  · rw [if_pos c7] at hf
    obtain ⟨rfl, rfl⟩ := pp_some hf
    exact ke _ rfl _ _ _ _ _ hW (lv_sub hl [0, 1] rfl)
  · rw [if_neg c7] at hf
    refine r_ldc2 (v := 31) C (tq q_658 rfl) dX9_digest_49 ?_
    refine lv_lload_n hx hb dX9_digest_52 rfl (lv_at hl 1 rfl) ?_
    refine lv_lmul hx hb dX9_digest_53 ?_
    refine lv_aload_n hx hb dX9_digest_54 rfl (lv_at hl 0 rfl) ?_
    refine lv_iload_n hx hb dX9_digest_55 rfl (lv_at hl 2 rfl) ?_
    obtain ⟨v8, h8, e8, hf⟩ := pb_some hf
    obtain ⟨_, _, t9⟩ := tgX9_space e8
    refine r_calli hW (pext e8) (run_V (b := x0) (As := [.int x3]) (rest := [.long ((31 : Int64) * x1)]) C hW (metX9_space l G ρ e8) ⟨rfl, rfl⟩ kcX9_space (tq q_661 rfl) kiX9_space ksX9_space knX9_space kdX9_space t9 rfl rfl ⟨Nat.le_of_ble_eq_true rfl, Nat.le_of_ble_eq_true rfl⟩ hl.1 (Nat.le_of_ble_eq_true rfl) (room_of hW (pext e8) ((pext hf).tr hX)) dX9_digest_56 rfl) (fun H locs c1 s1 hW => ?_)
    refine lv_i2l (v := v8.toInt64) hx hb dX9_digest_59 rfl ?_
    refine lv_ladd hx hb dX9_digest_60 ?_
    refine lv_lstore_n (lv' := [(1, .long (((31 : Int64) * x1) + v8.toInt64)), (0, .ref (ρ x0)), (3, .int x3)]) hx hb dX9_digest_61 rfl hl (by decide) rfl (fun ls hl => ?_)
    refine lv_iinc (v := (x3 + 1)) (lv' := [(3, .int (x3 + 1)), (1, .long (((31 : Int64) * x1) + v8.toInt64)), (0, .ref (ρ x0))]) hx hb dX9_digest_62 hl (k := 2) rfl rfl (by decide) rfl (fun ls hl => ?_)
    refine lv_goto (tgt := 44) hx hb dX9_digest_65 (by decide) ?_
    obtain ⟨rfl, rfl⟩ := pp_some hf
    exact kc _ rfl _ _ _ _ _ hW (lv_sub hl [2, 1, 0] rfl)
set_option maxHeartbeats 4000000 in
theorem wX9_digest_L44 {p : Program} {l : Launch} {e : Env} {s : State} {m : MethodId} {args : Array Value} {below : List Frame} {meth : Method} {c : Code} {G : GG} {ρ : Nat → Nat} {h0 hE hB : PH} {Q : State → Prop} {x0 : Nat} (C : Cx G "PairSymbols" cX9_digest 4 (some .long) "digest" p s m args meth c) {z : (Int64)} (n : Nat) : ∀ (x : Int64 × Int32) {h : PH} {H : Heap} {locs : List Loc} {cells slots : Nat} {ls : Array Slot}, (plo (fX9_digest_B44 x0) n x).1 h = some (z, hB) → Ext hB hE → Wd G ρ h0.length (sl h0) s.heap h H locs cells slots → lv_has ls 4 [(0, .ref (ρ x0)), (1, .long x.1), (3, .int x.2)] → (ke : ∀ (H : Heap) (locs : List Loc) (c1 s1 : Nat) (ls : Array Slot), Wd G ρ h0.length (sl h0) s.heap hB H locs c1 s1 → lv_has ls 4 [(0, .ref (ρ x0)), (1, .long z)] → W p l e (RM 3 70 h0 hE) s m args below meth c H locs c1 s1 Q (F0 m 68 ls [])) → W p l e (RM 3 70 h0 hE) s m args below meth c H locs cells slots Q (F0 m 44 ls []) := by
  induction n with
  | zero =>
    intro x h H locs cells slots ls hf
    rw [plo_0] at hf
    exact (pf_no hf).elim
  | succ n ih =>
    intro x h H locs cells slots ls hf hX hW hl ke
    rw [plo_s] at hf
    obtain ⟨r, h1, e1, hf⟩ := pb_some hf
    unfold fX9_digest_B44 at e1
    rw [frJ_eq, frI_eq] at e1
    refine wX9_digest_B44 C e1 ((pext hf).tr hX) hW hl (fun y hr H locs c1 s1 ls hW hl => ?_) (fun y hr H locs c1 s1 ls hW hl => ?_)
    · subst hr
      exact ih y hf hX hW hl ke
    · subst hr
      obtain ⟨rfl, rfl⟩ := pp_some hf
      exact ke H locs c1 s1 ls hW hl
set_option maxHeartbeats 4000000 in
set_option maxRecDepth 100000 in
theorem wX9_digest_B70 {p : Program} {l : Launch} {e : Env} {s : State} {m : MethodId} {args : Array Value} {below : List Frame} {meth : Method} {c : Code} {G : GG} {ρ : Nat → Nat} {h0 hE hB : PH} {Q : State → Prop} {x0 : Nat} (C : Cx G "PairSymbols" cX9_digest 4 (some .long) "digest" p s m args meth c) {x1 : Int64} {x3 : Int32} {h : PH} {H : Heap} {locs : List Loc} {cells slots : Nat} {ls : Array Slot} {r : (Int64 × Int32) ⊕ (Int64)} (hf : (fX9_digest_b70 x0 x1 x3).1 h = some (r, hB)) (hX : Ext hB hE) (hW : Wd G ρ h0.length (sl h0) s.heap h H locs cells slots) (hl : lv_has ls 4 [(0, .ref (ρ x0)), (1, .long x1), (3, .int x3)]) (kc : ∀ y : Int64 × Int32, r = .inl y → ∀ (H : Heap) (locs : List Loc) (c1 s1 : Nat) (ls : Array Slot), Wd G ρ h0.length (sl h0) s.heap hB H locs c1 s1 → lv_has ls 4 [(0, .ref (ρ x0)), (1, .long y.1), (3, .int y.2)] → W p l e (RM 3 70 h0 hE) s m args below meth c H locs c1 s1 Q (F0 m 70 ls [])) (ke : ∀ z : Int64, r = .inr z → ∀ (H : Heap) (locs : List Loc) (c1 s1 : Nat) (ls : Array Slot), Wd G ρ h0.length (sl h0) s.heap hB H locs c1 s1 → lv_has ls 4 [(0, .ref (ρ x0)), (1, .long z)] → W p l e (RM 3 70 h0 hE) s m args below meth c H locs c1 s1 Q (F0 m 116 ls [])) : W p l e (RM 3 70 h0 hE) s m args below meth c H locs cells slots Q (F0 m 70 ls []) := by
  have hx := C.1
  have hb := C.2.1
  unfold fX9_digest_b70 at hf
  refine lv_iload_n hx hb dX9_digest_70 rfl (lv_at hl 2 rfl) ?_
  refine lv_aload_n hx hb dX9_digest_71 rfl (lv_at hl 0 rfl) ?_
  obtain ⟨v11, e11, hf⟩ := pb_rd (rd_gA _ _ _) hf
  refine r_gA C hW e11 flX9_23 rfl dX9_digest_72 ?_
  obtain ⟨v12, e12, hf⟩ := pb_rd (rd_gA _ _ _) hf
  refine r_gA C hW e12 flX9_62 rfl dX9_digest_75 ?_
  obtain ⟨v13, e13, hf⟩ := pb_rd (rd_gI _ _ _) hf
  refine r_gI C hW e13 flX9_107 rfl dX9_digest_78 ?_
  refine lv_icmp_ge (tgt := 116) hx hb dX9_digest_81 (by decide) (fun c14 => ?_) (fun c14 => ?_)
  · rw [if_pos c14] at hf
    obtain ⟨rfl, rfl⟩ := pp_some hf
    exact ke _ rfl _ _ _ _ _ hW (lv_sub hl [0, 1] rfl)
  · rw [if_neg c14] at hf
    refine r_ldc2 (v := 31) C (tq q_658 rfl) dX9_digest_84 ?_
    refine lv_lload_n hx hb dX9_digest_87 rfl (lv_at hl 1 rfl) ?_
    refine lv_lmul hx hb dX9_digest_88 ?_
    refine lv_aload_n hx hb dX9_digest_89 rfl (lv_at hl 0 rfl) ?_
    refine lv_iload_n hx hb dX9_digest_90 rfl (lv_at hl 2 rfl) ?_
    refine lv_iconst (v := 0) hx hb dX9_digest_91 (by decide) ?_
    obtain ⟨v15, h15, e15, hf⟩ := pb_some hf
    obtain ⟨_, _, t16⟩ := tgX9_sum e15
    refine r_calll hW (pext e15) (run_V (b := x0) (As := [.int x3, .int (0 : Int32)]) (rest := [.long ((31 : Int64) * x1)]) C hW (metX9_sum l G ρ e15) ⟨rfl, rfl⟩ kcX9_sum (tq q_662 rfl) kiX9_sum ksX9_sum knX9_sum kdX9_sum t16 rfl rfl ⟨Nat.le_of_ble_eq_true rfl, Nat.le_of_ble_eq_true rfl⟩ hl.1 (Nat.le_of_ble_eq_true rfl) (room_of hW (pext e15) ((pext hf).tr hX)) dX9_digest_92 rfl) (fun H locs c1 s1 hW => ?_)
    refine lv_ladd hx hb dX9_digest_95 ?_
    refine lv_lstore_n (lv' := [(1, .long (((31 : Int64) * x1) + v15)), (0, .ref (ρ x0)), (3, .int x3)]) hx hb dX9_digest_96 rfl hl (by decide) rfl (fun ls hl => ?_)
    refine r_ldc2 (v := 31) C (tq q_658 rfl) dX9_digest_97 ?_
    refine lv_lload_n hx hb dX9_digest_100 rfl (lv_at hl 0 rfl) ?_
    refine lv_lmul hx hb dX9_digest_101 ?_
    refine lv_aload_n hx hb dX9_digest_102 rfl (lv_at hl 1 rfl) ?_
    refine lv_iload_n hx hb dX9_digest_103 rfl (lv_at hl 2 rfl) ?_
    refine lv_iconst (v := 1) hx hb dX9_digest_104 (by decide) ?_
    obtain ⟨v17, h17, e17, hf⟩ := pb_some hf
    obtain ⟨_, _, t18⟩ := tgX9_sum e17
    refine r_calll hW (pext e17) (run_V (b := x0) (As := [.int x3, .int (1 : Int32)]) (rest := [.long ((31 : Int64) * (((31 : Int64) * x1) + v15))]) C hW (metX9_sum l G ρ e17) ⟨rfl, rfl⟩ kcX9_sum (tq q_662 rfl) kiX9_sum ksX9_sum knX9_sum kdX9_sum t18 rfl rfl ⟨Nat.le_of_ble_eq_true rfl, Nat.le_of_ble_eq_true rfl⟩ hl.1 (Nat.le_of_ble_eq_true rfl) (room_of hW (pext e17) ((pext hf).tr hX)) dX9_digest_105 rfl) (fun H locs c1 s1 hW => ?_)
    refine lv_ladd hx hb dX9_digest_108 ?_
    refine lv_lstore_n (lv' := [(1, .long (((31 : Int64) * (((31 : Int64) * x1) + v15)) + v17)), (0, .ref (ρ x0)), (3, .int x3)]) hx hb dX9_digest_109 rfl hl (by decide) rfl (fun ls hl => ?_)
    refine lv_iinc (v := (x3 + 1)) (lv' := [(3, .int (x3 + 1)), (1, .long (((31 : Int64) * (((31 : Int64) * x1) + v15)) + v17)), (0, .ref (ρ x0))]) hx hb dX9_digest_110 hl (k := 2) rfl rfl (by decide) rfl (fun ls hl => ?_)
    refine lv_goto (tgt := 70) hx hb dX9_digest_113 (by decide) ?_
    obtain ⟨rfl, rfl⟩ := pp_some hf
    exact kc _ rfl _ _ _ _ _ hW (lv_sub hl [2, 1, 0] rfl)
set_option maxHeartbeats 4000000 in
theorem wX9_digest_L70 {p : Program} {l : Launch} {e : Env} {s : State} {m : MethodId} {args : Array Value} {below : List Frame} {meth : Method} {c : Code} {G : GG} {ρ : Nat → Nat} {h0 hE hB : PH} {Q : State → Prop} {x0 : Nat} (C : Cx G "PairSymbols" cX9_digest 4 (some .long) "digest" p s m args meth c) {z : (Int64)} (n : Nat) : ∀ (x : Int64 × Int32) {h : PH} {H : Heap} {locs : List Loc} {cells slots : Nat} {ls : Array Slot}, (plo (fX9_digest_B70 x0) n x).1 h = some (z, hB) → Ext hB hE → Wd G ρ h0.length (sl h0) s.heap h H locs cells slots → lv_has ls 4 [(0, .ref (ρ x0)), (1, .long x.1), (3, .int x.2)] → (ke : ∀ (H : Heap) (locs : List Loc) (c1 s1 : Nat) (ls : Array Slot), Wd G ρ h0.length (sl h0) s.heap hB H locs c1 s1 → lv_has ls 4 [(0, .ref (ρ x0)), (1, .long z)] → W p l e (RM 3 70 h0 hE) s m args below meth c H locs c1 s1 Q (F0 m 116 ls [])) → W p l e (RM 3 70 h0 hE) s m args below meth c H locs cells slots Q (F0 m 70 ls []) := by
  induction n with
  | zero =>
    intro x h H locs cells slots ls hf
    rw [plo_0] at hf
    exact (pf_no hf).elim
  | succ n ih =>
    intro x h H locs cells slots ls hf hX hW hl ke
    rw [plo_s] at hf
    obtain ⟨r, h1, e1, hf⟩ := pb_some hf
    unfold fX9_digest_B70 at e1
    rw [frJ_eq, frI_eq] at e1
    refine wX9_digest_B70 C e1 ((pext hf).tr hX) hW hl (fun y hr H locs c1 s1 ls hW hl => ?_) (fun y hr H locs c1 s1 ls hW hl => ?_)
    · subst hr
      exact ih y hf hX hW hl ke
    · subst hr
      obtain ⟨rfl, rfl⟩ := pp_some hf
      exact ke H locs c1 s1 ls hW hl
set_option maxHeartbeats 4000000 in
set_option maxRecDepth 100000 in
theorem metX9_digest (l : Launch) (G : GG) (ρ : Nat → Nat) {z : Nat} {x0 : Nat} {h hE : PH} {v : Int64} (hf : (fX9_digest x0).1 h = some (v, hE)) : Met l yX9_digest (wsY yX9_digest cX9_digest 4 (some .long)) (RM 3 70 h hE) (va_Pc [.ref (ρ x0)] (PcB G ρ h z)) (QL G ρ v hE h.length z) (DC h hE) (DS h hE) (Af ρ h.length z) := by
  refine met_start (by decide) (Nat.le_of_ble_eq_true rfl) ?_
  intro p e s m below meth c ls hz C hW hl
  subst hz
  have C : Cx G "PairSymbols" cX9_digest 4 (some .long) "digest" p s m _ meth c := C
  have hx := C.1
  have hb := C.2.1
  have hX : Ext hE hE := Ext.rf hE
  have hl : lv_has ls 4 [(0, .ref (ρ x0))] := hl
  have hW : Wd G ρ h.length (sl h) s.heap h s.heap [] 0 0 := hW
  unfold fX9_digest at hf
  obtain ⟨_, e0, hf⟩ := pb_rd (rd_chk _ _) hf
  refine r_ldc2 (v := 2297) C (tq q_657 rfl) dX9_digest_0 ?_
  refine lv_lstore_n (lv' := [(1, .long (2297 : Int64)), (0, .ref (ρ x0))]) hx hb dX9_digest_3 rfl hl (by decide) rfl (fun ls hl => ?_)
  refine lv_iconst (v := 0) hx hb dX9_digest_4 (by decide) ?_
  refine lv_istore_n (lv' := [(3, .int (0 : Int32)), (1, .long (2297 : Int64)), (0, .ref (ρ x0))]) hx hb dX9_digest_5 rfl hl (by decide) rfl (fun ls hl => ?_)
  obtain ⟨z4, h4, e4, hf⟩ := pb_some hf
  refine wX9_digest_L6 C fu _ e4 ((pext hf).tr hX) hW (lv_sub hl [2, 1, 0] rfl) (fun H locs c1 s1 ls hW hl => ?_)
  refine r_ldc2 (v := 31) C (tq q_658 rfl) dX9_digest_30 ?_
  refine lv_lload_n hx hb dX9_digest_33 rfl (lv_at hl 1 rfl) ?_
  refine lv_lmul hx hb dX9_digest_34 ?_
  refine lv_aload_n hx hb dX9_digest_35 rfl (lv_at hl 0 rfl) ?_
  obtain ⟨v5, h5, e5, hf⟩ := pb_some hf
  obtain ⟨_, _, t6⟩ := tgX9_symbols e5
  refine r_calli hW (pext e5) (run_V (b := x0) (As := []) (rest := [.long ((31 : Int64) * z4)]) C hW (metX9_symbols l G ρ e5) ⟨rfl, rfl⟩ kcX9_symbols (tq q_660 rfl) kiX9_symbols ksX9_symbols knX9_symbols kdX9_symbols t6 rfl rfl ⟨Nat.le_of_ble_eq_true rfl, Nat.le_of_ble_eq_true rfl⟩ hl.1 (Nat.le_of_ble_eq_true rfl) (room_of hW (pext e5) ((pext hf).tr hX)) dX9_digest_36 rfl) (fun H locs c1 s1 hW => ?_)
  refine lv_i2l (v := v5.toInt64) hx hb dX9_digest_39 rfl ?_
  refine lv_ladd hx hb dX9_digest_40 ?_
  refine lv_lstore_n (lv' := [(1, .long (((31 : Int64) * z4) + v5.toInt64)), (0, .ref (ρ x0))]) hx hb dX9_digest_41 rfl hl (by decide) rfl (fun ls hl => ?_)
  refine lv_iconst (v := 0) hx hb dX9_digest_42 (by decide) ?_
  refine lv_istore_n (lv' := [(3, .int (0 : Int32)), (1, .long (((31 : Int64) * z4) + v5.toInt64)), (0, .ref (ρ x0))]) hx hb dX9_digest_43 rfl hl (by decide) rfl (fun ls hl => ?_)
  obtain ⟨z10, h10, e10, hf⟩ := pb_some hf
  refine wX9_digest_L44 C fu _ e10 ((pext hf).tr hX) hW (lv_sub hl [2, 1, 0] rfl) (fun H locs c1 s1 ls hW hl => ?_)
  refine lv_iconst (v := 0) hx hb dX9_digest_68 (by decide) ?_
  refine lv_istore_n (lv' := [(3, .int (0 : Int32)), (0, .ref (ρ x0)), (1, .long z10)]) hx hb dX9_digest_69 rfl hl (by decide) rfl (fun ls hl => ?_)
  obtain ⟨z19, h19, e19, hf⟩ := pb_some hf
  refine wX9_digest_L70 C fu _ e19 ((pext hf).tr hX) hW (lv_sub hl [1, 2, 0] rfl) (fun H locs c1 s1 ls hW hl => ?_)
  refine r_ldc2 (v := 31) C (tq q_658 rfl) dX9_digest_116 ?_
  refine lv_lload_n hx hb dX9_digest_119 rfl (lv_at hl 1 rfl) ?_
  refine lv_lmul hx hb dX9_digest_120 ?_
  refine lv_aload_n hx hb dX9_digest_121 rfl (lv_at hl 0 rfl) ?_
  obtain ⟨v20, h20, e20, hf⟩ := pb_some hf
  obtain ⟨_, _, t21⟩ := tgX9_cuspidal e20
  refine r_calli hW (pext e20) (run_V (b := x0) (As := []) (rest := [.long ((31 : Int64) * z19)]) C hW (metX9_cuspidal l G ρ e20) ⟨rfl, rfl⟩ kcX9_cuspidal (tq q_663 rfl) kiX9_cuspidal ksX9_cuspidal knX9_cuspidal kdX9_cuspidal t21 rfl rfl ⟨Nat.le_of_ble_eq_true rfl, Nat.le_of_ble_eq_true rfl⟩ hl.1 (Nat.le_of_ble_eq_true rfl) (room_of hW (pext e20) ((pext hf).tr hX)) dX9_digest_122 rfl) (fun H locs c1 s1 hW => ?_)
  refine lv_i2l (v := v20.toInt64) hx hb dX9_digest_125 rfl ?_
  refine lv_ladd hx hb dX9_digest_126 ?_
  obtain ⟨rfl, rfl⟩ := pp_some hf
  exact r_lret C hW dX9_digest_127
