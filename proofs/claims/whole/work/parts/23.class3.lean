theorem flX9_107 : FL "PairSymbols" 107 3 12 true := ⟨_, CT3, by decide, (tq q_161 rfl), rfl, fun _ => Or.inr trivial⟩
theorem flX9_110 : FL "PairSymbols" 110 3 9 true := ⟨_, CT3, by decide, (tq q_154 rfl), rfl, fun _ => Or.inr trivial⟩
theorem flX9_113 : FL "PairSymbols" 113 3 14 true := ⟨_, CT3, by decide, (tq q_169 rfl), rfl, fun _ => Or.inr trivial⟩
theorem flX9_117 : FL "PairSymbols" 117 0 0 true := ⟨_, CT0, by decide, (tq q_124 rfl), rfl, fun _ => Or.inr trivial⟩
theorem flX9_129 : FL "PairSymbols" 129 3 13 true := ⟨_, CT3, by decide, (tq q_166 rfl), rfl, fun _ => Or.inr trivial⟩
theorem flX5_9 : FL "PairSymbols$Operato\x72" 9 3 12 true := ⟨_, CT3, by decide, (tq q_159 rfl), rfl, fun _ => Or.inr trivial⟩
theorem flX5_51 : FL "PairSymbols$Operato\x72" 51 3 3 true := ⟨_, CT3, by decide, (tq q_140 rfl), rfl, fun _ => Or.inr trivial⟩
theorem flX5_54 : FL "PairSymbols$Operato\x72" 54 3 10 true := ⟨_, CT3, by decide, (tq q_156 rfl), rfl, fun _ => Or.inr trivial⟩
theorem flX5_55 : FL "PairSymbols$Operato\x72" 55 3 4 true := ⟨_, CT3, by decide, (tq q_143 rfl), rfl, fun _ => Or.inr trivial⟩
theorem flX5_17 : FL "PairSymbols$Operato\x72" 17 4 0 true := ⟨_, CT4, by decide, (tq q_418 rfl), rfl, fun _ => Or.inr trivial⟩
theorem flX5_62 : FL "PairSymbols$Operato\x72" 62 3 13 true := ⟨_, CT3, by decide, (tq q_164 rfl), rfl, fun _ => Or.inr trivial⟩
theorem flX5_40 : FL "PairSymbols$Operato\x72" 40 4 1 true := ⟨_, CT4, by decide, (tq q_420 rfl), rfl, fun _ => Or.inr trivial⟩
theorem flX5_34 : FL "PairSymbols$Operato\x72" 34 0 0 true := ⟨_, CT0, by decide, (tq q_123 rfl), rfl, fun _ => Or.inr trivial⟩
theorem flX5_66 : FL "PairSymbols$Operato\x72" 66 0 1 true := ⟨_, CT0, by decide, (tq q_126 rfl), rfl, fun _ => Or.inr trivial⟩
theorem flX5_22 : FL "PairSymbols$Operato\x72" 22 4 2 true := ⟨_, CT4, by decide, (tq q_422 rfl), rfl, fun _ => Or.inr trivial⟩
theorem flX5_30 : FL "PairSymbols$Operato\x72" 30 3 14 true := ⟨_, CT3, by decide, (tq q_167 rfl), rfl, fun _ => Or.inr trivial⟩
theorem flX9_137 : FL "PairSymbols" 137 4 0 true := ⟨_, CT4, by decide, (tq q_419 rfl), rfl, fun _ => Or.inr trivial⟩
theorem flX9_147 : FL "PairSymbols" 147 4 1 true := ⟨_, CT4, by decide, (tq q_421 rfl), rfl, fun _ => Or.inr trivial⟩
theorem dX9_pair_0 : decode cX9_pair 0 = .ok (.iload_n 1, 1) := by decide +kernel
theorem dX9_pair_1 : decode cX9_pair 1 = .ok (.sipush (-9999), 3) := by decide +kernel
theorem dX9_pair_4 : decode cX9_pair 4 = .ok (.sipush 9999, 3) := by decide +kernel
theorem dX9_pair_7 : decode cX9_pair 7 = .ok (.invokestatic 99, 3) := by decide +kernel
theorem dX9_pair_10 : decode cX9_pair 10 = .ok (.ifCond .eq 16, 3) := by decide +kernel
theorem dX9_pair_13 : decode cX9_pair 13 = .ok (.iload_n 2, 1) := by decide +kernel
theorem dX9_pair_14 : decode cX9_pair 14 = .ok (.sipush (-9999), 3) := by decide +kernel
theorem dX9_pair_17 : decode cX9_pair 17 = .ok (.sipush 9999, 3) := by decide +kernel
theorem dX9_pair_20 : decode cX9_pair 20 = .ok (.invokestatic 99, 3) := by decide +kernel
theorem dX9_pair_23 : decode cX9_pair 23 = .ok (.ifCond .ne 10, 3) := by decide +kernel
theorem dX9_pair_26 : decode cX9_pair 26 = .ok (.aload_n 0, 1) := by decide +kernel
theorem dX9_pair_27 : decode cX9_pair 27 = .ok (.bipush (-2), 2) := by decide +kernel
theorem dX9_pair_29 : decode cX9_pair 29 = .ok (.invokevirtual 74, 3) := by decide +kernel
theorem dX9_pair_32 : decode cX9_pair 32 = .ok (.ireturn, 1) := by decide +kernel
theorem dX9_pair_33 : decode cX9_pair 33 = .ok (.aload_n 0, 1) := by decide +kernel
theorem dX9_pair_34 : decode cX9_pair 34 = .ok (.getfield 23, 3) := by decide +kernel
theorem dX9_pair_37 : decode cX9_pair 37 = .ok (.getfield 62, 3) := by decide +kernel
theorem dX9_pair_40 : decode cX9_pair 40 = .ok (.iload_n 1, 1) := by decide +kernel
theorem dX9_pair_41 : decode cX9_pair 41 = .ok (.iload_n 2, 1) := by decide +kernel
theorem dX9_pair_42 : decode cX9_pair 42 = .ok (.invokevirtual 103, 3) := by decide +kernel
theorem dX9_pair_45 : decode cX9_pair 45 = .ok (.ireturn, 1) := by decide +kernel
theorem kcX9_pair : Cond.code yX9_pair cX9_pair 3 (some .int) ∈ tb := tq q_371 rfl
theorem knX9_pair : Cond.initialized yX9_pair.cls ∈ tb := (tq q_1 rfl)
theorem kdX9_pair : yX9_pair.cls ≠ "java/lang/invoke/MethodHandle" ∧ yX9_pair.cls ≠ "java/lang/invoke/VarHandle" ∧ (parseMethodDescriptor yX9_pair.desc).map (fun d => d.parameters.length) = some 2 := ⟨by decide +kernel, by decide +kernel, by decide +kernel⟩
theorem kiX9_pair : Cond.instanceMethod yX9_pair ∈ tb := (tq q_369 rfl)
theorem ksX9_pair : Cond.selects yX9_pair.cls yX9_pair yX9_pair ∈ tb := (tq q_370 rfl)
theorem tgX9_pair {x0 : Nat} {x1 : Int32} {x2 : Int32} {h : PH} {r : Int32 × PH} (hf : (fX9_pair x0 x1 x2).1 h = some r) : ∃ n x, nth h x0 = some (8, n, x) := by
  obtain ⟨_, _, e, _⟩ := pb_some hf
  exact (chk_some e).2
set_option maxHeartbeats 4000000 in
set_option maxRecDepth 100000 in
theorem metX9_pair (l : Launch) (G : GG) (ρ : Nat → Nat) {z : Nat} {x0 : Nat} {x1 : Int32} {x2 : Int32} {h hE : PH} {v : Int32} (hf : (fX9_pair x0 x1 x2).1 h = some (v, hE)) : Met l yX9_pair (wsY yX9_pair cX9_pair 3 (some .int)) (RM 1 24 h hE) (va_Pc [.ref (ρ x0), .int x1, .int x2] (PcB G ρ h z)) (QI G ρ v hE h.length z) (DC h hE) (DS h hE) (Af ρ h.length z) := by
  refine met_start (by decide) (Nat.le_of_ble_eq_true rfl) ?_
  intro p e s m below meth c ls hz C hW hl
  subst hz
  have C : Cx G "PairSymbols" cX9_pair 3 (some .int) "pai\x72" p s m _ meth c := C
  have hx := C.1
  have hb := C.2.1
  have hX : Ext hE hE := Ext.rf hE
  have hl : lv_has ls 3 [(0, .ref (ρ x0)), (1, .int x1), (2, .int x2)] := hl
  have hW : Wd G ρ h.length (sl h) s.heap h s.heap [] 0 0 := hW
  unfold fX9_pair at hf
  obtain ⟨_, e0, hf⟩ := pb_rd (rd_chk _ _) hf
  refine lv_iload_n hx hb dX9_pair_0 rfl (lv_at hl 1 rfl) ?_
  refine lv_sipush (v := -9999) hx hb dX9_pair_1 (by decide) ?_
  refine lv_sipush (v := 9999) hx hb dX9_pair_4 (by decide) ?_
  obtain ⟨v1, h1, e1, hf⟩ := pb_some hf
  refine r_calli hW (pext e1) (run_S (As := [.int x1, .int (-9999 : Int32), .int (9999 : Int32)]) (rest := []) C hW (metX9_within l G ρ e1) ⟨rfl, rfl⟩ kcX9_within (tq q_329 rfl) kiX9_within knX9_within kdX9_within ⟨Nat.le_of_ble_eq_true rfl, Nat.le_of_ble_eq_true rfl⟩ hl.1 (Nat.le_of_ble_eq_true rfl) (room_of hW (pext e1) ((pext hf).tr hX)) dX9_pair_7 rfl) (fun H locs c1 s1 hW => ?_)
  refine lv_if_eq (tgt := 26) hx hb dX9_pair_10 (by decide) (fun c2 => ?_) (fun c2 => ?_)
  · rw [if_pos c2] at hf
    refine lv_aload_n hx hb dX9_pair_26 rfl (lv_at hl 0 rfl) ?_
    refine lv_bipush (v := -2) hx hb dX9_pair_27 (by decide) ?_
    obtain ⟨v3, h3, e3, hf⟩ := pb_some hf
    obtain ⟨_, _, t4⟩ := tgX9_refuse e3
    refine r_calli hW (pext e3) (run_V (b := x0) (As := [.int (-2 : Int32)]) (rest := []) C hW (metX9_refuse l G ρ e3) ⟨rfl, rfl⟩ kcX9_refuse (tq q_343 rfl) kiX9_refuse ksX9_refuse knX9_refuse kdX9_refuse t4 rfl rfl ⟨Nat.le_of_ble_eq_true rfl, Nat.le_of_ble_eq_true rfl⟩ hl.1 (Nat.le_of_ble_eq_true rfl) (room_of hW (pext e3) ((pext hf).tr hX)) dX9_pair_29 rfl) (fun H locs c1 s1 hW => ?_)
    obtain ⟨rfl, rfl⟩ := pp_some hf
    exact r_iret C hW dX9_pair_32
  · rw [if_neg c2] at hf
    refine lv_iload_n hx hb dX9_pair_13 rfl (lv_at hl 2 rfl) ?_
    refine lv_sipush (v := -9999) hx hb dX9_pair_14 (by decide) ?_
    refine lv_sipush (v := 9999) hx hb dX9_pair_17 (by decide) ?_
    obtain ⟨v5, h5, e5, hf⟩ := pb_some hf
    refine r_calli hW (pext e5) (run_S (As := [.int x2, .int (-9999 : Int32), .int (9999 : Int32)]) (rest := []) C hW (metX9_within l G ρ e5) ⟨rfl, rfl⟩ kcX9_within (tq q_329 rfl) kiX9_within knX9_within kdX9_within ⟨Nat.le_of_ble_eq_true rfl, Nat.le_of_ble_eq_true rfl⟩ hl.1 (Nat.le_of_ble_eq_true rfl) (room_of hW (pext e5) ((pext hf).tr hX)) dX9_pair_20 rfl) (fun H locs c1 s1 hW => ?_)
    refine lv_if_ne (tgt := 33) hx hb dX9_pair_23 (by decide) (fun c6 => ?_) (fun c6 => ?_)
    · rw [if_neg c6] at hf
      refine lv_aload_n hx hb dX9_pair_33 rfl (lv_at hl 0 rfl) ?_
      obtain ⟨v7, e7, hf⟩ := pb_rd (rd_gA _ _ _) hf
      refine r_gA C hW e7 flX9_23 rfl dX9_pair_34 ?_
      obtain ⟨v8, e8, hf⟩ := pb_rd (rd_gA _ _ _) hf
      refine r_gA C hW e8 flX9_62 rfl dX9_pair_37 ?_
      refine lv_iload_n hx hb dX9_pair_40 rfl (lv_at hl 1 rfl) ?_
      refine lv_iload_n hx hb dX9_pair_41 rfl (lv_at hl 2 rfl) ?_
      obtain ⟨v9, h9, e9, hf⟩ := pb_some hf
      obtain ⟨_, _, t10⟩ := tgX3_find e9
      refine r_calli hW (pext e9) (run_V (b := v8) (As := [.int x1, .int x2]) (rest := []) C hW (metX3_find l G ρ e9) ⟨rfl, rfl⟩ kcX3_find (tq q_372 rfl) kiX3_find ksX3_find knX3_find kdX3_find t10 rfl rfl ⟨Nat.le_of_ble_eq_true rfl, Nat.le_of_ble_eq_true rfl⟩ hl.1 (Nat.le_of_ble_eq_true rfl) (room_of hW (pext e9) ((pext hf).tr hX)) dX9_pair_42 rfl) (fun H locs c1 s1 hW => ?_)
      obtain ⟨rfl, rfl⟩ := pp_some hf
      exact r_iret C hW dX9_pair_45
    · rw [if_pos c6] at hf
      refine lv_aload_n hx hb dX9_pair_26 rfl (lv_at hl 0 rfl) ?_
      refine lv_bipush (v := -2) hx hb dX9_pair_27 (by decide) ?_
      obtain ⟨v11, h11, e11, hf⟩ := pb_some hf
      obtain ⟨_, _, t12⟩ := tgX9_refuse e11
      refine r_calli hW (pext e11) (run_V (b := x0) (As := [.int (-2 : Int32)]) (rest := []) C hW (metX9_refuse l G ρ e11) ⟨rfl, rfl⟩ kcX9_refuse (tq q_343 rfl) kiX9_refuse ksX9_refuse knX9_refuse kdX9_refuse t12 rfl rfl ⟨Nat.le_of_ble_eq_true rfl, Nat.le_of_ble_eq_true rfl⟩ hl.1 (Nat.le_of_ble_eq_true rfl) (room_of hW (pext e11) ((pext hf).tr hX)) dX9_pair_29 rfl) (fun H locs c1 s1 hW => ?_)
      obtain ⟨rfl, rfl⟩ := pp_some hf
      exact r_iret C hW dX9_pair_32

theorem dX3_closedSymbols_0 : decode cX3_closedSymbols 0 = .ok (.iconst 0, 1) := by decide +kernel
theorem dX3_closedSymbols_1 : decode cX3_closedSymbols 1 = .ok (.istore_n 1, 1) := by decide +kernel
theorem dX3_closedSymbols_2 : decode cX3_closedSymbols 2 = .ok (.iconst 0, 1) := by decide +kernel
theorem dX3_closedSymbols_3 : decode cX3_closedSymbols 3 = .ok (.istore_n 2, 1) := by decide +kernel
theorem dX3_closedSymbols_4 : decode cX3_closedSymbols 4 = .ok (.iload_n 2, 1) := by decide +kernel
theorem dX3_closedSymbols_5 : decode cX3_closedSymbols 5 = .ok (.aload_n 0, 1) := by decide +kernel
theorem dX3_closedSymbols_6 : decode cX3_closedSymbols 6 = .ok (.getfield 72, 3) := by decide +kernel
theorem dX3_closedSymbols_9 : decode cX3_closedSymbols 9 = .ok (.if_icmp .ge 42, 3) := by decide +kernel
theorem dX3_closedSymbols_12 : decode cX3_closedSymbols 12 = .ok (.aload_n 0, 1) := by decide +kernel
theorem dX3_closedSymbols_13 : decode cX3_closedSymbols 13 = .ok (.getfield 47, 3) := by decide +kernel
theorem dX3_closedSymbols_16 : decode cX3_closedSymbols 16 = .ok (.aload_n 0, 1) := by decide +kernel
theorem dX3_closedSymbols_17 : decode cX3_closedSymbols 17 = .ok (.getfield 69, 3) := by decide +kernel
theorem dX3_closedSymbols_20 : decode cX3_closedSymbols 20 = .ok (.iload_n 2, 1) := by decide +kernel
theorem dX3_closedSymbols_21 : decode cX3_closedSymbols 21 = .ok (.iaload, 1) := by decide +kernel
theorem dX3_closedSymbols_22 : decode cX3_closedSymbols 22 = .ok (.iaload, 1) := by decide +kernel
theorem dX3_closedSymbols_23 : decode cX3_closedSymbols 23 = .ok (.aload_n 0, 1) := by decide +kernel
theorem dX3_closedSymbols_24 : decode cX3_closedSymbols 24 = .ok (.getfield 47, 3) := by decide +kernel
theorem dX3_closedSymbols_27 : decode cX3_closedSymbols 27 = .ok (.aload_n 0, 1) := by decide +kernel
theorem dX3_closedSymbols_28 : decode cX3_closedSymbols 28 = .ok (.getfield 32, 3) := by decide +kernel
theorem dX3_closedSymbols_31 : decode cX3_closedSymbols 31 = .ok (.aload_n 0, 1) := by decide +kernel
theorem dX3_closedSymbols_32 : decode cX3_closedSymbols 32 = .ok (.getfield 69, 3) := by decide +kernel
theorem dX3_closedSymbols_35 : decode cX3_closedSymbols 35 = .ok (.iload_n 2, 1) := by decide +kernel
theorem dX3_closedSymbols_36 : decode cX3_closedSymbols 36 = .ok (.iaload, 1) := by decide +kernel
theorem dX3_closedSymbols_37 : decode cX3_closedSymbols 37 = .ok (.iaload, 1) := by decide +kernel
theorem dX3_closedSymbols_38 : decode cX3_closedSymbols 38 = .ok (.iaload, 1) := by decide +kernel
theorem dX3_closedSymbols_39 : decode cX3_closedSymbols 39 = .ok (.if_icmp .ne 6, 3) := by decide +kernel
theorem dX3_closedSymbols_42 : decode cX3_closedSymbols 42 = .ok (.iinc 1 1, 3) := by decide +kernel
theorem dX3_closedSymbols_45 : decode cX3_closedSymbols 45 = .ok (.iinc 2 1, 3) := by decide +kernel
theorem dX3_closedSymbols_48 : decode cX3_closedSymbols 48 = .ok (.goto (-44), 3) := by decide +kernel
theorem dX3_closedSymbols_51 : decode cX3_closedSymbols 51 = .ok (.iload_n 1, 1) := by decide +kernel
theorem dX3_closedSymbols_52 : decode cX3_closedSymbols 52 = .ok (.ireturn, 1) := by decide +kernel
theorem kcX3_closedSymbols : Cond.code yX3_closedSymbols cX3_closedSymbols 3 (some .int) ∈ tb := tq q_380 rfl
theorem knX3_closedSymbols : Cond.initialized yX3_closedSymbols.cls ∈ tb := (tq q_2 rfl)
theorem kdX3_closedSymbols : yX3_closedSymbols.cls ≠ "java/lang/invoke/MethodHandle" ∧ yX3_closedSymbols.cls ≠ "java/lang/invoke/VarHandle" ∧ (parseMethodDescriptor yX3_closedSymbols.desc).map (fun d => d.parameters.length) = some 0 := ⟨by decide +kernel, by decide +kernel, by decide +kernel⟩
theorem kiX3_closedSymbols : Cond.instanceMethod yX3_closedSymbols ∈ tb := (tq q_378 rfl)
theorem ksX3_closedSymbols : Cond.selects yX3_closedSymbols.cls yX3_closedSymbols yX3_closedSymbols ∈ tb := (tq q_379 rfl)
theorem tgX3_closedSymbols {x0 : Nat} {h : PH} {r : Int32 × PH} (hf : (fX3_closedSymbols x0).1 h = some r) : ∃ n x, nth h x0 = some (3, n, x) := by
  obtain ⟨_, _, e, _⟩ := pb_some hf
  exact (chk_some e).2
set_option maxHeartbeats 4000000 in
set_option maxRecDepth 100000 in
theorem wX3_closedSymbols_B4 {p : Program} {l : Launch} {e : Env} {s : State} {m : MethodId} {args : Array Value} {below : List Frame} {meth : Method} {c : Code} {G : GG} {ρ : Nat → Nat} {h0 hE hB : PH} {Q : State → Prop} {x0 : Nat} (C : Cx G "PairSymbols$Level" cX3_closedSymbols 3 (some .int) "closedSymbols" p s m args meth c) {x1 : Int32} {x2 : Int32} {h : PH} {H : Heap} {locs : List Loc} {cells slots : Nat} {ls : Array Slot} {r : (Int32 × Int32) ⊕ (Int32)} (hf : (fX3_closedSymbols_b4 x0 x1 x2).1 h = some (r, hB)) (hX : Ext hB hE) (hW : Wd G ρ h0.length (sl h0) s.heap h H locs cells slots) (hl : lv_has ls 3 [(0, .ref (ρ x0)), (1, .int x1), (2, .int x2)]) (kc : ∀ y : Int32 × Int32, r = .inl y → ∀ (H : Heap) (locs : List Loc) (c1 s1 : Nat) (ls : Array Slot), Wd G ρ h0.length (sl h0) s.heap hB H locs c1 s1 → lv_has ls 3 [(0, .ref (ρ x0)), (1, .int y.1), (2, .int y.2)] → W p l e (RM 0 0 h0 hE) s m args below meth c H locs c1 s1 Q (F0 m 4 ls [])) (ke : ∀ z : Int32, r = .inr z → ∀ (H : Heap) (locs : List Loc) (c1 s1 : Nat) (ls : Array Slot), Wd G ρ h0.length (sl h0) s.heap hB H locs c1 s1 → lv_has ls 3 [(1, .int z)] → W p l e (RM 0 0 h0 hE) s m args below meth c H locs c1 s1 Q (F0 m 51 ls [])) : W p l e (RM 0 0 h0 hE) s m args below meth c H locs cells slots Q (F0 m 4 ls []) := by
  have hx := C.1
  have hb := C.2.1
  unfold fX3_closedSymbols_b4 at hf
  refine lv_iload_n hx hb dX3_closedSymbols_4 rfl (lv_at hl 2 rfl) ?_
  refine lv_aload_n hx hb dX3_closedSymbols_5 rfl (lv_at hl 0 rfl) ?_
  obtain ⟨v1, e1, hf⟩ := pb_rd (rd_gI _ _ _) hf
  refine r_gI C hW e1 flX3_72 rfl dX3_closedSymbols_6 ?_
  refine lv_icmp_ge (tgt := 51) hx hb dX3_closedSymbols_9 (by decide) (fun c2 => ?_) (fun c2 => ?_)
  · rw [if_pos c2] at hf
    obtain ⟨rfl, rfl⟩ := pp_some hf
    exact ke _ rfl _ _ _ _ _ hW (lv_sub hl [1] rfl)
  · rw [if_neg c2] at hf
    refine lv_aload_n hx hb dX3_closedSymbols_12 rfl (lv_at hl 0 rfl) ?_
    obtain ⟨v3, e3, hf⟩ := pb_rd (rd_gA _ _ _) hf
    refine r_gA C hW e3 flX3_47 rfl dX3_closedSymbols_13 ?_
    refine lv_aload_n hx hb dX3_closedSymbols_16 rfl (lv_at hl 0 rfl) ?_
    obtain ⟨v4, e4, hf⟩ := pb_rd (rd_gA _ _ _) hf
    refine r_gA C hW e4 flX3_69 rfl dX3_closedSymbols_17 ?_
    refine lv_iload_n hx hb dX3_closedSymbols_20 rfl (lv_at hl 2 rfl) ?_
    obtain ⟨v5, e5, hf⟩ := pb_rd (rd_lI _ _ _) hf
    refine r_iald C hW e5 dX3_closedSymbols_21 ?_
    obtain ⟨v6, e6, hf⟩ := pb_rd (rd_lI _ _ _) hf
    refine r_iald C hW e6 dX3_closedSymbols_22 ?_
    refine lv_aload_n hx hb dX3_closedSymbols_23 rfl (lv_at hl 0 rfl) ?_
    obtain ⟨v7, e7, hf⟩ := pb_rd (rd_gA _ _ _) hf
    refine r_gA C hW e7 flX3_47 rfl dX3_closedSymbols_24 ?_
    refine lv_aload_n hx hb dX3_closedSymbols_27 rfl (lv_at hl 0 rfl) ?_
    obtain ⟨v8, e8, hf⟩ := pb_rd (rd_gA _ _ _) hf
    refine r_gA C hW e8 flX3_32 rfl dX3_closedSymbols_28 ?_
    refine lv_aload_n hx hb dX3_closedSymbols_31 rfl (lv_at hl 0 rfl) ?_
    obtain ⟨v9, e9, hf⟩ := pb_rd (rd_gA _ _ _) hf
    refine r_gA C hW e9 flX3_69 rfl dX3_closedSymbols_32 ?_
    refine lv_iload_n hx hb dX3_closedSymbols_35 rfl (lv_at hl 2 rfl) ?_
    obtain ⟨v10, e10, hf⟩ := pb_rd (rd_lI _ _ _) hf
    refine r_iald C hW e10 dX3_closedSymbols_36 ?_
    obtain ⟨v11, e11, hf⟩ := pb_rd (rd_lI _ _ _) hf
    refine r_iald C hW e11 dX3_closedSymbols_37 ?_
    obtain ⟨v12, e12, hf⟩ := pb_rd (rd_lI _ _ _) hf
    refine r_iald C hW e12 dX3_closedSymbols_38 ?_
    refine lv_icmp_ne (tgt := 45) hx hb dX3_closedSymbols_39 (by decide) (fun c13 => ?_) (fun c13 => ?_)
    · rw [if_neg c13] at hf
      refine lv_iinc (v := (x2 + 1)) (lv' := [(2, .int (x2 + 1)), (0, .ref (ρ x0)), (1, .int x1)]) hx hb dX3_closedSymbols_45 hl (k := 2) rfl rfl (by decide) rfl (fun ls hl => ?_)
      refine lv_goto (tgt := 4) hx hb dX3_closedSymbols_48 (by decide) ?_
      obtain ⟨rfl, rfl⟩ := pp_some hf
      exact kc _ rfl _ _ _ _ _ hW (lv_sub hl [1, 2, 0] rfl)
    · rw [if_pos c13] at hf
      refine lv_iinc (v := (x1 + 1)) (lv' := [(1, .int (x1 + 1)), (0, .ref (ρ x0)), (2, .int x2)]) hx hb dX3_closedSymbols_42 hl (k := 1) rfl rfl (by decide) rfl (fun ls hl => ?_)
      refine lv_iinc (v := (x2 + 1)) (lv' := [(2, .int (x2 + 1)), (1, .int (x1 + 1)), (0, .ref (ρ x0))]) hx hb dX3_closedSymbols_45 hl (k := 2) rfl rfl (by decide) rfl (fun ls hl => ?_)
      refine lv_goto (tgt := 4) hx hb dX3_closedSymbols_48 (by decide) ?_
      obtain ⟨rfl, rfl⟩ := pp_some hf
      exact kc _ rfl _ _ _ _ _ hW (lv_sub hl [2, 1, 0] rfl)
set_option maxHeartbeats 4000000 in
theorem wX3_closedSymbols_L4 {p : Program} {l : Launch} {e : Env} {s : State} {m : MethodId} {args : Array Value} {below : List Frame} {meth : Method} {c : Code} {G : GG} {ρ : Nat → Nat} {h0 hE hB : PH} {Q : State → Prop} {x0 : Nat} (C : Cx G "PairSymbols$Level" cX3_closedSymbols 3 (some .int) "closedSymbols" p s m args meth c) {z : (Int32)} (n : Nat) : ∀ (x : Int32 × Int32) {h : PH} {H : Heap} {locs : List Loc} {cells slots : Nat} {ls : Array Slot}, (plo (fX3_closedSymbols_B4 x0) n x).1 h = some (z, hB) → Ext hB hE → Wd G ρ h0.length (sl h0) s.heap h H locs cells slots → lv_has ls 3 [(0, .ref (ρ x0)), (1, .int x.1), (2, .int x.2)] → (ke : ∀ (H : Heap) (locs : List Loc) (c1 s1 : Nat) (ls : Array Slot), Wd G ρ h0.length (sl h0) s.heap hB H locs c1 s1 → lv_has ls 3 [(1, .int z)] → W p l e (RM 0 0 h0 hE) s m args below meth c H locs c1 s1 Q (F0 m 51 ls [])) → W p l e (RM 0 0 h0 hE) s m args below meth c H locs cells slots Q (F0 m 4 ls []) := by
  induction n with
  | zero =>
    intro x h H locs cells slots ls hf
    rw [plo_0] at hf
    exact (pf_no hf).elim
  | succ n ih =>
    intro x h H locs cells slots ls hf hX hW hl ke
    rw [plo_s] at hf
    obtain ⟨r, h1, e1, hf⟩ := pb_some hf
    unfold fX3_closedSymbols_B4 at e1
    rw [frI_eq, frI_eq] at e1
    refine wX3_closedSymbols_B4 C e1 ((pext hf).tr hX) hW hl (fun y hr H locs c1 s1 ls hW hl => ?_) (fun y hr H locs c1 s1 ls hW hl => ?_)
    · subst hr
      exact ih y hf hX hW hl ke
    · subst hr
      obtain ⟨rfl, rfl⟩ := pp_some hf
      exact ke H locs c1 s1 ls hW hl
set_option maxHeartbeats 4000000 in
set_option maxRecDepth 100000 in
theorem metX3_closedSymbols (l : Launch) (G : GG) (ρ : Nat → Nat) {z : Nat} {x0 : Nat} {h hE : PH} {v : Int32} (hf : (fX3_closedSymbols x0).1 h = some (v, hE)) : Met l yX3_closedSymbols (wsY yX3_closedSymbols cX3_closedSymbols 3 (some .int)) (RM 0 0 h hE) (va_Pc [.ref (ρ x0)] (PcB G ρ h z)) (QI G ρ v hE h.length z) (DC h hE) (DS h hE) (Af ρ h.length z) := by
  refine met_start (by decide) (Nat.le_of_ble_eq_true rfl) ?_
  intro p e s m below meth c ls hz C hW hl
  subst hz
  have C : Cx G "PairSymbols$Level" cX3_closedSymbols 3 (some .int) "closedSymbols" p s m _ meth c := C
  have hx := C.1
  have hb := C.2.1
  have hX : Ext hE hE := Ext.rf hE
  have hl : lv_has ls 3 [(0, .ref (ρ x0))] := hl
  have hW : Wd G ρ h.length (sl h) s.heap h s.heap [] 0 0 := hW
  unfold fX3_closedSymbols at hf
  obtain ⟨_, e0, hf⟩ := pb_rd (rd_chk _ _) hf
  refine lv_iconst (v := 0) hx hb dX3_closedSymbols_0 (by decide) ?_
  refine lv_istore_n (lv' := [(1, .int (0 : Int32)), (0, .ref (ρ x0))]) hx hb dX3_closedSymbols_1 rfl hl (by decide) rfl (fun ls hl => ?_)
  refine lv_iconst (v := 0) hx hb dX3_closedSymbols_2 (by decide) ?_
  refine lv_istore_n (lv' := [(2, .int (0 : Int32)), (1, .int (0 : Int32)), (0, .ref (ρ x0))]) hx hb dX3_closedSymbols_3 rfl hl (by decide) rfl (fun ls hl => ?_)
  obtain ⟨z14, h14, e14, hf⟩ := pb_some hf
  refine wX3_closedSymbols_L4 C fu _ e14 ((pext hf).tr hX) hW (lv_sub hl [2, 1, 0] rfl) (fun H locs c1 s1 ls hW hl => ?_)
  refine lv_iload_n hx hb dX3_closedSymbols_51 rfl (lv_at hl 0 rfl) ?_
  obtain ⟨rfl, rfl⟩ := pp_some hf
  exact r_iret C hW dX3_closedSymbols_52

theorem dX9_space_0 : decode cX9_space 0 = .ok (.aload_n 0, 1) := by decide +kernel
theorem dX9_space_1 : decode cX9_space 1 = .ok (.getfield 23, 3) := by decide +kernel
theorem dX9_space_4 : decode cX9_space 4 = .ok (.getfield 62, 3) := by decide +kernel
theorem dX9_space_7 : decode cX9_space 7 = .ok (.astore_n 2, 1) := by decide +kernel
theorem dX9_space_8 : decode cX9_space 8 = .ok (.iload_n 1, 1) := by decide +kernel
theorem dX9_space_9 : decode cX9_space 9 = .ok (.tableswitch 57 0 3 #[31, 36, 41, 52], 31) := by decide +kernel
theorem dX9_space_40 : decode cX9_space 40 = .ok (.aload_n 2, 1) := by decide +kernel
theorem dX9_space_41 : decode cX9_space 41 = .ok (.getfield 107, 3) := by decide +kernel
theorem dX9_space_44 : decode cX9_space 44 = .ok (.ireturn, 1) := by decide +kernel
theorem dX9_space_45 : decode cX9_space 45 = .ok (.aload_n 2, 1) := by decide +kernel
theorem dX9_space_46 : decode cX9_space 46 = .ok (.getfield 110, 3) := by decide +kernel
theorem dX9_space_49 : decode cX9_space 49 = .ok (.ireturn, 1) := by decide +kernel
theorem dX9_space_50 : decode cX9_space 50 = .ok (.aload_n 2, 1) := by decide +kernel
theorem dX9_space_51 : decode cX9_space 51 = .ok (.getfield 113, 3) := by decide +kernel
theorem dX9_space_54 : decode cX9_space 54 = .ok (.getfield 117, 3) := by decide +kernel
theorem dX9_space_57 : decode cX9_space 57 = .ok (.arraylength, 1) := by decide +kernel
theorem dX9_space_58 : decode cX9_space 58 = .ok (.iconst 2, 1) := by decide +kernel
theorem dX9_space_59 : decode cX9_space 59 = .ok (.idiv, 1) := by decide +kernel
theorem dX9_space_60 : decode cX9_space 60 = .ok (.ireturn, 1) := by decide +kernel
theorem dX9_space_61 : decode cX9_space 61 = .ok (.aload_n 2, 1) := by decide +kernel
theorem dX9_space_62 : decode cX9_space 62 = .ok (.invokevirtual 122, 3) := by decide +kernel
theorem dX9_space_65 : decode cX9_space 65 = .ok (.ireturn, 1) := by decide +kernel
theorem dX9_space_66 : decode cX9_space 66 = .ok (.aload_n 0, 1) := by decide +kernel
theorem dX9_space_67 : decode cX9_space 67 = .ok (.bipush (-2), 2) := by decide +kernel
theorem dX9_space_69 : decode cX9_space 69 = .ok (.invokevirtual 74, 3) := by decide +kernel
theorem dX9_space_72 : decode cX9_space 72 = .ok (.ireturn, 1) := by decide +kernel
theorem kcX9_space : Cond.code yX9_space cX9_space 3 (some .int) ∈ tb := tq q_376 rfl
theorem knX9_space : Cond.initialized yX9_space.cls ∈ tb := (tq q_1 rfl)
theorem kdX9_space : yX9_space.cls ≠ "java/lang/invoke/MethodHandle" ∧ yX9_space.cls ≠ "java/lang/invoke/VarHandle" ∧ (parseMethodDescriptor yX9_space.desc).map (fun d => d.parameters.length) = some 1 := ⟨by decide +kernel, by decide +kernel, by decide +kernel⟩
theorem kiX9_space : Cond.instanceMethod yX9_space ∈ tb := (tq q_374 rfl)
theorem ksX9_space : Cond.selects yX9_space.cls yX9_space yX9_space ∈ tb := (tq q_375 rfl)
theorem tgX9_space {x0 : Nat} {x1 : Int32} {h : PH} {r : Int32 × PH} (hf : (fX9_space x0 x1).1 h = some r) : ∃ n x, nth h x0 = some (8, n, x) := by
  obtain ⟨_, _, e, _⟩ := pb_some hf
  exact (chk_some e).2
set_option maxHeartbeats 4000000 in
set_option maxRecDepth 100000 in
theorem metX9_space (l : Launch) (G : GG) (ρ : Nat → Nat) {z : Nat} {x0 : Nat} {x1 : Int32} {h hE : PH} {v : Int32} (hf : (fX9_space x0 x1).1 h = some (v, hE)) : Met l yX9_space (wsY yX9_space cX9_space 3 (some .int)) (RM 1 22 h hE) (va_Pc [.ref (ρ x0), .int x1] (PcB G ρ h z)) (QI G ρ v hE h.length z) (DC h hE) (DS h hE) (Af ρ h.length z) := by
  refine met_start (by decide) (Nat.le_of_ble_eq_true rfl) ?_
  intro p e s m below meth c ls hz C hW hl
  subst hz
  have C : Cx G "PairSymbols" cX9_space 3 (some .int) "space" p s m _ meth c := C
  have hx := C.1
  have hb := C.2.1
  have hX : Ext hE hE := Ext.rf hE
  have hl : lv_has ls 3 [(0, .ref (ρ x0)), (1, .int x1)] := hl
  have hW : Wd G ρ h.length (sl h) s.heap h s.heap [] 0 0 := hW
  unfold fX9_space at hf
  obtain ⟨_, e0, hf⟩ := pb_rd (rd_chk _ _) hf
  refine lv_aload_n hx hb dX9_space_0 rfl (lv_at hl 0 rfl) ?_
  obtain ⟨v1, e1, hf⟩ := pb_rd (rd_gA _ _ _) hf
  refine r_gA C hW e1 flX9_23 rfl dX9_space_1 ?_
  obtain ⟨v2, e2, hf⟩ := pb_rd (rd_gA _ _ _) hf
  refine r_gA C hW e2 flX9_62 rfl dX9_space_4 ?_
  refine lv_astore_n (lv' := [(2, .ref (ρ v2)), (0, .ref (ρ x0)), (1, .int x1)]) hx hb dX9_space_7 rfl hl (by decide) rfl (fun ls hl => ?_)
  refine lv_iload_n hx hb dX9_space_8 rfl (lv_at hl 2 rfl) ?_
  by_cases c3 : x1 = 0
  · rw [if_pos c3] at hf
    refine lv_tableIn (off := 31) (tgt := 40) hx hb dX9_space_9 (by rw [c3]; decide) (by rw [c3]; decide) (by rw [c3]; decide) (by decide) ?_
    refine lv_aload_n hx hb dX9_space_40 rfl (lv_at hl 0 rfl) ?_
    obtain ⟨v4, e4, hf⟩ := pb_rd (rd_gI _ _ _) hf
    refine r_gI C hW e4 flX9_107 rfl dX9_space_41 ?_
    obtain ⟨rfl, rfl⟩ := pp_some hf
    exact r_iret C hW dX9_space_44
  rw [if_neg c3] at hf
  by_cases c5 : x1 = 1
  · rw [if_pos c5] at hf
    refine lv_tableIn (off := 36) (tgt := 45) hx hb dX9_space_9 (by rw [c5]; decide) (by rw [c5]; decide) (by rw [c5]; decide) (by decide) ?_
    refine lv_aload_n hx hb dX9_space_45 rfl (lv_at hl 0 rfl) ?_
    obtain ⟨v6, e6, hf⟩ := pb_rd (rd_gI _ _ _) hf
    refine r_gI C hW e6 flX9_110 rfl dX9_space_46 ?_
    obtain ⟨rfl, rfl⟩ := pp_some hf
    exact r_iret C hW dX9_space_49
  rw [if_neg c5] at hf
  by_cases c7 : x1 = 2
  · rw [if_pos c7] at hf
    refine lv_tableIn (off := 41) (tgt := 50) hx hb dX9_space_9 (by rw [c7]; decide) (by rw [c7]; decide) (by rw [c7]; decide) (by decide) ?_
    refine lv_aload_n hx hb dX9_space_50 rfl (lv_at hl 0 rfl) ?_
    obtain ⟨v8, e8, hf⟩ := pb_rd (rd_gA _ _ _) hf
    refine r_gA C hW e8 flX9_113 rfl dX9_space_51 ?_
    obtain ⟨v9, e9, hf⟩ := pb_rd (rd_gA _ _ _) hf
    refine r_gA C hW e9 flX9_117 rfl dX9_space_54 ?_
    obtain ⟨v10, e10, hf⟩ := pb_rd (rd_aln _) hf
    refine r_alen C hW e10 dX9_space_57 ?_
    refine lv_iconst (v := 2) hx hb dX9_space_58 (by decide) ?_
    refine lv_idiv hx hb dX9_space_59 (by decide) ?_
    obtain ⟨rfl, rfl⟩ := pp_some hf
    exact r_iret C hW dX9_space_60
  rw [if_neg c7] at hf
  by_cases c11 : x1 = 3
  · rw [if_pos c11] at hf
    refine lv_tableIn (off := 52) (tgt := 61) hx hb dX9_space_9 (by rw [c11]; decide) (by rw [c11]; decide) (by rw [c11]; decide) (by decide) ?_
    refine lv_aload_n hx hb dX9_space_61 rfl (lv_at hl 0 rfl) ?_
    obtain ⟨v12, h12, e12, hf⟩ := pb_some hf
    obtain ⟨_, _, t13⟩ := tgX3_closedSymbols e12
    refine r_calli hW (pext e12) (run_V (b := v2) (As := []) (rest := []) C hW (metX3_closedSymbols l G ρ e12) ⟨rfl, rfl⟩ kcX3_closedSymbols (tq q_377 rfl) kiX3_closedSymbols ksX3_closedSymbols knX3_closedSymbols kdX3_closedSymbols t13 rfl rfl ⟨Nat.le_of_ble_eq_true rfl, Nat.le_of_ble_eq_true rfl⟩ hl.1 (Nat.le_of_ble_eq_true rfl) (room_of hW (pext e12) ((pext hf).tr hX)) dX9_space_62 rfl) (fun H locs c1 s1 hW => ?_)
    obtain ⟨rfl, rfl⟩ := pp_some hf
    exact r_iret C hW dX9_space_65
  rw [if_neg c11] at hf
  refine lv_tableOut (tgt := 66) hx hb dX9_space_9 (sw_out [0, 1, 2, 3] (List.forall_mem_cons.mpr ⟨c3, List.forall_mem_cons.mpr ⟨c5, List.forall_mem_cons.mpr ⟨c7, List.forall_mem_cons.mpr ⟨c11, fun _ h => absurd h List.not_mem_nil⟩⟩⟩⟩) (by decide)) (by decide) ?_
  refine lv_aload_n hx hb dX9_space_66 rfl (lv_at hl 1 rfl) ?_
  refine lv_bipush (v := -2) hx hb dX9_space_67 (by decide) ?_
  obtain ⟨v14, h14, e14, hf⟩ := pb_some hf
  obtain ⟨_, _, t15⟩ := tgX9_refuse e14
  refine r_calli hW (pext e14) (run_V (b := x0) (As := [.int (-2 : Int32)]) (rest := []) C hW (metX9_refuse l G ρ e14) ⟨rfl, rfl⟩ kcX9_refuse (tq q_343 rfl) kiX9_refuse ksX9_refuse knX9_refuse kdX9_refuse t15 rfl rfl ⟨Nat.le_of_ble_eq_true rfl, Nat.le_of_ble_eq_true rfl⟩ hl.1 (Nat.le_of_ble_eq_true rfl) (room_of hW (pext e14) ((pext hf).tr hX)) dX9_space_69 rfl) (fun H locs c1 s1 hW => ?_)
  obtain ⟨rfl, rfl⟩ := pp_some hf
  exact r_iret C hW dX9_space_72

theorem dX3_hasCoordinate_0 : decode cX3_hasCoordinate 0 = .ok (.iload_n 1, 1) := by decide +kernel
theorem dX3_hasCoordinate_1 : decode cX3_hasCoordinate 1 = .ok (.ifCond .lt 15, 3) := by decide +kernel
theorem dX3_hasCoordinate_4 : decode cX3_hasCoordinate 4 = .ok (.iload_n 1, 1) := by decide +kernel
theorem dX3_hasCoordinate_5 : decode cX3_hasCoordinate 5 = .ok (.aload_n 0, 1) := by decide +kernel
theorem dX3_hasCoordinate_6 : decode cX3_hasCoordinate 6 = .ok (.getfield 72, 3) := by decide +kernel
theorem dX3_hasCoordinate_9 : decode cX3_hasCoordinate 9 = .ok (.if_icmp .ge 7, 3) := by decide +kernel
theorem dX3_hasCoordinate_12 : decode cX3_hasCoordinate 12 = .ok (.iconst 1, 1) := by decide +kernel
theorem dX3_hasCoordinate_13 : decode cX3_hasCoordinate 13 = .ok (.goto 4, 3) := by decide +kernel
theorem dX3_hasCoordinate_16 : decode cX3_hasCoordinate 16 = .ok (.iconst 0, 1) := by decide +kernel
theorem dX3_hasCoordinate_17 : decode cX3_hasCoordinate 17 = .ok (.ireturn, 1) := by decide +kernel
theorem kcX3_hasCoordinate : Cond.code yX3_hasCoordinate cX3_hasCoordinate 2 (some .boolean) ∈ tb := tq q_388 rfl
theorem knX3_hasCoordinate : Cond.initialized yX3_hasCoordinate.cls ∈ tb := (tq q_2 rfl)
theorem kdX3_hasCoordinate : yX3_hasCoordinate.cls ≠ "java/lang/invoke/MethodHandle" ∧ yX3_hasCoordinate.cls ≠ "java/lang/invoke/VarHandle" ∧ (parseMethodDescriptor yX3_hasCoordinate.desc).map (fun d => d.parameters.length) = some 1 := ⟨by decide +kernel, by decide +kernel, by decide +kernel⟩
theorem kiX3_hasCoordinate : Cond.instanceMethod yX3_hasCoordinate ∈ tb := (tq q_386 rfl)
theorem ksX3_hasCoordinate : Cond.selects yX3_hasCoordinate.cls yX3_hasCoordinate yX3_hasCoordinate ∈ tb := (tq q_387 rfl)
theorem tgX3_hasCoordinate {x0 : Nat} {x1 : Int32} {h : PH} {r : Int32 × PH} (hf : (fX3_hasCoordinate x0 x1).1 h = some r) : ∃ n x, nth h x0 = some (3, n, x) := by
  obtain ⟨_, _, e, _⟩ := pb_some hf
  exact (chk_some e).2
set_option maxHeartbeats 4000000 in
set_option maxRecDepth 100000 in
theorem metX3_hasCoordinate (l : Launch) (G : GG) (ρ : Nat → Nat) {z : Nat} {x0 : Nat} {x1 : Int32} {h hE : PH} {v : Int32} (hf : (fX3_hasCoordinate x0 x1).1 h = some (v, hE)) : Met l yX3_hasCoordinate (wsY yX3_hasCoordinate cX3_hasCoordinate 2 (some .boolean)) (RM 0 0 h hE) (va_Pc [.ref (ρ x0), .int x1] (PcB G ρ h z)) (QI G ρ v hE h.length z) (DC h hE) (DS h hE) (Af ρ h.length z) := by
  refine met_start (by decide) (Nat.le_of_ble_eq_true rfl) ?_
  intro p e s m below meth c ls hz C hW hl
  subst hz
  have C : Cx G "PairSymbols$Level" cX3_hasCoordinate 2 (some .boolean) "hasCoordinate" p s m _ meth c := C
  have hx := C.1
  have hb := C.2.1
  have hX : Ext hE hE := Ext.rf hE
  have hl : lv_has ls 2 [(0, .ref (ρ x0)), (1, .int x1)] := hl
  have hW : Wd G ρ h.length (sl h) s.heap h s.heap [] 0 0 := hW
  unfold fX3_hasCoordinate at hf
  obtain ⟨_, e0, hf⟩ := pb_rd (rd_chk _ _) hf
  refine lv_iload_n hx hb dX3_hasCoordinate_0 rfl (lv_at hl 1 rfl) ?_
  refine lv_if_lt (tgt := 16) hx hb dX3_hasCoordinate_1 (by decide) (fun c1 => ?_) (fun c1 => ?_)
  · rw [if_pos c1] at hf
    refine lv_iconst (v := 0) hx hb dX3_hasCoordinate_16 (by decide) ?_
    obtain ⟨rfl, rfl⟩ := pp_some hf
    exact r_zret C hW rfl dX3_hasCoordinate_17
  · rw [if_neg c1] at hf
    refine lv_iload_n hx hb dX3_hasCoordinate_4 rfl (lv_at hl 1 rfl) ?_
    refine lv_aload_n hx hb dX3_hasCoordinate_5 rfl (lv_at hl 0 rfl) ?_
    obtain ⟨v2, e2, hf⟩ := pb_rd (rd_gI _ _ _) hf
    refine r_gI C hW e2 flX3_72 rfl dX3_hasCoordinate_6 ?_
    refine lv_icmp_ge (tgt := 16) hx hb dX3_hasCoordinate_9 (by decide) (fun c3 => ?_) (fun c3 => ?_)
    · rw [if_pos c3] at hf
      refine lv_iconst (v := 0) hx hb dX3_hasCoordinate_16 (by decide) ?_
      obtain ⟨rfl, rfl⟩ := pp_some hf
      exact r_zret C hW rfl dX3_hasCoordinate_17
    · rw [if_neg c3] at hf
      refine lv_iconst (v := 1) hx hb dX3_hasCoordinate_12 (by decide) ?_
      refine lv_goto (tgt := 17) hx hb dX3_hasCoordinate_13 (by decide) ?_
      obtain ⟨rfl, rfl⟩ := pp_some hf
      exact r_zret C hW rfl dX3_hasCoordinate_17

theorem dX9_fraction_0 : decode cX9_fraction 0 = .ok (.aload_n 0, 1) := by decide +kernel
theorem dX9_fraction_1 : decode cX9_fraction 1 = .ok (.getfield 23, 3) := by decide +kernel
theorem dX9_fraction_4 : decode cX9_fraction 4 = .ok (.getfield 62, 3) := by decide +kernel
theorem dX9_fraction_7 : decode cX9_fraction 7 = .ok (.astore 4, 2) := by decide +kernel
theorem dX9_fraction_9 : decode cX9_fraction 9 = .ok (.aload 4, 2) := by decide +kernel
theorem dX9_fraction_11 : decode cX9_fraction 11 = .ok (.iload_n 1, 1) := by decide +kernel
theorem dX9_fraction_12 : decode cX9_fraction 12 = .ok (.invokevirtual 70, 3) := by decide +kernel
theorem dX9_fraction_15 : decode cX9_fraction 15 = .ok (.ifCond .eq 21, 3) := by decide +kernel
theorem dX9_fraction_18 : decode cX9_fraction 18 = .ok (.aload 4, 2) := by decide +kernel
theorem dX9_fraction_20 : decode cX9_fraction 20 = .ok (.iload_n 2, 1) := by decide +kernel
theorem dX9_fraction_21 : decode cX9_fraction 21 = .ok (.invokevirtual 126, 3) := by decide +kernel
theorem dX9_fraction_24 : decode cX9_fraction 24 = .ok (.ifCond .eq 12, 3) := by decide +kernel
theorem dX9_fraction_27 : decode cX9_fraction 27 = .ok (.iload_n 3, 1) := by decide +kernel
theorem dX9_fraction_28 : decode cX9_fraction 28 = .ok (.iconst 0, 1) := by decide +kernel
theorem dX9_fraction_29 : decode cX9_fraction 29 = .ok (.iconst 1, 1) := by decide +kernel
theorem dX9_fraction_30 : decode cX9_fraction 30 = .ok (.invokestatic 99, 3) := by decide +kernel
theorem dX9_fraction_33 : decode cX9_fraction 33 = .ok (.ifCond .ne 11, 3) := by decide +kernel
theorem dX9_fraction_36 : decode cX9_fraction 36 = .ok (.aload_n 0, 1) := by decide +kernel
theorem dX9_fraction_37 : decode cX9_fraction 37 = .ok (.bipush (-2), 2) := by decide +kernel
theorem dX9_fraction_39 : decode cX9_fraction 39 = .ok (.invokevirtual 74, 3) := by decide +kernel
theorem dX9_fraction_42 : decode cX9_fraction 42 = .ok (.i2l, 1) := by decide +kernel
theorem dX9_fraction_43 : decode cX9_fraction 43 = .ok (.lreturn, 1) := by decide +kernel
theorem dX9_fraction_44 : decode cX9_fraction 44 = .ok (.iload_n 3, 1) := by decide +kernel
theorem dX9_fraction_45 : decode cX9_fraction 45 = .ok (.ifCond .ne 16, 3) := by decide +kernel
theorem dX9_fraction_48 : decode cX9_fraction 48 = .ok (.aload 4, 2) := by decide +kernel
theorem dX9_fraction_50 : decode cX9_fraction 50 = .ok (.getfield 129, 3) := by decide +kernel
theorem dX9_fraction_53 : decode cX9_fraction 53 = .ok (.iload_n 1, 1) := by decide +kernel
theorem dX9_fraction_54 : decode cX9_fraction 54 = .ok (.aaload, 1) := by decide +kernel
theorem dX9_fraction_55 : decode cX9_fraction 55 = .ok (.iload_n 2, 1) := by decide +kernel
theorem dX9_fraction_56 : decode cX9_fraction 56 = .ok (.iaload, 1) := by decide +kernel
theorem dX9_fraction_57 : decode cX9_fraction 57 = .ok (.i2l, 1) := by decide +kernel
theorem dX9_fraction_58 : decode cX9_fraction 58 = .ok (.goto 4, 3) := by decide +kernel
theorem dX9_fraction_61 : decode cX9_fraction 61 = .ok (.lconst 1, 1) := by decide +kernel
theorem dX9_fraction_62 : decode cX9_fraction 62 = .ok (.lreturn, 1) := by decide +kernel
theorem kcX9_fraction : Cond.code yX9_fraction cX9_fraction 5 (some .long) ∈ tb := tq q_384 rfl
theorem knX9_fraction : Cond.initialized yX9_fraction.cls ∈ tb := (tq q_1 rfl)
theorem kdX9_fraction : yX9_fraction.cls ≠ "java/lang/invoke/MethodHandle" ∧ yX9_fraction.cls ≠ "java/lang/invoke/VarHandle" ∧ (parseMethodDescriptor yX9_fraction.desc).map (fun d => d.parameters.length) = some 3 := ⟨by decide +kernel, by decide +kernel, by decide +kernel⟩
theorem kiX9_fraction : Cond.instanceMethod yX9_fraction ∈ tb := (tq q_382 rfl)
theorem ksX9_fraction : Cond.selects yX9_fraction.cls yX9_fraction yX9_fraction ∈ tb := (tq q_383 rfl)
theorem tgX9_fraction {x0 : Nat} {x1 : Int32} {x2 : Int32} {x3 : Int32} {h : PH} {r : Int64 × PH} (hf : (fX9_fraction x0 x1 x2 x3).1 h = some r) : ∃ n x, nth h x0 = some (8, n, x) := by
  obtain ⟨_, _, e, _⟩ := pb_some hf
  exact (chk_some e).2
set_option maxHeartbeats 4000000 in
set_option maxRecDepth 100000 in
theorem metX9_fraction (l : Launch) (G : GG) (ρ : Nat → Nat) {z : Nat} {x0 : Nat} {x1 : Int32} {x2 : Int32} {x3 : Int32} {h hE : PH} {v : Int64} (hf : (fX9_fraction x0 x1 x2 x3).1 h = some (v, hE)) : Met l yX9_fraction (wsY yX9_fraction cX9_fraction 5 (some .long)) (RM 1 22 h hE) (va_Pc [.ref (ρ x0), .int x1, .int x2, .int x3] (PcB G ρ h z)) (QL G ρ v hE h.length z) (DC h hE) (DS h hE) (Af ρ h.length z) := by
  refine met_start (by decide) (Nat.le_of_ble_eq_true rfl) ?_
  intro p e s m below meth c ls hz C hW hl
  subst hz
  have C : Cx G "PairSymbols" cX9_fraction 5 (some .long) "fraction" p s m _ meth c := C
  have hx := C.1
  have hb := C.2.1
  have hX : Ext hE hE := Ext.rf hE
  have hl : lv_has ls 5 [(0, .ref (ρ x0)), (1, .int x1), (2, .int x2), (3, .int x3)] := hl
  have hW : Wd G ρ h.length (sl h) s.heap h s.heap [] 0 0 := hW
  unfold fX9_fraction at hf
  obtain ⟨_, e0, hf⟩ := pb_rd (rd_chk _ _) hf
  refine lv_aload_n hx hb dX9_fraction_0 rfl (lv_at hl 0 rfl) ?_
  obtain ⟨v1, e1, hf⟩ := pb_rd (rd_gA _ _ _) hf
  refine r_gA C hW e1 flX9_23 rfl dX9_fraction_1 ?_
  obtain ⟨v2, e2, hf⟩ := pb_rd (rd_gA _ _ _) hf
  refine r_gA C hW e2 flX9_62 rfl dX9_fraction_4 ?_
  refine lv_astore (lv' := [(4, .ref (ρ v2)), (0, .ref (ρ x0)), (1, .int x1), (2, .int x2), (3, .int x3)]) hx hb dX9_fraction_7 hl (by decide) rfl (fun ls hl => ?_)
  refine lv_aload hx hb dX9_fraction_9 (lv_at hl 0 rfl) ?_
  refine lv_iload_n hx hb dX9_fraction_11 rfl (lv_at hl 2 rfl) ?_
  obtain ⟨v3, h3, e3, hf⟩ := pb_some hf
  obtain ⟨_, _, t4⟩ := tgX3_hasSymbol e3
  refine r_calli hW (pext e3) (run_V (b := v2) (As := [.int x1]) (rest := []) C hW (metX3_hasSymbol l G ρ e3) ⟨rfl, rfl⟩ kcX3_hasSymbol (tq q_364 rfl) kiX3_hasSymbol ksX3_hasSymbol knX3_hasSymbol kdX3_hasSymbol t4 rfl rfl ⟨Nat.le_of_ble_eq_true rfl, Nat.le_of_ble_eq_true rfl⟩ hl.1 (Nat.le_of_ble_eq_true rfl) (room_of hW (pext e3) ((pext hf).tr hX)) dX9_fraction_12 rfl) (fun H locs c1 s1 hW => ?_)
  refine lv_if_eq (tgt := 36) hx hb dX9_fraction_15 (by decide) (fun c5 => ?_) (fun c5 => ?_)
  · rw [if_pos c5] at hf
    refine lv_aload_n hx hb dX9_fraction_36 rfl (lv_at hl 1 rfl) ?_
    refine lv_bipush (v := -2) hx hb dX9_fraction_37 (by decide) ?_
    obtain ⟨v6, h6, e6, hf⟩ := pb_some hf
    obtain ⟨_, _, t7⟩ := tgX9_refuse e6
    refine r_calli hW (pext e6) (run_V (b := x0) (As := [.int (-2 : Int32)]) (rest := []) C hW (metX9_refuse l G ρ e6) ⟨rfl, rfl⟩ kcX9_refuse (tq q_343 rfl) kiX9_refuse ksX9_refuse knX9_refuse kdX9_refuse t7 rfl rfl ⟨Nat.le_of_ble_eq_true rfl, Nat.le_of_ble_eq_true rfl⟩ hl.1 (Nat.le_of_ble_eq_true rfl) (room_of hW (pext e6) ((pext hf).tr hX)) dX9_fraction_39 rfl) (fun H locs c1 s1 hW => ?_)
    refine lv_i2l (v := v6.toInt64) hx hb dX9_fraction_42 rfl ?_
    obtain ⟨rfl, rfl⟩ := pp_some hf
    exact r_lret C hW dX9_fraction_43
  · rw [if_neg c5] at hf
    refine lv_aload hx hb dX9_fraction_18 (lv_at hl 0 rfl) ?_
    refine lv_iload_n hx hb dX9_fraction_20 rfl (lv_at hl 3 rfl) ?_
    obtain ⟨v8, h8, e8, hf⟩ := pb_some hf
    obtain ⟨_, _, t9⟩ := tgX3_hasCoordinate e8
    refine r_calli hW (pext e8) (run_V (b := v2) (As := [.int x2]) (rest := []) C hW (metX3_hasCoordinate l G ρ e8) ⟨rfl, rfl⟩ kcX3_hasCoordinate (tq q_385 rfl) kiX3_hasCoordinate ksX3_hasCoordinate knX3_hasCoordinate kdX3_hasCoordinate t9 rfl rfl ⟨Nat.le_of_ble_eq_true rfl, Nat.le_of_ble_eq_true rfl⟩ hl.1 (Nat.le_of_ble_eq_true rfl) (room_of hW (pext e8) ((pext hf).tr hX)) dX9_fraction_21 rfl) (fun H locs c1 s1 hW => ?_)
    refine lv_if_eq (tgt := 36) hx hb dX9_fraction_24 (by decide) (fun c10 => ?_) (fun c10 => ?_)
    · rw [if_pos c10] at hf
      refine lv_aload_n hx hb dX9_fraction_36 rfl (lv_at hl 1 rfl) ?_
      refine lv_bipush (v := -2) hx hb dX9_fraction_37 (by decide) ?_
      obtain ⟨v11, h11, e11, hf⟩ := pb_some hf
      obtain ⟨_, _, t12⟩ := tgX9_refuse e11
      refine r_calli hW (pext e11) (run_V (b := x0) (As := [.int (-2 : Int32)]) (rest := []) C hW (metX9_refuse l G ρ e11) ⟨rfl, rfl⟩ kcX9_refuse (tq q_343 rfl) kiX9_refuse ksX9_refuse knX9_refuse kdX9_refuse t12 rfl rfl ⟨Nat.le_of_ble_eq_true rfl, Nat.le_of_ble_eq_true rfl⟩ hl.1 (Nat.le_of_ble_eq_true rfl) (room_of hW (pext e11) ((pext hf).tr hX)) dX9_fraction_39 rfl) (fun H locs c1 s1 hW => ?_)
      refine lv_i2l (v := v11.toInt64) hx hb dX9_fraction_42 rfl ?_
      obtain ⟨rfl, rfl⟩ := pp_some hf
      exact r_lret C hW dX9_fraction_43
    · rw [if_neg c10] at hf
      refine lv_iload_n hx hb dX9_fraction_27 rfl (lv_at hl 4 rfl) ?_
      refine lv_iconst (v := 0) hx hb dX9_fraction_28 (by decide) ?_
      refine lv_iconst (v := 1) hx hb dX9_fraction_29 (by decide) ?_
      obtain ⟨v13, h13, e13, hf⟩ := pb_some hf
      refine r_calli hW (pext e13) (run_S (As := [.int x3, .int (0 : Int32), .int (1 : Int32)]) (rest := []) C hW (metX9_within l G ρ e13) ⟨rfl, rfl⟩ kcX9_within (tq q_329 rfl) kiX9_within knX9_within kdX9_within ⟨Nat.le_of_ble_eq_true rfl, Nat.le_of_ble_eq_true rfl⟩ hl.1 (Nat.le_of_ble_eq_true rfl) (room_of hW (pext e13) ((pext hf).tr hX)) dX9_fraction_30 rfl) (fun H locs c1 s1 hW => ?_)
      refine lv_if_ne (tgt := 44) hx hb dX9_fraction_33 (by decide) (fun c14 => ?_) (fun c14 => ?_)
      · rw [if_neg c14] at hf
        refine lv_iload_n hx hb dX9_fraction_44 rfl (lv_at hl 4 rfl) ?_
        refine lv_if_ne (tgt := 61) hx hb dX9_fraction_45 (by decide) (fun c15 => ?_) (fun c15 => ?_)
        · rw [if_neg c15] at hf
          refine lv_lconst (v := 1) hx hb dX9_fraction_61 (by decide) ?_
          obtain ⟨rfl, rfl⟩ := pp_some hf
          exact r_lret C hW dX9_fraction_62
        · rw [if_pos c15] at hf
          refine lv_aload hx hb dX9_fraction_48 (lv_at hl 0 rfl) ?_
          obtain ⟨v16, e16, hf⟩ := pb_rd (rd_gA _ _ _) hf
          refine r_gA C hW e16 flX9_129 rfl dX9_fraction_50 ?_
          refine lv_iload_n hx hb dX9_fraction_53 rfl (lv_at hl 2 rfl) ?_
          obtain ⟨v17, e17, hf⟩ := pb_rd (rd_lA _ _ _) hf
          refine r_aald C hW e17 (by decide) (by decide) dX9_fraction_54 ?_
          refine lv_iload_n hx hb dX9_fraction_55 rfl (lv_at hl 3 rfl) ?_
          obtain ⟨v18, e18, hf⟩ := pb_rd (rd_lI _ _ _) hf
          refine r_iald C hW e18 dX9_fraction_56 ?_
          refine lv_i2l (v := v18.toInt64) hx hb dX9_fraction_57 rfl ?_
          refine lv_goto (tgt := 62) hx hb dX9_fraction_58 (by decide) ?_
          obtain ⟨rfl, rfl⟩ := pp_some hf
          exact r_lret C hW dX9_fraction_62
      · rw [if_pos c14] at hf
        refine lv_aload_n hx hb dX9_fraction_36 rfl (lv_at hl 1 rfl) ?_
        refine lv_bipush (v := -2) hx hb dX9_fraction_37 (by decide) ?_
        obtain ⟨v19, h19, e19, hf⟩ := pb_some hf
        obtain ⟨_, _, t20⟩ := tgX9_refuse e19
        refine r_calli hW (pext e19) (run_V (b := x0) (As := [.int (-2 : Int32)]) (rest := []) C hW (metX9_refuse l G ρ e19) ⟨rfl, rfl⟩ kcX9_refuse (tq q_343 rfl) kiX9_refuse ksX9_refuse knX9_refuse kdX9_refuse t20 rfl rfl ⟨Nat.le_of_ble_eq_true rfl, Nat.le_of_ble_eq_true rfl⟩ hl.1 (Nat.le_of_ble_eq_true rfl) (room_of hW (pext e19) ((pext hf).tr hX)) dX9_fraction_39 rfl) (fun H locs c1 s1 hW => ?_)
        refine lv_i2l (v := v19.toInt64) hx hb dX9_fraction_42 rfl ?_
        obtain ⟨rfl, rfl⟩ := pp_some hf
        exact r_lret C hW dX9_fraction_43

theorem dX5_addTerm_0 : decode cX5_addTerm 0 = .ok (.iconst 0, 1) := by decide +kernel
theorem dX5_addTerm_1 : decode cX5_addTerm 1 = .ok (.istore 6, 2) := by decide +kernel
theorem dX5_addTerm_3 : decode cX5_addTerm 3 = .ok (.iload 6, 2) := by decide +kernel
theorem dX5_addTerm_5 : decode cX5_addTerm 5 = .ok (.aload_n 1, 1) := by decide +kernel
theorem dX5_addTerm_6 : decode cX5_addTerm 6 = .ok (.getfield 9, 3) := by decide +kernel
theorem dX5_addTerm_9 : decode cX5_addTerm 9 = .ok (.if_icmp .ge 111, 3) := by decide +kernel
theorem dX5_addTerm_12 : decode cX5_addTerm 12 = .ok (.aload_n 1, 1) := by decide +kernel
theorem dX5_addTerm_13 : decode cX5_addTerm 13 = .ok (.getfield 51, 3) := by decide +kernel
theorem dX5_addTerm_16 : decode cX5_addTerm 16 = .ok (.aload_n 1, 1) := by decide +kernel
theorem dX5_addTerm_17 : decode cX5_addTerm 17 = .ok (.getfield 54, 3) := by decide +kernel
theorem dX5_addTerm_20 : decode cX5_addTerm 20 = .ok (.iload 6, 2) := by decide +kernel
theorem dX5_addTerm_22 : decode cX5_addTerm 22 = .ok (.iaload, 1) := by decide +kernel
theorem dX5_addTerm_23 : decode cX5_addTerm 23 = .ok (.iaload, 1) := by decide +kernel
theorem dX5_addTerm_24 : decode cX5_addTerm 24 = .ok (.istore 7, 2) := by decide +kernel
theorem dX5_addTerm_26 : decode cX5_addTerm 26 = .ok (.aload_n 1, 1) := by decide +kernel
theorem dX5_addTerm_27 : decode cX5_addTerm 27 = .ok (.getfield 55, 3) := by decide +kernel
theorem dX5_addTerm_30 : decode cX5_addTerm 30 = .ok (.aload_n 1, 1) := by decide +kernel
theorem dX5_addTerm_31 : decode cX5_addTerm 31 = .ok (.getfield 54, 3) := by decide +kernel
theorem dX5_addTerm_34 : decode cX5_addTerm 34 = .ok (.iload 6, 2) := by decide +kernel
theorem dX5_addTerm_36 : decode cX5_addTerm 36 = .ok (.iaload, 1) := by decide +kernel
theorem dX5_addTerm_37 : decode cX5_addTerm 37 = .ok (.iaload, 1) := by decide +kernel
theorem dX5_addTerm_38 : decode cX5_addTerm 38 = .ok (.istore 8, 2) := by decide +kernel
theorem dX5_addTerm_40 : decode cX5_addTerm 40 = .ok (.aload_n 1, 1) := by decide +kernel
theorem dX5_addTerm_41 : decode cX5_addTerm 41 = .ok (.iload 7, 2) := by decide +kernel
theorem dX5_addTerm_43 : decode cX5_addTerm 43 = .ok (.iload_n 2, 1) := by decide +kernel
theorem dX5_addTerm_44 : decode cX5_addTerm 44 = .ok (.imul, 1) := by decide +kernel
theorem dX5_addTerm_45 : decode cX5_addTerm 45 = .ok (.iload 8, 2) := by decide +kernel
theorem dX5_addTerm_47 : decode cX5_addTerm 47 = .ok (.iload 4, 2) := by decide +kernel
theorem dX5_addTerm_49 : decode cX5_addTerm 49 = .ok (.imul, 1) := by decide +kernel
theorem dX5_addTerm_50 : decode cX5_addTerm 50 = .ok (.iadd, 1) := by decide +kernel
theorem dX5_addTerm_51 : decode cX5_addTerm 51 = .ok (.iload 7, 2) := by decide +kernel
theorem dX5_addTerm_53 : decode cX5_addTerm 53 = .ok (.iload_n 3, 1) := by decide +kernel
theorem dX5_addTerm_54 : decode cX5_addTerm 54 = .ok (.imul, 1) := by decide +kernel
theorem dX5_addTerm_55 : decode cX5_addTerm 55 = .ok (.iload 8, 2) := by decide +kernel
theorem dX5_addTerm_57 : decode cX5_addTerm 57 = .ok (.iload 5, 2) := by decide +kernel
theorem dX5_addTerm_59 : decode cX5_addTerm 59 = .ok (.imul, 1) := by decide +kernel
theorem dX5_addTerm_60 : decode cX5_addTerm 60 = .ok (.iadd, 1) := by decide +kernel
theorem dX5_addTerm_61 : decode cX5_addTerm 61 = .ok (.invokevirtual 58, 3) := by decide +kernel
theorem dX5_addTerm_64 : decode cX5_addTerm 64 = .ok (.istore 9, 2) := by decide +kernel
theorem dX5_addTerm_66 : decode cX5_addTerm 66 = .ok (.iconst 0, 1) := by decide +kernel
theorem dX5_addTerm_67 : decode cX5_addTerm 67 = .ok (.istore 10, 2) := by decide +kernel
theorem dX5_addTerm_69 : decode cX5_addTerm 69 = .ok (.iload 9, 2) := by decide +kernel
theorem dX5_addTerm_71 : decode cX5_addTerm 71 = .ok (.iconst (-1), 1) := by decide +kernel
theorem dX5_addTerm_72 : decode cX5_addTerm 72 = .ok (.if_icmp .eq 42, 3) := by decide +kernel
theorem dX5_addTerm_75 : decode cX5_addTerm 75 = .ok (.iload 10, 2) := by decide +kernel
theorem dX5_addTerm_77 : decode cX5_addTerm 77 = .ok (.aload_n 1, 1) := by decide +kernel
theorem dX5_addTerm_78 : decode cX5_addTerm 78 = .ok (.getfield 9, 3) := by decide +kernel
theorem dX5_addTerm_81 : decode cX5_addTerm 81 = .ok (.if_icmp .ge 33, 3) := by decide +kernel
theorem dX5_addTerm_84 : decode cX5_addTerm 84 = .ok (.aload_n 0, 1) := by decide +kernel
theorem dX5_addTerm_85 : decode cX5_addTerm 85 = .ok (.getfield 17, 3) := by decide +kernel
theorem dX5_addTerm_88 : decode cX5_addTerm 88 = .ok (.iload 10, 2) := by decide +kernel
theorem dX5_addTerm_90 : decode cX5_addTerm 90 = .ok (.aaload, 1) := by decide +kernel
theorem dX5_addTerm_91 : decode cX5_addTerm 91 = .ok (.iload 6, 2) := by decide +kernel
theorem dX5_addTerm_93 : decode cX5_addTerm 93 = .ok (.dup2, 1) := by decide +kernel
theorem dX5_addTerm_94 : decode cX5_addTerm 94 = .ok (.laload, 1) := by decide +kernel
theorem dX5_addTerm_95 : decode cX5_addTerm 95 = .ok (.aload_n 1, 1) := by decide +kernel
theorem dX5_addTerm_96 : decode cX5_addTerm 96 = .ok (.getfield 62, 3) := by decide +kernel
theorem dX5_addTerm_99 : decode cX5_addTerm 99 = .ok (.iload 9, 2) := by decide +kernel
theorem dX5_addTerm_101 : decode cX5_addTerm 101 = .ok (.aaload, 1) := by decide +kernel
theorem dX5_addTerm_102 : decode cX5_addTerm 102 = .ok (.iload 10, 2) := by decide +kernel
theorem dX5_addTerm_104 : decode cX5_addTerm 104 = .ok (.iaload, 1) := by decide +kernel
theorem dX5_addTerm_105 : decode cX5_addTerm 105 = .ok (.i2l, 1) := by decide +kernel
theorem dX5_addTerm_106 : decode cX5_addTerm 106 = .ok (.ladd, 1) := by decide +kernel
theorem dX5_addTerm_107 : decode cX5_addTerm 107 = .ok (.lastore, 1) := by decide +kernel
theorem dX5_addTerm_108 : decode cX5_addTerm 108 = .ok (.iinc 10 1, 3) := by decide +kernel
theorem dX5_addTerm_111 : decode cX5_addTerm 111 = .ok (.goto (-42), 3) := by decide +kernel
theorem dX5_addTerm_114 : decode cX5_addTerm 114 = .ok (.iinc 6 1, 3) := by decide +kernel
theorem dX5_addTerm_117 : decode cX5_addTerm 117 = .ok (.goto (-114), 3) := by decide +kernel
theorem dX5_addTerm_120 : decode cX5_addTerm 120 = .ok (.return_, 1) := by decide +kernel
theorem kcX5_addTerm : Cond.code yX5_addTerm cX5_addTerm 11 none ∈ tb := tq q_412 rfl
theorem knX5_addTerm : Cond.initialized yX5_addTerm.cls ∈ tb := (tq q_12 rfl)
theorem kdX5_addTerm : yX5_addTerm.cls ≠ "java/lang/invoke/MethodHandle" ∧ yX5_addTerm.cls ≠ "java/lang/invoke/VarHandle" ∧ (parseMethodDescriptor yX5_addTerm.desc).map (fun d => d.parameters.length) = some 5 := ⟨by decide +kernel, by decide +kernel, by decide +kernel⟩
theorem kiX5_addTerm : Cond.instanceMethod yX5_addTerm ∈ tb := (tq q_411 rfl)
theorem ksX5_addTerm : Cond.selects yX5_addTerm.cls yX5_addTerm yX5_addTerm ∈ tb := (tq z_13 rfl)
theorem tgX5_addTerm {x0 : Nat} {x1 : Nat} {x2 : Int32} {x3 : Int32} {x4 : Int32} {x5 : Int32} {h : PH} {r : Unit × PH} (hf : (fX5_addTerm x0 x1 x2 x3 x4 x5).1 h = some r) : ∃ n x, nth h x0 = some (4, n, x) := by
  obtain ⟨_, _, e, _⟩ := pb_some hf
  exact (chk_some e).2
set_option maxHeartbeats 4000000 in
set_option maxRecDepth 100000 in
theorem wX5_addTerm_B69 {p : Program} {l : Launch} {e : Env} {s : State} {m : MethodId} {args : Array Value} {below : List Frame} {meth : Method} {c : Code} {G : GG} {ρ : Nat → Nat} {h0 hE hB : PH} {Q : State → Prop} {x0 : Nat} {x1 : Nat} {x2 : Int32} {x3 : Int32} {x4 : Int32} {x5 : Int32} {x6 : Int32} {x9 : Int32} (C : Cx G "PairSymbols$Operato\x72" cX5_addTerm 11 none "addTerm" p s m args meth c) {x10 : Int32} {h : PH} {H : Heap} {locs : List Loc} {cells slots : Nat} {ls : Array Slot} {r : (Int32) ⊕ (Unit)} (hf : (fX5_addTerm_b69 x0 x1 x2 x3 x4 x5 x6 x9 x10).1 h = some (r, hB)) (hX : Ext hB hE) (hW : Wd G ρ h0.length (sl h0) s.heap h H locs cells slots) (hl : lv_has ls 11 [(0, .ref (ρ x0)), (1, .ref (ρ x1)), (2, .int x2), (3, .int x3), (4, .int x4), (5, .int x5), (6, .int x6), (9, .int x9), (10, .int x10)]) (kc : ∀ y : Int32, r = .inl y → ∀ (H : Heap) (locs : List Loc) (c1 s1 : Nat) (ls : Array Slot), Wd G ρ h0.length (sl h0) s.heap hB H locs c1 s1 → lv_has ls 11 [(0, .ref (ρ x0)), (1, .ref (ρ x1)), (2, .int x2), (3, .int x3), (4, .int x4), (5, .int x5), (6, .int x6), (9, .int x9), (10, .int y)] → W p l e (RM 1 24 h0 hE) s m args below meth c H locs c1 s1 Q (F0 m 69 ls [])) (ke : ∀ z : Unit, r = .inr z → ∀ (H : Heap) (locs : List Loc) (c1 s1 : Nat) (ls : Array Slot), Wd G ρ h0.length (sl h0) s.heap hB H locs c1 s1 → lv_has ls 11 [(0, .ref (ρ x0)), (1, .ref (ρ x1)), (2, .int x2), (3, .int x3), (4, .int x4), (5, .int x5), (6, .int x6)] → W p l e (RM 1 24 h0 hE) s m args below meth c H locs c1 s1 Q (F0 m 114 ls [])) : W p l e (RM 1 24 h0 hE) s m args below meth c H locs cells slots Q (F0 m 69 ls []) := by
  have hx := C.1
  have hb := C.2.1
  unfold fX5_addTerm_b69 at hf
  refine lv_iload hx hb dX5_addTerm_69 (lv_at hl 7 rfl) ?_
  refine lv_iconst (v := -1) hx hb dX5_addTerm_71 (by decide) ?_
  refine lv_icmp_eq (tgt := 114) hx hb dX5_addTerm_72 (by decide) (fun c13 => ?_) (fun c13 => ?_)
  · rw [if_pos c13] at hf
    obtain ⟨rfl, rfl⟩ := pp_some hf
    exact ke _ rfl _ _ _ _ _ hW (lv_sub hl [0, 1, 2, 3, 4, 5, 6] rfl)
  · rw [if_neg c13] at hf
    refine lv_iload hx hb dX5_addTerm_75 (lv_at hl 8 rfl) ?_
    refine lv_aload_n hx hb dX5_addTerm_77 rfl (lv_at hl 1 rfl) ?_
    obtain ⟨v14, e14, hf⟩ := pb_rd (rd_gI _ _ _) hf
    refine r_gI C hW e14 flX5_9 rfl dX5_addTerm_78 ?_
    refine lv_icmp_ge (tgt := 114) hx hb dX5_addTerm_81 (by decide) (fun c15 => ?_) (fun c15 => ?_)
    · rw [if_pos c15] at hf
      obtain ⟨rfl, rfl⟩ := pp_some hf
      exact ke _ rfl _ _ _ _ _ hW (lv_sub hl [0, 1, 2, 3, 4, 5, 6] rfl)
    · rw [if_neg c15] at hf
      refine lv_aload_n hx hb dX5_addTerm_84 rfl (lv_at hl 0 rfl) ?_
      obtain ⟨v16, e16, hf⟩ := pb_rd (rd_gA _ _ _) hf
      refine r_gA C hW e16 flX5_17 rfl dX5_addTerm_85 ?_
      refine lv_iload hx hb dX5_addTerm_88 (lv_at hl 8 rfl) ?_
      obtain ⟨v17, e17, hf⟩ := pb_rd (rd_lA _ _ _) hf
      refine r_aald C hW e17 (by decide) (by decide) dX5_addTerm_90 ?_
      refine lv_iload hx hb dX5_addTerm_91 (lv_at hl 6 rfl) ?_
      refine lv_dup2_11 hx hb dX5_addTerm_93 rfl rfl ?_
      obtain ⟨v18, e18, hf⟩ := pb_rd (rd_lJ _ _ _) hf
      refine r_lald C hW e18 dX5_addTerm_94 ?_
      refine lv_aload_n hx hb dX5_addTerm_95 rfl (lv_at hl 1 rfl) ?_
      obtain ⟨v19, e19, hf⟩ := pb_rd (rd_gA _ _ _) hf
      refine r_gA C hW e19 flX5_62 rfl dX5_addTerm_96 ?_
      refine lv_iload hx hb dX5_addTerm_99 (lv_at hl 7 rfl) ?_
      obtain ⟨v20, e20, hf⟩ := pb_rd (rd_lA _ _ _) hf
      refine r_aald C hW e20 (by decide) (by decide) dX5_addTerm_101 ?_
      refine lv_iload hx hb dX5_addTerm_102 (lv_at hl 8 rfl) ?_
      obtain ⟨v21, e21, hf⟩ := pb_rd (rd_lI _ _ _) hf
      refine r_iald C hW e21 dX5_addTerm_104 ?_
      refine lv_i2l (v := v21.toInt64) hx hb dX5_addTerm_105 rfl ?_
      refine lv_ladd hx hb dX5_addTerm_106 ?_
      obtain ⟨_, h22, e22, hf⟩ := pb_some hf
      refine r_last C hW e22 dX5_addTerm_107 (fun H locs hW => ?_)
      refine lv_iinc (v := (x10 + 1)) (lv' := [(10, .int (x10 + 1)), (0, .ref (ρ x0)), (1, .ref (ρ x1)), (2, .int x2), (3, .int x3), (4, .int x4), (5, .int x5), (6, .int x6), (9, .int x9)]) hx hb dX5_addTerm_108 hl (k := 8) rfl rfl (by decide) rfl (fun ls hl => ?_)
      refine lv_goto (tgt := 69) hx hb dX5_addTerm_111 (by decide) ?_
      obtain ⟨rfl, rfl⟩ := pp_some hf
      exact kc _ rfl _ _ _ _ _ hW (lv_sub hl [1, 2, 3, 4, 5, 6, 7, 8, 0] rfl)
set_option maxHeartbeats 4000000 in
theorem wX5_addTerm_L69 {p : Program} {l : Launch} {e : Env} {s : State} {m : MethodId} {args : Array Value} {below : List Frame} {meth : Method} {c : Code} {G : GG} {ρ : Nat → Nat} {h0 hE hB : PH} {Q : State → Prop} {x0 : Nat} {x1 : Nat} {x2 : Int32} {x3 : Int32} {x4 : Int32} {x5 : Int32} {x6 : Int32} {x9 : Int32} (C : Cx G "PairSymbols$Operato\x72" cX5_addTerm 11 none "addTerm" p s m args meth c) {z : (Unit)} (n : Nat) : ∀ (x : Int32) {h : PH} {H : Heap} {locs : List Loc} {cells slots : Nat} {ls : Array Slot}, (plo (fX5_addTerm_B69 x0 x1 x2 x3 x4 x5 x6 x9) n x).1 h = some (z, hB) → Ext hB hE → Wd G ρ h0.length (sl h0) s.heap h H locs cells slots → lv_has ls 11 [(0, .ref (ρ x0)), (1, .ref (ρ x1)), (2, .int x2), (3, .int x3), (4, .int x4), (5, .int x5), (6, .int x6), (9, .int x9), (10, .int x)] → (ke : ∀ (H : Heap) (locs : List Loc) (c1 s1 : Nat) (ls : Array Slot), Wd G ρ h0.length (sl h0) s.heap hB H locs c1 s1 → lv_has ls 11 [(0, .ref (ρ x0)), (1, .ref (ρ x1)), (2, .int x2), (3, .int x3), (4, .int x4), (5, .int x5), (6, .int x6)] → W p l e (RM 1 24 h0 hE) s m args below meth c H locs c1 s1 Q (F0 m 114 ls [])) → W p l e (RM 1 24 h0 hE) s m args below meth c H locs cells slots Q (F0 m 69 ls []) := by
  induction n with
  | zero =>
    intro x h H locs cells slots ls hf
    rw [plo_0] at hf
    exact (pf_no hf).elim
  | succ n ih =>
    intro x h H locs cells slots ls hf hX hW hl ke
    rw [plo_s] at hf
    obtain ⟨r, h1, e1, hf⟩ := pb_some hf
    unfold fX5_addTerm_B69 at e1
    rw [frI_eq] at e1
    refine wX5_addTerm_B69 C e1 ((pext hf).tr hX) hW hl (fun y hr H locs c1 s1 ls hW hl => ?_) (fun y hr H locs c1 s1 ls hW hl => ?_)
    · subst hr
      exact ih y hf hX hW hl ke
    · subst hr
      obtain ⟨rfl, rfl⟩ := pp_some hf
      exact ke H locs c1 s1 ls hW hl
set_option maxHeartbeats 4000000 in
set_option maxRecDepth 100000 in
theorem wX5_addTerm_B3 {p : Program} {l : Launch} {e : Env} {s : State} {m : MethodId} {args : Array Value} {below : List Frame} {meth : Method} {c : Code} {G : GG} {ρ : Nat → Nat} {h0 hE hB : PH} {Q : State → Prop} {x0 : Nat} {x1 : Nat} {x2 : Int32} {x3 : Int32} {x4 : Int32} {x5 : Int32} (C : Cx G "PairSymbols$Operato\x72" cX5_addTerm 11 none "addTerm" p s m args meth c) {x6 : Int32} {h : PH} {H : Heap} {locs : List Loc} {cells slots : Nat} {ls : Array Slot} {r : (Int32) ⊕ (Unit)} (hf : (fX5_addTerm_b3 x0 x1 x2 x3 x4 x5 x6).1 h = some (r, hB)) (hX : Ext hB hE) (hW : Wd G ρ h0.length (sl h0) s.heap h H locs cells slots) (hl : lv_has ls 11 [(0, .ref (ρ x0)), (1, .ref (ρ x1)), (2, .int x2), (3, .int x3), (4, .int x4), (5, .int x5), (6, .int x6)]) (kc : ∀ y : Int32, r = .inl y → ∀ (H : Heap) (locs : List Loc) (c1 s1 : Nat) (ls : Array Slot), Wd G ρ h0.length (sl h0) s.heap hB H locs c1 s1 → lv_has ls 11 [(0, .ref (ρ x0)), (1, .ref (ρ x1)), (2, .int x2), (3, .int x3), (4, .int x4), (5, .int x5), (6, .int y)] → W p l e (RM 1 24 h0 hE) s m args below meth c H locs c1 s1 Q (F0 m 3 ls [])) (ke : ∀ z : Unit, r = .inr z → ∀ (H : Heap) (locs : List Loc) (c1 s1 : Nat) (ls : Array Slot), Wd G ρ h0.length (sl h0) s.heap hB H locs c1 s1 → lv_has ls 11 [] → W p l e (RM 1 24 h0 hE) s m args below meth c H locs c1 s1 Q (F0 m 120 ls [])) : W p l e (RM 1 24 h0 hE) s m args below meth c H locs cells slots Q (F0 m 3 ls []) := by
  have hx := C.1
  have hb := C.2.1
  unfold fX5_addTerm_b3 at hf
  refine lv_iload hx hb dX5_addTerm_3 (lv_at hl 6 rfl) ?_
  refine lv_aload_n hx hb dX5_addTerm_5 rfl (lv_at hl 1 rfl) ?_
  obtain ⟨v1, e1, hf⟩ := pb_rd (rd_gI _ _ _) hf
  refine r_gI C hW e1 flX5_9 rfl dX5_addTerm_6 ?_
  refine lv_icmp_ge (tgt := 120) hx hb dX5_addTerm_9 (by decide) (fun c2 => ?_) (fun c2 => ?_)
  · rw [if_pos c2] at hf
    obtain ⟨rfl, rfl⟩ := pp_some hf
    exact ke _ rfl _ _ _ _ _ hW (lv_sub hl [] rfl)
  · rw [if_neg c2] at hf
    refine lv_aload_n hx hb dX5_addTerm_12 rfl (lv_at hl 1 rfl) ?_
    obtain ⟨v3, e3, hf⟩ := pb_rd (rd_gA _ _ _) hf
    refine r_gA C hW e3 flX5_51 rfl dX5_addTerm_13 ?_
    refine lv_aload_n hx hb dX5_addTerm_16 rfl (lv_at hl 1 rfl) ?_
    obtain ⟨v4, e4, hf⟩ := pb_rd (rd_gA _ _ _) hf
    refine r_gA C hW e4 flX5_54 rfl dX5_addTerm_17 ?_
    refine lv_iload hx hb dX5_addTerm_20 (lv_at hl 6 rfl) ?_
    obtain ⟨v5, e5, hf⟩ := pb_rd (rd_lI _ _ _) hf
    refine r_iald C hW e5 dX5_addTerm_22 ?_
    obtain ⟨v6, e6, hf⟩ := pb_rd (rd_lI _ _ _) hf
    refine r_iald C hW e6 dX5_addTerm_23 ?_
    refine lv_istore (lv' := [(7, .int v6), (0, .ref (ρ x0)), (1, .ref (ρ x1)), (2, .int x2), (3, .int x3), (4, .int x4), (5, .int x5), (6, .int x6)]) hx hb dX5_addTerm_24 hl (by decide) rfl (fun ls hl => ?_)
    refine lv_aload_n hx hb dX5_addTerm_26 rfl (lv_at hl 2 rfl) ?_
    obtain ⟨v7, e7, hf⟩ := pb_rd (rd_gA _ _ _) hf
    refine r_gA C hW e7 flX5_55 rfl dX5_addTerm_27 ?_
    refine lv_aload_n hx hb dX5_addTerm_30 rfl (lv_at hl 2 rfl) ?_
    obtain ⟨v8, e8, hf⟩ := pb_rd (rd_gA _ _ _) hf
    refine r_gA C hW e8 flX5_54 rfl dX5_addTerm_31 ?_
    refine lv_iload hx hb dX5_addTerm_34 (lv_at hl 7 rfl) ?_
    obtain ⟨v9, e9, hf⟩ := pb_rd (rd_lI _ _ _) hf
    refine r_iald C hW e9 dX5_addTerm_36 ?_
    obtain ⟨v10, e10, hf⟩ := pb_rd (rd_lI _ _ _) hf
    refine r_iald C hW e10 dX5_addTerm_37 ?_
    refine lv_istore (lv' := [(8, .int v10), (7, .int v6), (0, .ref (ρ x0)), (1, .ref (ρ x1)), (2, .int x2), (3, .int x3), (4, .int x4), (5, .int x5), (6, .int x6)]) hx hb dX5_addTerm_38 hl (by decide) rfl (fun ls hl => ?_)
    refine lv_aload_n hx hb dX5_addTerm_40 rfl (lv_at hl 3 rfl) ?_
    refine lv_iload hx hb dX5_addTerm_41 (lv_at hl 1 rfl) ?_
    refine lv_iload_n hx hb dX5_addTerm_43 rfl (lv_at hl 4 rfl) ?_
    refine lv_imul hx hb dX5_addTerm_44 ?_
    refine lv_iload hx hb dX5_addTerm_45 (lv_at hl 0 rfl) ?_
    refine lv_iload hx hb dX5_addTerm_47 (lv_at hl 6 rfl) ?_
    refine lv_imul hx hb dX5_addTerm_49 ?_
    refine lv_iadd hx hb dX5_addTerm_50 ?_
    refine lv_iload hx hb dX5_addTerm_51 (lv_at hl 1 rfl) ?_
    refine lv_iload_n hx hb dX5_addTerm_53 rfl (lv_at hl 5 rfl) ?_
    refine lv_imul hx hb dX5_addTerm_54 ?_
    refine lv_iload hx hb dX5_addTerm_55 (lv_at hl 0 rfl) ?_
    refine lv_iload hx hb dX5_addTerm_57 (lv_at hl 7 rfl) ?_
    refine lv_imul hx hb dX5_addTerm_59 ?_
    refine lv_iadd hx hb dX5_addTerm_60 ?_
    obtain ⟨v11, h11, e11, hf⟩ := pb_some hf
    obtain ⟨_, _, t12⟩ := tgX3_find e11
    refine r_calli hW (pext e11) (run_V (b := x1) (As := [.int ((v6 * x2) + (v10 * x4)), .int ((v6 * x3) + (v10 * x5))]) (rest := []) C hW (metX3_find l G ρ e11) ⟨rfl, rfl⟩ kcX3_find (tq q_413 rfl) kiX3_find ksX3_find knX3_find kdX3_find t12 rfl rfl ⟨Nat.le_of_ble_eq_true rfl, Nat.le_of_ble_eq_true rfl⟩ hl.1 (Nat.le_of_ble_eq_true rfl) (room_of hW (pext e11) ((pext hf).tr hX)) dX5_addTerm_61 rfl) (fun H locs c1 s1 hW => ?_)
    refine lv_istore (lv' := [(9, .int v11), (8, .int v10), (7, .int v6), (0, .ref (ρ x0)), (1, .ref (ρ x1)), (2, .int x2), (3, .int x3), (4, .int x4), (5, .int x5), (6, .int x6)]) hx hb dX5_addTerm_64 hl (by decide) rfl (fun ls hl => ?_)
    refine lv_iconst (v := 0) hx hb dX5_addTerm_66 (by decide) ?_
    refine lv_istore (lv' := [(10, .int (0 : Int32)), (9, .int v11), (8, .int v10), (7, .int v6), (0, .ref (ρ x0)), (1, .ref (ρ x1)), (2, .int x2), (3, .int x3), (4, .int x4), (5, .int x5), (6, .int x6)]) hx hb dX5_addTerm_67 hl (by decide) rfl (fun ls hl => ?_)
    obtain ⟨z23, h23, e23, hf⟩ := pb_some hf
    refine wX5_addTerm_L69 C fu _ e23 ((pext hf).tr hX) hW (lv_sub hl [4, 5, 6, 7, 8, 9, 10, 1, 0] rfl) (fun H locs c1 s1 ls hW hl => ?_)
    refine lv_iinc (v := (x6 + 1)) (lv' := [(6, .int (x6 + 1)), (0, .ref (ρ x0)), (1, .ref (ρ x1)), (2, .int x2), (3, .int x3), (4, .int x4), (5, .int x5)]) hx hb dX5_addTerm_114 hl (k := 6) rfl rfl (by decide) rfl (fun ls hl => ?_)
    refine lv_goto (tgt := 3) hx hb dX5_addTerm_117 (by decide) ?_
    obtain ⟨rfl, rfl⟩ := pp_some hf
    exact kc _ rfl _ _ _ _ _ hW (lv_sub hl [1, 2, 3, 4, 5, 6, 0] rfl)
set_option maxHeartbeats 4000000 in
theorem wX5_addTerm_L3 {p : Program} {l : Launch} {e : Env} {s : State} {m : MethodId} {args : Array Value} {below : List Frame} {meth : Method} {c : Code} {G : GG} {ρ : Nat → Nat} {h0 hE hB : PH} {Q : State → Prop} {x0 : Nat} {x1 : Nat} {x2 : Int32} {x3 : Int32} {x4 : Int32} {x5 : Int32} (C : Cx G "PairSymbols$Operato\x72" cX5_addTerm 11 none "addTerm" p s m args meth c) {z : (Unit)} (n : Nat) : ∀ (x : Int32) {h : PH} {H : Heap} {locs : List Loc} {cells slots : Nat} {ls : Array Slot}, (plo (fX5_addTerm_B3 x0 x1 x2 x3 x4 x5) n x).1 h = some (z, hB) → Ext hB hE → Wd G ρ h0.length (sl h0) s.heap h H locs cells slots → lv_has ls 11 [(0, .ref (ρ x0)), (1, .ref (ρ x1)), (2, .int x2), (3, .int x3), (4, .int x4), (5, .int x5), (6, .int x)] → (ke : ∀ (H : Heap) (locs : List Loc) (c1 s1 : Nat) (ls : Array Slot), Wd G ρ h0.length (sl h0) s.heap hB H locs c1 s1 → lv_has ls 11 [] → W p l e (RM 1 24 h0 hE) s m args below meth c H locs c1 s1 Q (F0 m 120 ls [])) → W p l e (RM 1 24 h0 hE) s m args below meth c H locs cells slots Q (F0 m 3 ls []) := by
  induction n with
  | zero =>
    intro x h H locs cells slots ls hf
    rw [plo_0] at hf
    exact (pf_no hf).elim
  | succ n ih =>
    intro x h H locs cells slots ls hf hX hW hl ke
    rw [plo_s] at hf
    obtain ⟨r, h1, e1, hf⟩ := pb_some hf
    unfold fX5_addTerm_B3 at e1
    rw [frI_eq] at e1
    refine wX5_addTerm_B3 C e1 ((pext hf).tr hX) hW hl (fun y hr H locs c1 s1 ls hW hl => ?_) (fun y hr H locs c1 s1 ls hW hl => ?_)
    · subst hr
      exact ih y hf hX hW hl ke
    · subst hr
      obtain ⟨rfl, rfl⟩ := pp_some hf
      exact ke H locs c1 s1 ls hW hl
set_option maxHeartbeats 4000000 in
set_option maxRecDepth 100000 in
theorem metX5_addTerm (l : Launch) (G : GG) (ρ : Nat → Nat) {z : Nat} {x0 : Nat} {x1 : Nat} {x2 : Int32} {x3 : Int32} {x4 : Int32} {x5 : Int32} {h hE : PH} {v : Unit} (hf : (fX5_addTerm x0 x1 x2 x3 x4 x5).1 h = some (v, hE)) : Met l yX5_addTerm (wsY yX5_addTerm cX5_addTerm 11 none) (RM 1 24 h hE) (va_Pc [.ref (ρ x0), .ref (ρ x1), .int x2, .int x3, .int x4, .int x5] (PcB G ρ h z)) (QV G ρ hE h.length z) (DC h hE) (DS h hE) (Af ρ h.length z) := by
  refine met_start (by decide) (Nat.le_of_ble_eq_true rfl) ?_
  intro p e s m below meth c ls hz C hW hl
  subst hz
  have C : Cx G "PairSymbols$Operato\x72" cX5_addTerm 11 none "addTerm" p s m _ meth c := C
  have hx := C.1
  have hb := C.2.1
  have hX : Ext hE hE := Ext.rf hE
  have hl : lv_has ls 11 [(0, .ref (ρ x0)), (1, .ref (ρ x1)), (2, .int x2), (3, .int x3), (4, .int x4), (5, .int x5)] := hl
  have hW : Wd G ρ h.length (sl h) s.heap h s.heap [] 0 0 := hW
  unfold fX5_addTerm at hf
  obtain ⟨_, e0, hf⟩ := pb_rd (rd_chk _ _) hf
  refine lv_iconst (v := 0) hx hb dX5_addTerm_0 (by decide) ?_
  refine lv_istore (lv' := [(6, .int (0 : Int32)), (0, .ref (ρ x0)), (1, .ref (ρ x1)), (2, .int x2), (3, .int x3), (4, .int x4), (5, .int x5)]) hx hb dX5_addTerm_1 hl (by decide) rfl (fun ls hl => ?_)
  obtain ⟨z24, h24, e24, hf⟩ := pb_some hf
  refine wX5_addTerm_L3 C fu _ e24 ((pext hf).tr hX) hW (lv_sub hl [1, 2, 3, 4, 5, 6, 0] rfl) (fun H locs c1 s1 ls hW hl => ?_)
  obtain ⟨rfl, rfl⟩ := pp_some hf
  exact r_vret C hW dX5_addTerm_120

theorem dX5_addTerms_0 : decode cX5_addTerms 0 = .ok (.iconst 1, 1) := by decide +kernel
theorem dX5_addTerms_1 : decode cX5_addTerms 1 = .ok (.istore_n 3, 1) := by decide +kernel
theorem dX5_addTerms_2 : decode cX5_addTerms 2 = .ok (.iload_n 3, 1) := by decide +kernel
theorem dX5_addTerms_3 : decode cX5_addTerms 3 = .ok (.iload_n 2, 1) := by decide +kernel
theorem dX5_addTerms_4 : decode cX5_addTerms 4 = .ok (.if_icmp .gt 85, 3) := by decide +kernel
theorem dX5_addTerms_7 : decode cX5_addTerms 7 = .ok (.iconst 1, 1) := by decide +kernel
theorem dX5_addTerms_8 : decode cX5_addTerms 8 = .ok (.istore 4, 2) := by decide +kernel
theorem dX5_addTerms_10 : decode cX5_addTerms 10 = .ok (.iload 4, 2) := by decide +kernel
theorem dX5_addTerms_12 : decode cX5_addTerms 12 = .ok (.iload_n 2, 1) := by decide +kernel
theorem dX5_addTerms_13 : decode cX5_addTerms 13 = .ok (.iconst 1, 1) := by decide +kernel
theorem dX5_addTerms_14 : decode cX5_addTerms 14 = .ok (.iadd, 1) := by decide +kernel
theorem dX5_addTerms_15 : decode cX5_addTerms 15 = .ok (.iload_n 3, 1) := by decide +kernel
theorem dX5_addTerms_16 : decode cX5_addTerms 16 = .ok (.isub, 1) := by decide +kernel
theorem dX5_addTerms_17 : decode cX5_addTerms 17 = .ok (.if_icmp .gt 66, 3) := by decide +kernel
theorem dX5_addTerms_20 : decode cX5_addTerms 20 = .ok (.iconst 0, 1) := by decide +kernel
theorem dX5_addTerms_21 : decode cX5_addTerms 21 = .ok (.istore 5, 2) := by decide +kernel
theorem dX5_addTerms_23 : decode cX5_addTerms 23 = .ok (.iload 5, 2) := by decide +kernel
theorem dX5_addTerms_25 : decode cX5_addTerms 25 = .ok (.iload_n 3, 1) := by decide +kernel
theorem dX5_addTerms_26 : decode cX5_addTerms 26 = .ok (.if_icmp .ge 51, 3) := by decide +kernel
theorem dX5_addTerms_29 : decode cX5_addTerms 29 = .ok (.iconst 0, 1) := by decide +kernel
theorem dX5_addTerms_30 : decode cX5_addTerms 30 = .ok (.istore 6, 2) := by decide +kernel
theorem dX5_addTerms_32 : decode cX5_addTerms 32 = .ok (.iload 6, 2) := by decide +kernel
theorem dX5_addTerms_34 : decode cX5_addTerms 34 = .ok (.iload 4, 2) := by decide +kernel
theorem dX5_addTerms_36 : decode cX5_addTerms 36 = .ok (.if_icmp .ge 35, 3) := by decide +kernel
theorem dX5_addTerms_39 : decode cX5_addTerms 39 = .ok (.iload_n 3, 1) := by decide +kernel
theorem dX5_addTerms_40 : decode cX5_addTerms 40 = .ok (.iload 4, 2) := by decide +kernel
theorem dX5_addTerms_42 : decode cX5_addTerms 42 = .ok (.imul, 1) := by decide +kernel
theorem dX5_addTerms_43 : decode cX5_addTerms 43 = .ok (.iload 5, 2) := by decide +kernel
theorem dX5_addTerms_45 : decode cX5_addTerms 45 = .ok (.iload 6, 2) := by decide +kernel
theorem dX5_addTerms_47 : decode cX5_addTerms 47 = .ok (.imul, 1) := by decide +kernel
theorem dX5_addTerms_48 : decode cX5_addTerms 48 = .ok (.isub, 1) := by decide +kernel
theorem dX5_addTerms_49 : decode cX5_addTerms 49 = .ok (.iload_n 2, 1) := by decide +kernel
theorem dX5_addTerms_50 : decode cX5_addTerms 50 = .ok (.if_icmp .ne 15, 3) := by decide +kernel
theorem dX5_addTerms_53 : decode cX5_addTerms 53 = .ok (.aload_n 0, 1) := by decide +kernel
theorem dX5_addTerms_54 : decode cX5_addTerms 54 = .ok (.aload_n 1, 1) := by decide +kernel
theorem dX5_addTerms_55 : decode cX5_addTerms 55 = .ok (.iload_n 3, 1) := by decide +kernel
theorem dX5_addTerms_56 : decode cX5_addTerms 56 = .ok (.iload 5, 2) := by decide +kernel
theorem dX5_addTerms_58 : decode cX5_addTerms 58 = .ok (.iload 6, 2) := by decide +kernel
theorem dX5_addTerms_60 : decode cX5_addTerms 60 = .ok (.iload 4, 2) := by decide +kernel
theorem dX5_addTerms_62 : decode cX5_addTerms 62 = .ok (.invokevirtual 47, 3) := by decide +kernel
theorem dX5_addTerms_65 : decode cX5_addTerms 65 = .ok (.iinc 6 1, 3) := by decide +kernel
theorem dX5_addTerms_68 : decode cX5_addTerms 68 = .ok (.goto (-36), 3) := by decide +kernel
theorem dX5_addTerms_71 : decode cX5_addTerms 71 = .ok (.iinc 5 1, 3) := by decide +kernel
theorem dX5_addTerms_74 : decode cX5_addTerms 74 = .ok (.goto (-51), 3) := by decide +kernel
theorem dX5_addTerms_77 : decode cX5_addTerms 77 = .ok (.iinc 4 1, 3) := by decide +kernel
theorem dX5_addTerms_80 : decode cX5_addTerms 80 = .ok (.goto (-70), 3) := by decide +kernel
theorem dX5_addTerms_83 : decode cX5_addTerms 83 = .ok (.iinc 3 1, 3) := by decide +kernel
theorem dX5_addTerms_86 : decode cX5_addTerms 86 = .ok (.goto (-84), 3) := by decide +kernel
theorem dX5_addTerms_89 : decode cX5_addTerms 89 = .ok (.return_, 1) := by decide +kernel
theorem kcX5_addTerms : Cond.code yX5_addTerms cX5_addTerms 7 none ∈ tb := tq q_408 rfl
theorem knX5_addTerms : Cond.initialized yX5_addTerms.cls ∈ tb := (tq q_12 rfl)
theorem kdX5_addTerms : yX5_addTerms.cls ≠ "java/lang/invoke/MethodHandle" ∧ yX5_addTerms.cls ≠ "java/lang/invoke/VarHandle" ∧ (parseMethodDescriptor yX5_addTerms.desc).map (fun d => d.parameters.length) = some 2 := ⟨by decide +kernel, by decide +kernel, by decide +kernel⟩
theorem kiX5_addTerms : Cond.instanceMethod yX5_addTerms ∈ tb := (tq q_407 rfl)
theorem ksX5_addTerms : Cond.selects yX5_addTerms.cls yX5_addTerms yX5_addTerms ∈ tb := (tq z_12 rfl)
theorem tgX5_addTerms {x0 : Nat} {x1 : Nat} {x2 : Int32} {h : PH} {r : Unit × PH} (hf : (fX5_addTerms x0 x1 x2).1 h = some r) : ∃ n x, nth h x0 = some (4, n, x) := by
  obtain ⟨_, _, e, _⟩ := pb_some hf
  exact (chk_some e).2
set_option maxHeartbeats 4000000 in
set_option maxRecDepth 100000 in
theorem wX5_addTerms_B32 {p : Program} {l : Launch} {e : Env} {s : State} {m : MethodId} {args : Array Value} {below : List Frame} {meth : Method} {c : Code} {G : GG} {ρ : Nat → Nat} {h0 hE hB : PH} {Q : State → Prop} {x0 : Nat} {x1 : Nat} {x2 : Int32} {x3 : Int32} {x4 : Int32} {x5 : Int32} (C : Cx G "PairSymbols$Operato\x72" cX5_addTerms 7 none "addTerms" p s m args meth c) {x6 : Int32} {h : PH} {H : Heap} {locs : List Loc} {cells slots : Nat} {ls : Array Slot} {r : (Int32) ⊕ (Unit)} (hf : (fX5_addTerms_b32 x0 x1 x2 x3 x4 x5 x6).1 h = some (r, hB)) (hX : Ext hB hE) (hW : Wd G ρ h0.length (sl h0) s.heap h H locs cells slots) (hl : lv_has ls 7 [(0, .ref (ρ x0)), (1, .ref (ρ x1)), (2, .int x2), (3, .int x3), (4, .int x4), (5, .int x5), (6, .int x6)]) (kc : ∀ y : Int32, r = .inl y → ∀ (H : Heap) (locs : List Loc) (c1 s1 : Nat) (ls : Array Slot), Wd G ρ h0.length (sl h0) s.heap hB H locs c1 s1 → lv_has ls 7 [(0, .ref (ρ x0)), (1, .ref (ρ x1)), (2, .int x2), (3, .int x3), (4, .int x4), (5, .int x5), (6, .int y)] → W p l e (RM 2 54 h0 hE) s m args below meth c H locs c1 s1 Q (F0 m 32 ls [])) (ke : ∀ z : Unit, r = .inr z → ∀ (H : Heap) (locs : List Loc) (c1 s1 : Nat) (ls : Array Slot), Wd G ρ h0.length (sl h0) s.heap hB H locs c1 s1 → lv_has ls 7 [(0, .ref (ρ x0)), (1, .ref (ρ x1)), (2, .int x2), (3, .int x3), (4, .int x4), (5, .int x5)] → W p l e (RM 2 54 h0 hE) s m args below meth c H locs c1 s1 Q (F0 m 71 ls [])) : W p l e (RM 2 54 h0 hE) s m args below meth c H locs cells slots Q (F0 m 32 ls []) := by
  have hx := C.1
  have hb := C.2.1
  unfold fX5_addTerms_b32 at hf
  refine lv_iload hx hb dX5_addTerms_32 (lv_at hl 6 rfl) ?_
  refine lv_iload hx hb dX5_addTerms_34 (lv_at hl 4 rfl) ?_
  refine lv_icmp_ge (tgt := 71) hx hb dX5_addTerms_36 (by decide) (fun c4 => ?_) (fun c4 => ?_)
  · rw [if_pos c4] at hf
    obtain ⟨rfl, rfl⟩ := pp_some hf
    exact ke _ rfl _ _ _ _ _ hW (lv_sub hl [0, 1, 2, 3, 4, 5] rfl)
  · rw [if_neg c4] at hf
    refine lv_iload_n hx hb dX5_addTerms_39 rfl (lv_at hl 3 rfl) ?_
    refine lv_iload hx hb dX5_addTerms_40 (lv_at hl 4 rfl) ?_
    refine lv_imul hx hb dX5_addTerms_42 ?_
    refine lv_iload hx hb dX5_addTerms_43 (lv_at hl 5 rfl) ?_
    refine lv_iload hx hb dX5_addTerms_45 (lv_at hl 6 rfl) ?_
    refine lv_imul hx hb dX5_addTerms_47 ?_
    refine lv_isub hx hb dX5_addTerms_48 ?_
    refine lv_iload_n hx hb dX5_addTerms_49 rfl (lv_at hl 2 rfl) ?_
    refine lv_icmp_ne (tgt := 65) hx hb dX5_addTerms_50 (by decide) (fun c5 => ?_) (fun c5 => ?_)
    · rw [if_neg c5] at hf
      refine lv_iinc (v := (x6 + 1)) (lv' := [(6, .int (x6 + 1)), (0, .ref (ρ x0)), (1, .ref (ρ x1)), (2, .int x2), (3, .int x3), (4, .int x4), (5, .int x5)]) hx hb dX5_addTerms_65 hl (k := 6) rfl rfl (by decide) rfl (fun ls hl => ?_)
      refine lv_goto (tgt := 32) hx hb dX5_addTerms_68 (by decide) ?_
      obtain ⟨rfl, rfl⟩ := pp_some hf
      exact kc _ rfl _ _ _ _ _ hW (lv_sub hl [1, 2, 3, 4, 5, 6, 0] rfl)
    · rw [if_pos c5] at hf
      refine lv_aload_n hx hb dX5_addTerms_53 rfl (lv_at hl 0 rfl) ?_
      refine lv_aload_n hx hb dX5_addTerms_54 rfl (lv_at hl 1 rfl) ?_
      refine lv_iload_n hx hb dX5_addTerms_55 rfl (lv_at hl 3 rfl) ?_
      refine lv_iload hx hb dX5_addTerms_56 (lv_at hl 5 rfl) ?_
      refine lv_iload hx hb dX5_addTerms_58 (lv_at hl 6 rfl) ?_
      refine lv_iload hx hb dX5_addTerms_60 (lv_at hl 4 rfl) ?_
      obtain ⟨_, h6, e6, hf⟩ := pb_some hf
      obtain ⟨_, _, t7⟩ := tgX5_addTerm e6
      refine r_callv hW (pext e6) (run_V (b := x0) (As := [.ref (ρ x1), .int x3, .int x5, .int x6, .int x4]) (rest := []) C hW (metX5_addTerm l G ρ e6) ⟨rfl, rfl⟩ kcX5_addTerm (tq q_409 rfl) kiX5_addTerm ksX5_addTerm knX5_addTerm kdX5_addTerm t7 rfl rfl ⟨Nat.le_of_ble_eq_true rfl, Nat.le_of_ble_eq_true rfl⟩ hl.1 (Nat.le_of_ble_eq_true rfl) (room_of hW (pext e6) ((pext hf).tr hX)) dX5_addTerms_62 rfl) (fun H locs c1 s1 hW => ?_)
      refine lv_iinc (v := (x6 + 1)) (lv' := [(6, .int (x6 + 1)), (0, .ref (ρ x0)), (1, .ref (ρ x1)), (2, .int x2), (3, .int x3), (4, .int x4), (5, .int x5)]) hx hb dX5_addTerms_65 hl (k := 6) rfl rfl (by decide) rfl (fun ls hl => ?_)
      refine lv_goto (tgt := 32) hx hb dX5_addTerms_68 (by decide) ?_
      obtain ⟨rfl, rfl⟩ := pp_some hf
      exact kc _ rfl _ _ _ _ _ hW (lv_sub hl [1, 2, 3, 4, 5, 6, 0] rfl)
set_option maxHeartbeats 4000000 in
theorem wX5_addTerms_L32 {p : Program} {l : Launch} {e : Env} {s : State} {m : MethodId} {args : Array Value} {below : List Frame} {meth : Method} {c : Code} {G : GG} {ρ : Nat → Nat} {h0 hE hB : PH} {Q : State → Prop} {x0 : Nat} {x1 : Nat} {x2 : Int32} {x3 : Int32} {x4 : Int32} {x5 : Int32} (C : Cx G "PairSymbols$Operato\x72" cX5_addTerms 7 none "addTerms" p s m args meth c) {z : (Unit)} (n : Nat) : ∀ (x : Int32) {h : PH} {H : Heap} {locs : List Loc} {cells slots : Nat} {ls : Array Slot}, (plo (fX5_addTerms_B32 x0 x1 x2 x3 x4 x5) n x).1 h = some (z, hB) → Ext hB hE → Wd G ρ h0.length (sl h0) s.heap h H locs cells slots → lv_has ls 7 [(0, .ref (ρ x0)), (1, .ref (ρ x1)), (2, .int x2), (3, .int x3), (4, .int x4), (5, .int x5), (6, .int x)] → (ke : ∀ (H : Heap) (locs : List Loc) (c1 s1 : Nat) (ls : Array Slot), Wd G ρ h0.length (sl h0) s.heap hB H locs c1 s1 → lv_has ls 7 [(0, .ref (ρ x0)), (1, .ref (ρ x1)), (2, .int x2), (3, .int x3), (4, .int x4), (5, .int x5)] → W p l e (RM 2 54 h0 hE) s m args below meth c H locs c1 s1 Q (F0 m 71 ls [])) → W p l e (RM 2 54 h0 hE) s m args below meth c H locs cells slots Q (F0 m 32 ls []) := by
  induction n with
  | zero =>
    intro x h H locs cells slots ls hf
    rw [plo_0] at hf
    exact (pf_no hf).elim
  | succ n ih =>
    intro x h H locs cells slots ls hf hX hW hl ke
    rw [plo_s] at hf
    obtain ⟨r, h1, e1, hf⟩ := pb_some hf
    unfold fX5_addTerms_B32 at e1
    rw [frI_eq] at e1
    refine wX5_addTerms_B32 C e1 ((pext hf).tr hX) hW hl (fun y hr H locs c1 s1 ls hW hl => ?_) (fun y hr H locs c1 s1 ls hW hl => ?_)
    · subst hr
      exact ih y hf hX hW hl ke
    · subst hr
      obtain ⟨rfl, rfl⟩ := pp_some hf
      exact ke H locs c1 s1 ls hW hl
set_option maxHeartbeats 4000000 in
set_option maxRecDepth 100000 in
theorem wX5_addTerms_B23 {p : Program} {l : Launch} {e : Env} {s : State} {m : MethodId} {args : Array Value} {below : List Frame} {meth : Method} {c : Code} {G : GG} {ρ : Nat → Nat} {h0 hE hB : PH} {Q : State → Prop} {x0 : Nat} {x1 : Nat} {x2 : Int32} {x3 : Int32} {x4 : Int32} (C : Cx G "PairSymbols$Operato\x72" cX5_addTerms 7 none "addTerms" p s m args meth c) {x5 : Int32} {h : PH} {H : Heap} {locs : List Loc} {cells slots : Nat} {ls : Array Slot} {r : (Int32) ⊕ (Unit)} (hf : (fX5_addTerms_b23 x0 x1 x2 x3 x4 x5).1 h = some (r, hB)) (hX : Ext hB hE) (hW : Wd G ρ h0.length (sl h0) s.heap h H locs cells slots) (hl : lv_has ls 7 [(0, .ref (ρ x0)), (1, .ref (ρ x1)), (2, .int x2), (3, .int x3), (4, .int x4), (5, .int x5)]) (kc : ∀ y : Int32, r = .inl y → ∀ (H : Heap) (locs : List Loc) (c1 s1 : Nat) (ls : Array Slot), Wd G ρ h0.length (sl h0) s.heap hB H locs c1 s1 → lv_has ls 7 [(0, .ref (ρ x0)), (1, .ref (ρ x1)), (2, .int x2), (3, .int x3), (4, .int x4), (5, .int y)] → W p l e (RM 2 54 h0 hE) s m args below meth c H locs c1 s1 Q (F0 m 23 ls [])) (ke : ∀ z : Unit, r = .inr z → ∀ (H : Heap) (locs : List Loc) (c1 s1 : Nat) (ls : Array Slot), Wd G ρ h0.length (sl h0) s.heap hB H locs c1 s1 → lv_has ls 7 [(0, .ref (ρ x0)), (1, .ref (ρ x1)), (2, .int x2), (3, .int x3), (4, .int x4)] → W p l e (RM 2 54 h0 hE) s m args below meth c H locs c1 s1 Q (F0 m 77 ls [])) : W p l e (RM 2 54 h0 hE) s m args below meth c H locs cells slots Q (F0 m 23 ls []) := by
  have hx := C.1
  have hb := C.2.1
  unfold fX5_addTerms_b23 at hf
  refine lv_iload hx hb dX5_addTerms_23 (lv_at hl 5 rfl) ?_
  refine lv_iload_n hx hb dX5_addTerms_25 rfl (lv_at hl 3 rfl) ?_
  refine lv_icmp_ge (tgt := 77) hx hb dX5_addTerms_26 (by decide) (fun c3 => ?_) (fun c3 => ?_)
  · rw [if_pos c3] at hf
    obtain ⟨rfl, rfl⟩ := pp_some hf
    exact ke _ rfl _ _ _ _ _ hW (lv_sub hl [0, 1, 2, 3, 4] rfl)
  · rw [if_neg c3] at hf
    refine lv_iconst (v := 0) hx hb dX5_addTerms_29 (by decide) ?_
    refine lv_istore (lv' := [(6, .int (0 : Int32)), (0, .ref (ρ x0)), (1, .ref (ρ x1)), (2, .int x2), (3, .int x3), (4, .int x4), (5, .int x5)]) hx hb dX5_addTerms_30 hl (by decide) rfl (fun ls hl => ?_)
    obtain ⟨z8, h8, e8, hf⟩ := pb_some hf
    refine wX5_addTerms_L32 C fu _ e8 ((pext hf).tr hX) hW (lv_sub hl [1, 2, 3, 4, 5, 6, 0] rfl) (fun H locs c1 s1 ls hW hl => ?_)
    refine lv_iinc (v := (x5 + 1)) (lv' := [(5, .int (x5 + 1)), (0, .ref (ρ x0)), (1, .ref (ρ x1)), (2, .int x2), (3, .int x3), (4, .int x4)]) hx hb dX5_addTerms_71 hl (k := 5) rfl rfl (by decide) rfl (fun ls hl => ?_)
    refine lv_goto (tgt := 23) hx hb dX5_addTerms_74 (by decide) ?_
    obtain ⟨rfl, rfl⟩ := pp_some hf
    exact kc _ rfl _ _ _ _ _ hW (lv_sub hl [1, 2, 3, 4, 5, 0] rfl)
set_option maxHeartbeats 4000000 in
theorem wX5_addTerms_L23 {p : Program} {l : Launch} {e : Env} {s : State} {m : MethodId} {args : Array Value} {below : List Frame} {meth : Method} {c : Code} {G : GG} {ρ : Nat → Nat} {h0 hE hB : PH} {Q : State → Prop} {x0 : Nat} {x1 : Nat} {x2 : Int32} {x3 : Int32} {x4 : Int32} (C : Cx G "PairSymbols$Operato\x72" cX5_addTerms 7 none "addTerms" p s m args meth c) {z : (Unit)} (n : Nat) : ∀ (x : Int32) {h : PH} {H : Heap} {locs : List Loc} {cells slots : Nat} {ls : Array Slot}, (plo (fX5_addTerms_B23 x0 x1 x2 x3 x4) n x).1 h = some (z, hB) → Ext hB hE → Wd G ρ h0.length (sl h0) s.heap h H locs cells slots → lv_has ls 7 [(0, .ref (ρ x0)), (1, .ref (ρ x1)), (2, .int x2), (3, .int x3), (4, .int x4), (5, .int x)] → (ke : ∀ (H : Heap) (locs : List Loc) (c1 s1 : Nat) (ls : Array Slot), Wd G ρ h0.length (sl h0) s.heap hB H locs c1 s1 → lv_has ls 7 [(0, .ref (ρ x0)), (1, .ref (ρ x1)), (2, .int x2), (3, .int x3), (4, .int x4)] → W p l e (RM 2 54 h0 hE) s m args below meth c H locs c1 s1 Q (F0 m 77 ls [])) → W p l e (RM 2 54 h0 hE) s m args below meth c H locs cells slots Q (F0 m 23 ls []) := by
  induction n with
  | zero =>
    intro x h H locs cells slots ls hf
    rw [plo_0] at hf
    exact (pf_no hf).elim
  | succ n ih =>
    intro x h H locs cells slots ls hf hX hW hl ke
    rw [plo_s] at hf
    obtain ⟨r, h1, e1, hf⟩ := pb_some hf
    unfold fX5_addTerms_B23 at e1
    rw [frI_eq] at e1
    refine wX5_addTerms_B23 C e1 ((pext hf).tr hX) hW hl (fun y hr H locs c1 s1 ls hW hl => ?_) (fun y hr H locs c1 s1 ls hW hl => ?_)
    · subst hr
      exact ih y hf hX hW hl ke
    · subst hr
      obtain ⟨rfl, rfl⟩ := pp_some hf
      exact ke H locs c1 s1 ls hW hl
set_option maxHeartbeats 4000000 in
set_option maxRecDepth 100000 in
theorem wX5_addTerms_B10 {p : Program} {l : Launch} {e : Env} {s : State} {m : MethodId} {args : Array Value} {below : List Frame} {meth : Method} {c : Code} {G : GG} {ρ : Nat → Nat} {h0 hE hB : PH} {Q : State → Prop} {x0 : Nat} {x1 : Nat} {x2 : Int32} {x3 : Int32} (C : Cx G "PairSymbols$Operato\x72" cX5_addTerms 7 none "addTerms" p s m args meth c) {x4 : Int32} {h : PH} {H : Heap} {locs : List Loc} {cells slots : Nat} {ls : Array Slot} {r : (Int32) ⊕ (Unit)} (hf : (fX5_addTerms_b10 x0 x1 x2 x3 x4).1 h = some (r, hB)) (hX : Ext hB hE) (hW : Wd G ρ h0.length (sl h0) s.heap h H locs cells slots) (hl : lv_has ls 7 [(0, .ref (ρ x0)), (1, .ref (ρ x1)), (2, .int x2), (3, .int x3), (4, .int x4)]) (kc : ∀ y : Int32, r = .inl y → ∀ (H : Heap) (locs : List Loc) (c1 s1 : Nat) (ls : Array Slot), Wd G ρ h0.length (sl h0) s.heap hB H locs c1 s1 → lv_has ls 7 [(0, .ref (ρ x0)), (1, .ref (ρ x1)), (2, .int x2), (3, .int x3), (4, .int y)] → W p l e (RM 2 54 h0 hE) s m args below meth c H locs c1 s1 Q (F0 m 10 ls [])) (ke : ∀ z : Unit, r = .inr z → ∀ (H : Heap) (locs : List Loc) (c1 s1 : Nat) (ls : Array Slot), Wd G ρ h0.length (sl h0) s.heap hB H locs c1 s1 → lv_has ls 7 [(0, .ref (ρ x0)), (1, .ref (ρ x1)), (2, .int x2), (3, .int x3)] → W p l e (RM 2 54 h0 hE) s m args below meth c H locs c1 s1 Q (F0 m 83 ls [])) : W p l e (RM 2 54 h0 hE) s m args below meth c H locs cells slots Q (F0 m 10 ls []) := by
  have hx := C.1
  have hb := C.2.1
  unfold fX5_addTerms_b10 at hf
  refine lv_iload hx hb dX5_addTerms_10 (lv_at hl 4 rfl) ?_
  refine lv_iload_n hx hb dX5_addTerms_12 rfl (lv_at hl 2 rfl) ?_
  refine lv_iconst (v := 1) hx hb dX5_addTerms_13 (by decide) ?_
  refine lv_iadd hx hb dX5_addTerms_14 ?_
  refine lv_iload_n hx hb dX5_addTerms_15 rfl (lv_at hl 3 rfl) ?_
  refine lv_isub hx hb dX5_addTerms_16 ?_
  refine lv_icmp_gt (tgt := 83) hx hb dX5_addTerms_17 (by decide) (fun c2 => ?_) (fun c2 => ?_)
  · rw [if_pos c2] at hf
    obtain ⟨rfl, rfl⟩ := pp_some hf
    exact ke _ rfl _ _ _ _ _ hW (lv_sub hl [0, 1, 2, 3] rfl)
  · rw [if_neg c2] at hf
    refine lv_iconst (v := 0) hx hb dX5_addTerms_20 (by decide) ?_
    refine lv_istore (lv' := [(5, .int (0 : Int32)), (0, .ref (ρ x0)), (1, .ref (ρ x1)), (2, .int x2), (3, .int x3), (4, .int x4)]) hx hb dX5_addTerms_21 hl (by decide) rfl (fun ls hl => ?_)
    obtain ⟨z9, h9, e9, hf⟩ := pb_some hf
    refine wX5_addTerms_L23 C fu _ e9 ((pext hf).tr hX) hW (lv_sub hl [1, 2, 3, 4, 5, 0] rfl) (fun H locs c1 s1 ls hW hl => ?_)
    refine lv_iinc (v := (x4 + 1)) (lv' := [(4, .int (x4 + 1)), (0, .ref (ρ x0)), (1, .ref (ρ x1)), (2, .int x2), (3, .int x3)]) hx hb dX5_addTerms_77 hl (k := 4) rfl rfl (by decide) rfl (fun ls hl => ?_)
    refine lv_goto (tgt := 10) hx hb dX5_addTerms_80 (by decide) ?_
    obtain ⟨rfl, rfl⟩ := pp_some hf
    exact kc _ rfl _ _ _ _ _ hW (lv_sub hl [1, 2, 3, 4, 0] rfl)
set_option maxHeartbeats 4000000 in
theorem wX5_addTerms_L10 {p : Program} {l : Launch} {e : Env} {s : State} {m : MethodId} {args : Array Value} {below : List Frame} {meth : Method} {c : Code} {G : GG} {ρ : Nat → Nat} {h0 hE hB : PH} {Q : State → Prop} {x0 : Nat} {x1 : Nat} {x2 : Int32} {x3 : Int32} (C : Cx G "PairSymbols$Operato\x72" cX5_addTerms 7 none "addTerms" p s m args meth c) {z : (Unit)} (n : Nat) : ∀ (x : Int32) {h : PH} {H : Heap} {locs : List Loc} {cells slots : Nat} {ls : Array Slot}, (plo (fX5_addTerms_B10 x0 x1 x2 x3) n x).1 h = some (z, hB) → Ext hB hE → Wd G ρ h0.length (sl h0) s.heap h H locs cells slots → lv_has ls 7 [(0, .ref (ρ x0)), (1, .ref (ρ x1)), (2, .int x2), (3, .int x3), (4, .int x)] → (ke : ∀ (H : Heap) (locs : List Loc) (c1 s1 : Nat) (ls : Array Slot), Wd G ρ h0.length (sl h0) s.heap hB H locs c1 s1 → lv_has ls 7 [(0, .ref (ρ x0)), (1, .ref (ρ x1)), (2, .int x2), (3, .int x3)] → W p l e (RM 2 54 h0 hE) s m args below meth c H locs c1 s1 Q (F0 m 83 ls [])) → W p l e (RM 2 54 h0 hE) s m args below meth c H locs cells slots Q (F0 m 10 ls []) := by
  induction n with
  | zero =>
    intro x h H locs cells slots ls hf
    rw [plo_0] at hf
    exact (pf_no hf).elim
  | succ n ih =>
    intro x h H locs cells slots ls hf hX hW hl ke
    rw [plo_s] at hf
    obtain ⟨r, h1, e1, hf⟩ := pb_some hf
    unfold fX5_addTerms_B10 at e1
    rw [frI_eq] at e1
    refine wX5_addTerms_B10 C e1 ((pext hf).tr hX) hW hl (fun y hr H locs c1 s1 ls hW hl => ?_) (fun y hr H locs c1 s1 ls hW hl => ?_)
    · subst hr
      exact ih y hf hX hW hl ke
    · subst hr
      obtain ⟨rfl, rfl⟩ := pp_some hf
      exact ke H locs c1 s1 ls hW hl
set_option maxHeartbeats 4000000 in
set_option maxRecDepth 100000 in
theorem wX5_addTerms_B2 {p : Program} {l : Launch} {e : Env} {s : State} {m : MethodId} {args : Array Value} {below : List Frame} {meth : Method} {c : Code} {G : GG} {ρ : Nat → Nat} {h0 hE hB : PH} {Q : State → Prop} {x0 : Nat} {x1 : Nat} {x2 : Int32} (C : Cx G "PairSymbols$Operato\x72" cX5_addTerms 7 none "addTerms" p s m args meth c) {x3 : Int32} {h : PH} {H : Heap} {locs : List Loc} {cells slots : Nat} {ls : Array Slot} {r : (Int32) ⊕ (Unit)} (hf : (fX5_addTerms_b2 x0 x1 x2 x3).1 h = some (r, hB)) (hX : Ext hB hE) (hW : Wd G ρ h0.length (sl h0) s.heap h H locs cells slots) (hl : lv_has ls 7 [(0, .ref (ρ x0)), (1, .ref (ρ x1)), (2, .int x2), (3, .int x3)]) (kc : ∀ y : Int32, r = .inl y → ∀ (H : Heap) (locs : List Loc) (c1 s1 : Nat) (ls : Array Slot), Wd G ρ h0.length (sl h0) s.heap hB H locs c1 s1 → lv_has ls 7 [(0, .ref (ρ x0)), (1, .ref (ρ x1)), (2, .int x2), (3, .int y)] → W p l e (RM 2 54 h0 hE) s m args below meth c H locs c1 s1 Q (F0 m 2 ls [])) (ke : ∀ z : Unit, r = .inr z → ∀ (H : Heap) (locs : List Loc) (c1 s1 : Nat) (ls : Array Slot), Wd G ρ h0.length (sl h0) s.heap hB H locs c1 s1 → lv_has ls 7 [] → W p l e (RM 2 54 h0 hE) s m args below meth c H locs c1 s1 Q (F0 m 89 ls [])) : W p l e (RM 2 54 h0 hE) s m args below meth c H locs cells slots Q (F0 m 2 ls []) := by
  have hx := C.1
  have hb := C.2.1
  unfold fX5_addTerms_b2 at hf
  refine lv_iload_n hx hb dX5_addTerms_2 rfl (lv_at hl 3 rfl) ?_
  refine lv_iload_n hx hb dX5_addTerms_3 rfl (lv_at hl 2 rfl) ?_
  refine lv_icmp_gt (tgt := 89) hx hb dX5_addTerms_4 (by decide) (fun c1 => ?_) (fun c1 => ?_)
  · rw [if_pos c1] at hf
    obtain ⟨rfl, rfl⟩ := pp_some hf
    exact ke _ rfl _ _ _ _ _ hW (lv_sub hl [] rfl)
  · rw [if_neg c1] at hf
    refine lv_iconst (v := 1) hx hb dX5_addTerms_7 (by decide) ?_
    refine lv_istore (lv' := [(4, .int (1 : Int32)), (0, .ref (ρ x0)), (1, .ref (ρ x1)), (2, .int x2), (3, .int x3)]) hx hb dX5_addTerms_8 hl (by decide) rfl (fun ls hl => ?_)
    obtain ⟨z10, h10, e10, hf⟩ := pb_some hf
    refine wX5_addTerms_L10 C fu _ e10 ((pext hf).tr hX) hW (lv_sub hl [1, 2, 3, 4, 0] rfl) (fun H locs c1 s1 ls hW hl => ?_)
    refine lv_iinc (v := (x3 + 1)) (lv' := [(3, .int (x3 + 1)), (0, .ref (ρ x0)), (1, .ref (ρ x1)), (2, .int x2)]) hx hb dX5_addTerms_83 hl (k := 3) rfl rfl (by decide) rfl (fun ls hl => ?_)
    refine lv_goto (tgt := 2) hx hb dX5_addTerms_86 (by decide) ?_
    obtain ⟨rfl, rfl⟩ := pp_some hf
    exact kc _ rfl _ _ _ _ _ hW (lv_sub hl [1, 2, 3, 0] rfl)
set_option maxHeartbeats 4000000 in
theorem wX5_addTerms_L2 {p : Program} {l : Launch} {e : Env} {s : State} {m : MethodId} {args : Array Value} {below : List Frame} {meth : Method} {c : Code} {G : GG} {ρ : Nat → Nat} {h0 hE hB : PH} {Q : State → Prop} {x0 : Nat} {x1 : Nat} {x2 : Int32} (C : Cx G "PairSymbols$Operato\x72" cX5_addTerms 7 none "addTerms" p s m args meth c) {z : (Unit)} (n : Nat) : ∀ (x : Int32) {h : PH} {H : Heap} {locs : List Loc} {cells slots : Nat} {ls : Array Slot}, (plo (fX5_addTerms_B2 x0 x1 x2) n x).1 h = some (z, hB) → Ext hB hE → Wd G ρ h0.length (sl h0) s.heap h H locs cells slots → lv_has ls 7 [(0, .ref (ρ x0)), (1, .ref (ρ x1)), (2, .int x2), (3, .int x)] → (ke : ∀ (H : Heap) (locs : List Loc) (c1 s1 : Nat) (ls : Array Slot), Wd G ρ h0.length (sl h0) s.heap hB H locs c1 s1 → lv_has ls 7 [] → W p l e (RM 2 54 h0 hE) s m args below meth c H locs c1 s1 Q (F0 m 89 ls [])) → W p l e (RM 2 54 h0 hE) s m args below meth c H locs cells slots Q (F0 m 2 ls []) := by
  induction n with
  | zero =>
    intro x h H locs cells slots ls hf
    rw [plo_0] at hf
    exact (pf_no hf).elim
  | succ n ih =>
    intro x h H locs cells slots ls hf hX hW hl ke
    rw [plo_s] at hf
    obtain ⟨r, h1, e1, hf⟩ := pb_some hf
    unfold fX5_addTerms_B2 at e1
    rw [frI_eq] at e1
    refine wX5_addTerms_B2 C e1 ((pext hf).tr hX) hW hl (fun y hr H locs c1 s1 ls hW hl => ?_) (fun y hr H locs c1 s1 ls hW hl => ?_)
    · subst hr
      exact ih y hf hX hW hl ke
    · subst hr
      obtain ⟨rfl, rfl⟩ := pp_some hf
      exact ke H locs c1 s1 ls hW hl
set_option maxHeartbeats 4000000 in
set_option maxRecDepth 100000 in
theorem metX5_addTerms (l : Launch) (G : GG) (ρ : Nat → Nat) {z : Nat} {x0 : Nat} {x1 : Nat} {x2 : Int32} {h hE : PH} {v : Unit} (hf : (fX5_addTerms x0 x1 x2).1 h = some (v, hE)) : Met l yX5_addTerms (wsY yX5_addTerms cX5_addTerms 7 none) (RM 2 54 h hE) (va_Pc [.ref (ρ x0), .ref (ρ x1), .int x2] (PcB G ρ h z)) (QV G ρ hE h.length z) (DC h hE) (DS h hE) (Af ρ h.length z) := by
  refine met_start (by decide) (Nat.le_of_ble_eq_true rfl) ?_
  intro p e s m below meth c ls hz C hW hl
  subst hz
  have C : Cx G "PairSymbols$Operato\x72" cX5_addTerms 7 none "addTerms" p s m _ meth c := C
  have hx := C.1
  have hb := C.2.1
  have hX : Ext hE hE := Ext.rf hE
  have hl : lv_has ls 7 [(0, .ref (ρ x0)), (1, .ref (ρ x1)), (2, .int x2)] := hl
  have hW : Wd G ρ h.length (sl h) s.heap h s.heap [] 0 0 := hW
  unfold fX5_addTerms at hf
  obtain ⟨_, e0, hf⟩ := pb_rd (rd_chk _ _) hf
  refine lv_iconst (v := 1) hx hb dX5_addTerms_0 (by decide) ?_
  refine lv_istore_n (lv' := [(3, .int (1 : Int32)), (0, .ref (ρ x0)), (1, .ref (ρ x1)), (2, .int x2)]) hx hb dX5_addTerms_1 rfl hl (by decide) rfl (fun ls hl => ?_)
  obtain ⟨z11, h11, e11, hf⟩ := pb_some hf
  refine wX5_addTerms_L2 C fu _ e11 ((pext hf).tr hX) hW (lv_sub hl [1, 2, 3, 0] rfl) (fun H locs c1 s1 ls hW hl => ?_)
  obtain ⟨rfl, rfl⟩ := pp_some hf
  exact r_vret C hW dX5_addTerms_89

theorem dX5_restrictTo_0 : decode cX5_restrictTo 0 = .ok (.iconst 0, 1) := by decide +kernel
theorem dX5_restrictTo_1 : decode cX5_restrictTo 1 = .ok (.istore_n 2, 1) := by decide +kernel
theorem dX5_restrictTo_2 : decode cX5_restrictTo 2 = .ok (.iload_n 2, 1) := by decide +kernel
theorem dX5_restrictTo_3 : decode cX5_restrictTo 3 = .ok (.aload_n 0, 1) := by decide +kernel
theorem dX5_restrictTo_4 : decode cX5_restrictTo 4 = .ok (.getfield 40, 3) := by decide +kernel
theorem dX5_restrictTo_7 : decode cX5_restrictTo 7 = .ok (.arraylength, 1) := by decide +kernel
theorem dX5_restrictTo_8 : decode cX5_restrictTo 8 = .ok (.if_icmp .ge 84, 3) := by decide +kernel
theorem dX5_restrictTo_11 : decode cX5_restrictTo 11 = .ok (.aload_n 0, 1) := by decide +kernel
theorem dX5_restrictTo_12 : decode cX5_restrictTo 12 = .ok (.getfield 17, 3) := by decide +kernel
theorem dX5_restrictTo_15 : decode cX5_restrictTo 15 = .ok (.aload_n 1, 1) := by decide +kernel
theorem dX5_restrictTo_16 : decode cX5_restrictTo 16 = .ok (.getfield 34, 3) := by decide +kernel
theorem dX5_restrictTo_19 : decode cX5_restrictTo 19 = .ok (.iload_n 2, 1) := by decide +kernel
theorem dX5_restrictTo_20 : decode cX5_restrictTo 20 = .ok (.iaload, 1) := by decide +kernel
theorem dX5_restrictTo_21 : decode cX5_restrictTo 21 = .ok (.aaload, 1) := by decide +kernel
theorem dX5_restrictTo_22 : decode cX5_restrictTo 22 = .ok (.astore_n 3, 1) := by decide +kernel
theorem dX5_restrictTo_23 : decode cX5_restrictTo 23 = .ok (.iconst 0, 1) := by decide +kernel
theorem dX5_restrictTo_24 : decode cX5_restrictTo 24 = .ok (.istore 4, 2) := by decide +kernel
theorem dX5_restrictTo_26 : decode cX5_restrictTo 26 = .ok (.iload 4, 2) := by decide +kernel
theorem dX5_restrictTo_28 : decode cX5_restrictTo 28 = .ok (.aload_n 0, 1) := by decide +kernel
theorem dX5_restrictTo_29 : decode cX5_restrictTo 29 = .ok (.getfield 40, 3) := by decide +kernel
theorem dX5_restrictTo_32 : decode cX5_restrictTo 32 = .ok (.arraylength, 1) := by decide +kernel
theorem dX5_restrictTo_33 : decode cX5_restrictTo 33 = .ok (.if_icmp .ge 53, 3) := by decide +kernel
theorem dX5_restrictTo_36 : decode cX5_restrictTo 36 = .ok (.iconst 0, 1) := by decide +kernel
theorem dX5_restrictTo_37 : decode cX5_restrictTo 37 = .ok (.istore 5, 2) := by decide +kernel
theorem dX5_restrictTo_39 : decode cX5_restrictTo 39 = .ok (.iload 5, 2) := by decide +kernel
theorem dX5_restrictTo_41 : decode cX5_restrictTo 41 = .ok (.aload_n 3, 1) := by decide +kernel
theorem dX5_restrictTo_42 : decode cX5_restrictTo 42 = .ok (.arraylength, 1) := by decide +kernel
theorem dX5_restrictTo_43 : decode cX5_restrictTo 43 = .ok (.if_icmp .ge 37, 3) := by decide +kernel
theorem dX5_restrictTo_46 : decode cX5_restrictTo 46 = .ok (.aload_n 0, 1) := by decide +kernel
theorem dX5_restrictTo_47 : decode cX5_restrictTo 47 = .ok (.getfield 40, 3) := by decide +kernel
theorem dX5_restrictTo_50 : decode cX5_restrictTo 50 = .ok (.iload_n 2, 1) := by decide +kernel
theorem dX5_restrictTo_51 : decode cX5_restrictTo 51 = .ok (.aaload, 1) := by decide +kernel
theorem dX5_restrictTo_52 : decode cX5_restrictTo 52 = .ok (.iload 4, 2) := by decide +kernel
theorem dX5_restrictTo_54 : decode cX5_restrictTo 54 = .ok (.dup2, 1) := by decide +kernel
theorem dX5_restrictTo_55 : decode cX5_restrictTo 55 = .ok (.laload, 1) := by decide +kernel
theorem dX5_restrictTo_56 : decode cX5_restrictTo 56 = .ok (.aload_n 3, 1) := by decide +kernel
theorem dX5_restrictTo_57 : decode cX5_restrictTo 57 = .ok (.iload 5, 2) := by decide +kernel
theorem dX5_restrictTo_59 : decode cX5_restrictTo 59 = .ok (.laload, 1) := by decide +kernel
theorem dX5_restrictTo_60 : decode cX5_restrictTo 60 = .ok (.aload_n 1, 1) := by decide +kernel
theorem dX5_restrictTo_61 : decode cX5_restrictTo 61 = .ok (.getfield 66, 3) := by decide +kernel
theorem dX5_restrictTo_64 : decode cX5_restrictTo 64 = .ok (.iload 5, 2) := by decide +kernel
theorem dX5_restrictTo_66 : decode cX5_restrictTo 66 = .ok (.aaload, 1) := by decide +kernel
theorem dX5_restrictTo_67 : decode cX5_restrictTo 67 = .ok (.iload 4, 2) := by decide +kernel
theorem dX5_restrictTo_69 : decode cX5_restrictTo 69 = .ok (.iaload, 1) := by decide +kernel
theorem dX5_restrictTo_70 : decode cX5_restrictTo 70 = .ok (.i2l, 1) := by decide +kernel
theorem dX5_restrictTo_71 : decode cX5_restrictTo 71 = .ok (.lmul, 1) := by decide +kernel
theorem dX5_restrictTo_72 : decode cX5_restrictTo 72 = .ok (.ladd, 1) := by decide +kernel
theorem dX5_restrictTo_73 : decode cX5_restrictTo 73 = .ok (.lastore, 1) := by decide +kernel
theorem dX5_restrictTo_74 : decode cX5_restrictTo 74 = .ok (.iinc 5 1, 3) := by decide +kernel
theorem dX5_restrictTo_77 : decode cX5_restrictTo 77 = .ok (.goto (-38), 3) := by decide +kernel
theorem dX5_restrictTo_80 : decode cX5_restrictTo 80 = .ok (.iinc 4 1, 3) := by decide +kernel
theorem dX5_restrictTo_83 : decode cX5_restrictTo 83 = .ok (.goto (-57), 3) := by decide +kernel
theorem dX5_restrictTo_86 : decode cX5_restrictTo 86 = .ok (.iinc 2 1, 3) := by decide +kernel
theorem dX5_restrictTo_89 : decode cX5_restrictTo 89 = .ok (.goto (-87), 3) := by decide +kernel
theorem dX5_restrictTo_92 : decode cX5_restrictTo 92 = .ok (.return_, 1) := by decide +kernel
theorem kcX5_restrictTo : Cond.code yX5_restrictTo cX5_restrictTo 6 none ∈ tb := tq q_417 rfl
theorem knX5_restrictTo : Cond.initialized yX5_restrictTo.cls ∈ tb := (tq q_12 rfl)
theorem kdX5_restrictTo : yX5_restrictTo.cls ≠ "java/lang/invoke/MethodHandle" ∧ yX5_restrictTo.cls ≠ "java/lang/invoke/VarHandle" ∧ (parseMethodDescriptor yX5_restrictTo.desc).map (fun d => d.parameters.length) = some 1 := ⟨by decide +kernel, by decide +kernel, by decide +kernel⟩
theorem kiX5_restrictTo : Cond.instanceMethod yX5_restrictTo ∈ tb := (tq q_416 rfl)
theorem ksX5_restrictTo : Cond.selects yX5_restrictTo.cls yX5_restrictTo yX5_restrictTo ∈ tb := (tq z_14 rfl)
theorem tgX5_restrictTo {x0 : Nat} {x1 : Nat} {h : PH} {r : Unit × PH} (hf : (fX5_restrictTo x0 x1).1 h = some r) : ∃ n x, nth h x0 = some (4, n, x) := by
  obtain ⟨_, _, e, _⟩ := pb_some hf
  exact (chk_some e).2
set_option maxHeartbeats 4000000 in
set_option maxRecDepth 100000 in
theorem wX5_restrictTo_B39 {p : Program} {l : Launch} {e : Env} {s : State} {m : MethodId} {args : Array Value} {below : List Frame} {meth : Method} {c : Code} {G : GG} {ρ : Nat → Nat} {h0 hE hB : PH} {Q : State → Prop} {x0 : Nat} {x1 : Nat} {x2 : Int32} {x3 : Nat} {x4 : Int32} (C : Cx G "PairSymbols$Operato\x72" cX5_restrictTo 6 none "restrictTo" p s m args meth c) {x5 : Int32} {h : PH} {H : Heap} {locs : List Loc} {cells slots : Nat} {ls : Array Slot} {r : (Int32) ⊕ (Unit)} (hf : (fX5_restrictTo_b39 x0 x1 x2 x3 x4 x5).1 h = some (r, hB)) (hX : Ext hB hE) (hW : Wd G ρ h0.length (sl h0) s.heap h H locs cells slots) (hl : lv_has ls 6 [(0, .ref (ρ x0)), (1, .ref (ρ x1)), (2, .int x2), (3, .ref (ρ x3)), (4, .int x4), (5, .int x5)]) (kc : ∀ y : Int32, r = .inl y → ∀ (H : Heap) (locs : List Loc) (c1 s1 : Nat) (ls : Array Slot), Wd G ρ h0.length (sl h0) s.heap hB H locs c1 s1 → lv_has ls 6 [(0, .ref (ρ x0)), (1, .ref (ρ x1)), (2, .int x2), (3, .ref (ρ x3)), (4, .int x4), (5, .int y)] → W p l e (RM 0 0 h0 hE) s m args below meth c H locs c1 s1 Q (F0 m 39 ls [])) (ke : ∀ z : Unit, r = .inr z → ∀ (H : Heap) (locs : List Loc) (c1 s1 : Nat) (ls : Array Slot), Wd G ρ h0.length (sl h0) s.heap hB H locs c1 s1 → lv_has ls 6 [(0, .ref (ρ x0)), (1, .ref (ρ x1)), (2, .int x2), (3, .ref (ρ x3)), (4, .int x4)] → W p l e (RM 0 0 h0 hE) s m args below meth c H locs c1 s1 Q (F0 m 80 ls [])) : W p l e (RM 0 0 h0 hE) s m args below meth c H locs cells slots Q (F0 m 39 ls []) := by
  have hx := C.1
  have hb := C.2.1
  unfold fX5_restrictTo_b39 at hf
  refine lv_iload hx hb dX5_restrictTo_39 (lv_at hl 5 rfl) ?_
  refine lv_aload_n hx hb dX5_restrictTo_41 rfl (lv_at hl 3 rfl) ?_
  obtain ⟨v11, e11, hf⟩ := pb_rd (rd_aln _) hf
  refine r_alen C hW e11 dX5_restrictTo_42 ?_
  refine lv_icmp_ge (tgt := 80) hx hb dX5_restrictTo_43 (by decide) (fun c12 => ?_) (fun c12 => ?_)
  · rw [if_pos c12] at hf
    obtain ⟨rfl, rfl⟩ := pp_some hf
    exact ke _ rfl _ _ _ _ _ hW (lv_sub hl [0, 1, 2, 3, 4] rfl)
  · rw [if_neg c12] at hf
    refine lv_aload_n hx hb dX5_restrictTo_46 rfl (lv_at hl 0 rfl) ?_
    obtain ⟨v13, e13, hf⟩ := pb_rd (rd_gA _ _ _) hf
    refine r_gA C hW e13 flX5_40 rfl dX5_restrictTo_47 ?_
    refine lv_iload_n hx hb dX5_restrictTo_50 rfl (lv_at hl 2 rfl) ?_
    obtain ⟨v14, e14, hf⟩ := pb_rd (rd_lA _ _ _) hf
    refine r_aald C hW e14 (by decide) (by decide) dX5_restrictTo_51 ?_
    refine lv_iload hx hb dX5_restrictTo_52 (lv_at hl 4 rfl) ?_
    refine lv_dup2_11 hx hb dX5_restrictTo_54 rfl rfl ?_
    obtain ⟨v15, e15, hf⟩ := pb_rd (rd_lJ _ _ _) hf
    refine r_lald C hW e15 dX5_restrictTo_55 ?_
    refine lv_aload_n hx hb dX5_restrictTo_56 rfl (lv_at hl 3 rfl) ?_
    refine lv_iload hx hb dX5_restrictTo_57 (lv_at hl 5 rfl) ?_
    obtain ⟨v16, e16, hf⟩ := pb_rd (rd_lJ _ _ _) hf
    refine r_lald C hW e16 dX5_restrictTo_59 ?_
    refine lv_aload_n hx hb dX5_restrictTo_60 rfl (lv_at hl 1 rfl) ?_
    obtain ⟨v17, e17, hf⟩ := pb_rd (rd_gA _ _ _) hf
    refine r_gA C hW e17 flX5_66 rfl dX5_restrictTo_61 ?_
    refine lv_iload hx hb dX5_restrictTo_64 (lv_at hl 5 rfl) ?_
    obtain ⟨v18, e18, hf⟩ := pb_rd (rd_lA _ _ _) hf
    refine r_aald C hW e18 (by decide) (by decide) dX5_restrictTo_66 ?_
    refine lv_iload hx hb dX5_restrictTo_67 (lv_at hl 4 rfl) ?_
    obtain ⟨v19, e19, hf⟩ := pb_rd (rd_lI _ _ _) hf
    refine r_iald C hW e19 dX5_restrictTo_69 ?_
    refine lv_i2l (v := v19.toInt64) hx hb dX5_restrictTo_70 rfl ?_
    refine lv_lmul hx hb dX5_restrictTo_71 ?_
    refine lv_ladd hx hb dX5_restrictTo_72 ?_
    obtain ⟨_, h20, e20, hf⟩ := pb_some hf
    refine r_last C hW e20 dX5_restrictTo_73 (fun H locs hW => ?_)
    refine lv_iinc (v := (x5 + 1)) (lv' := [(5, .int (x5 + 1)), (0, .ref (ρ x0)), (1, .ref (ρ x1)), (2, .int x2), (3, .ref (ρ x3)), (4, .int x4)]) hx hb dX5_restrictTo_74 hl (k := 5) rfl rfl (by decide) rfl (fun ls hl => ?_)
    refine lv_goto (tgt := 39) hx hb dX5_restrictTo_77 (by decide) ?_
    obtain ⟨rfl, rfl⟩ := pp_some hf
    exact kc _ rfl _ _ _ _ _ hW (lv_sub hl [1, 2, 3, 4, 5, 0] rfl)
set_option maxHeartbeats 4000000 in
theorem wX5_restrictTo_L39 {p : Program} {l : Launch} {e : Env} {s : State} {m : MethodId} {args : Array Value} {below : List Frame} {meth : Method} {c : Code} {G : GG} {ρ : Nat → Nat} {h0 hE hB : PH} {Q : State → Prop} {x0 : Nat} {x1 : Nat} {x2 : Int32} {x3 : Nat} {x4 : Int32} (C : Cx G "PairSymbols$Operato\x72" cX5_restrictTo 6 none "restrictTo" p s m args meth c) {z : (Unit)} (n : Nat) : ∀ (x : Int32) {h : PH} {H : Heap} {locs : List Loc} {cells slots : Nat} {ls : Array Slot}, (plo (fX5_restrictTo_B39 x0 x1 x2 x3 x4) n x).1 h = some (z, hB) → Ext hB hE → Wd G ρ h0.length (sl h0) s.heap h H locs cells slots → lv_has ls 6 [(0, .ref (ρ x0)), (1, .ref (ρ x1)), (2, .int x2), (3, .ref (ρ x3)), (4, .int x4), (5, .int x)] → (ke : ∀ (H : Heap) (locs : List Loc) (c1 s1 : Nat) (ls : Array Slot), Wd G ρ h0.length (sl h0) s.heap hB H locs c1 s1 → lv_has ls 6 [(0, .ref (ρ x0)), (1, .ref (ρ x1)), (2, .int x2), (3, .ref (ρ x3)), (4, .int x4)] → W p l e (RM 0 0 h0 hE) s m args below meth c H locs c1 s1 Q (F0 m 80 ls [])) → W p l e (RM 0 0 h0 hE) s m args below meth c H locs cells slots Q (F0 m 39 ls []) := by
  induction n with
  | zero =>
    intro x h H locs cells slots ls hf
    rw [plo_0] at hf
    exact (pf_no hf).elim
  | succ n ih =>
    intro x h H locs cells slots ls hf hX hW hl ke
    rw [plo_s] at hf
    obtain ⟨r, h1, e1, hf⟩ := pb_some hf
    unfold fX5_restrictTo_B39 at e1
    rw [frI_eq] at e1
    refine wX5_restrictTo_B39 C e1 ((pext hf).tr hX) hW hl (fun y hr H locs c1 s1 ls hW hl => ?_) (fun y hr H locs c1 s1 ls hW hl => ?_)
    · subst hr
      exact ih y hf hX hW hl ke
    · subst hr
      obtain ⟨rfl, rfl⟩ := pp_some hf
      exact ke H locs c1 s1 ls hW hl
set_option maxHeartbeats 4000000 in
set_option maxRecDepth 100000 in
theorem wX5_restrictTo_B26 {p : Program} {l : Launch} {e : Env} {s : State} {m : MethodId} {args : Array Value} {below : List Frame} {meth : Method} {c : Code} {G : GG} {ρ : Nat → Nat} {h0 hE hB : PH} {Q : State → Prop} {x0 : Nat} {x1 : Nat} {x2 : Int32} {x3 : Nat} (C : Cx G "PairSymbols$Operato\x72" cX5_restrictTo 6 none "restrictTo" p s m args meth c) {x4 : Int32} {h : PH} {H : Heap} {locs : List Loc} {cells slots : Nat} {ls : Array Slot} {r : (Int32) ⊕ (Unit)} (hf : (fX5_restrictTo_b26 x0 x1 x2 x3 x4).1 h = some (r, hB)) (hX : Ext hB hE) (hW : Wd G ρ h0.length (sl h0) s.heap h H locs cells slots) (hl : lv_has ls 6 [(0, .ref (ρ x0)), (1, .ref (ρ x1)), (2, .int x2), (3, .ref (ρ x3)), (4, .int x4)]) (kc : ∀ y : Int32, r = .inl y → ∀ (H : Heap) (locs : List Loc) (c1 s1 : Nat) (ls : Array Slot), Wd G ρ h0.length (sl h0) s.heap hB H locs c1 s1 → lv_has ls 6 [(0, .ref (ρ x0)), (1, .ref (ρ x1)), (2, .int x2), (3, .ref (ρ x3)), (4, .int y)] → W p l e (RM 0 0 h0 hE) s m args below meth c H locs c1 s1 Q (F0 m 26 ls [])) (ke : ∀ z : Unit, r = .inr z → ∀ (H : Heap) (locs : List Loc) (c1 s1 : Nat) (ls : Array Slot), Wd G ρ h0.length (sl h0) s.heap hB H locs c1 s1 → lv_has ls 6 [(0, .ref (ρ x0)), (1, .ref (ρ x1)), (2, .int x2)] → W p l e (RM 0 0 h0 hE) s m args below meth c H locs c1 s1 Q (F0 m 86 ls [])) : W p l e (RM 0 0 h0 hE) s m args below meth c H locs cells slots Q (F0 m 26 ls []) := by
  have hx := C.1
  have hb := C.2.1
  unfold fX5_restrictTo_b26 at hf
  refine lv_iload hx hb dX5_restrictTo_26 (lv_at hl 4 rfl) ?_
  refine lv_aload_n hx hb dX5_restrictTo_28 rfl (lv_at hl 0 rfl) ?_
  obtain ⟨v8, e8, hf⟩ := pb_rd (rd_gA _ _ _) hf
  refine r_gA C hW e8 flX5_40 rfl dX5_restrictTo_29 ?_
  obtain ⟨v9, e9, hf⟩ := pb_rd (rd_aln _) hf
  refine r_alen C hW e9 dX5_restrictTo_32 ?_
  refine lv_icmp_ge (tgt := 86) hx hb dX5_restrictTo_33 (by decide) (fun c10 => ?_) (fun c10 => ?_)
  · rw [if_pos c10] at hf
    obtain ⟨rfl, rfl⟩ := pp_some hf
    exact ke _ rfl _ _ _ _ _ hW (lv_sub hl [0, 1, 2] rfl)
  · rw [if_neg c10] at hf
    refine lv_iconst (v := 0) hx hb dX5_restrictTo_36 (by decide) ?_
    refine lv_istore (lv' := [(5, .int (0 : Int32)), (0, .ref (ρ x0)), (1, .ref (ρ x1)), (2, .int x2), (3, .ref (ρ x3)), (4, .int x4)]) hx hb dX5_restrictTo_37 hl (by decide) rfl (fun ls hl => ?_)
    obtain ⟨z21, h21, e21, hf⟩ := pb_some hf
    refine wX5_restrictTo_L39 C fu _ e21 ((pext hf).tr hX) hW (lv_sub hl [1, 2, 3, 4, 5, 0] rfl) (fun H locs c1 s1 ls hW hl => ?_)
    refine lv_iinc (v := (x4 + 1)) (lv' := [(4, .int (x4 + 1)), (0, .ref (ρ x0)), (1, .ref (ρ x1)), (2, .int x2), (3, .ref (ρ x3))]) hx hb dX5_restrictTo_80 hl (k := 4) rfl rfl (by decide) rfl (fun ls hl => ?_)
    refine lv_goto (tgt := 26) hx hb dX5_restrictTo_83 (by decide) ?_
    obtain ⟨rfl, rfl⟩ := pp_some hf
    exact kc _ rfl _ _ _ _ _ hW (lv_sub hl [1, 2, 3, 4, 0] rfl)
set_option maxHeartbeats 4000000 in
theorem wX5_restrictTo_L26 {p : Program} {l : Launch} {e : Env} {s : State} {m : MethodId} {args : Array Value} {below : List Frame} {meth : Method} {c : Code} {G : GG} {ρ : Nat → Nat} {h0 hE hB : PH} {Q : State → Prop} {x0 : Nat} {x1 : Nat} {x2 : Int32} {x3 : Nat} (C : Cx G "PairSymbols$Operato\x72" cX5_restrictTo 6 none "restrictTo" p s m args meth c) {z : (Unit)} (n : Nat) : ∀ (x : Int32) {h : PH} {H : Heap} {locs : List Loc} {cells slots : Nat} {ls : Array Slot}, (plo (fX5_restrictTo_B26 x0 x1 x2 x3) n x).1 h = some (z, hB) → Ext hB hE → Wd G ρ h0.length (sl h0) s.heap h H locs cells slots → lv_has ls 6 [(0, .ref (ρ x0)), (1, .ref (ρ x1)), (2, .int x2), (3, .ref (ρ x3)), (4, .int x)] → (ke : ∀ (H : Heap) (locs : List Loc) (c1 s1 : Nat) (ls : Array Slot), Wd G ρ h0.length (sl h0) s.heap hB H locs c1 s1 → lv_has ls 6 [(0, .ref (ρ x0)), (1, .ref (ρ x1)), (2, .int x2)] → W p l e (RM 0 0 h0 hE) s m args below meth c H locs c1 s1 Q (F0 m 86 ls [])) → W p l e (RM 0 0 h0 hE) s m args below meth c H locs cells slots Q (F0 m 26 ls []) := by
  induction n with
  | zero =>
    intro x h H locs cells slots ls hf
    rw [plo_0] at hf
    exact (pf_no hf).elim
  | succ n ih =>
    intro x h H locs cells slots ls hf hX hW hl ke
    rw [plo_s] at hf
    obtain ⟨r, h1, e1, hf⟩ := pb_some hf
    unfold fX5_restrictTo_B26 at e1
    rw [frI_eq] at e1
    refine wX5_restrictTo_B26 C e1 ((pext hf).tr hX) hW hl (fun y hr H locs c1 s1 ls hW hl => ?_) (fun y hr H locs c1 s1 ls hW hl => ?_)
    · subst hr
      exact ih y hf hX hW hl ke
    · subst hr
      obtain ⟨rfl, rfl⟩ := pp_some hf
      exact ke H locs c1 s1 ls hW hl
set_option maxHeartbeats 4000000 in
set_option maxRecDepth 100000 in
theorem wX5_restrictTo_B2 {p : Program} {l : Launch} {e : Env} {s : State} {m : MethodId} {args : Array Value} {below : List Frame} {meth : Method} {c : Code} {G : GG} {ρ : Nat → Nat} {h0 hE hB : PH} {Q : State → Prop} {x0 : Nat} {x1 : Nat} (C : Cx G "PairSymbols$Operato\x72" cX5_restrictTo 6 none "restrictTo" p s m args meth c) {x2 : Int32} {h : PH} {H : Heap} {locs : List Loc} {cells slots : Nat} {ls : Array Slot} {r : (Int32) ⊕ (Unit)} (hf : (fX5_restrictTo_b2 x0 x1 x2).1 h = some (r, hB)) (hX : Ext hB hE) (hW : Wd G ρ h0.length (sl h0) s.heap h H locs cells slots) (hl : lv_has ls 6 [(0, .ref (ρ x0)), (1, .ref (ρ x1)), (2, .int x2)]) (kc : ∀ y : Int32, r = .inl y → ∀ (H : Heap) (locs : List Loc) (c1 s1 : Nat) (ls : Array Slot), Wd G ρ h0.length (sl h0) s.heap hB H locs c1 s1 → lv_has ls 6 [(0, .ref (ρ x0)), (1, .ref (ρ x1)), (2, .int y)] → W p l e (RM 0 0 h0 hE) s m args below meth c H locs c1 s1 Q (F0 m 2 ls [])) (ke : ∀ z : Unit, r = .inr z → ∀ (H : Heap) (locs : List Loc) (c1 s1 : Nat) (ls : Array Slot), Wd G ρ h0.length (sl h0) s.heap hB H locs c1 s1 → lv_has ls 6 [] → W p l e (RM 0 0 h0 hE) s m args below meth c H locs c1 s1 Q (F0 m 92 ls [])) : W p l e (RM 0 0 h0 hE) s m args below meth c H locs cells slots Q (F0 m 2 ls []) := by
  have hx := C.1
  have hb := C.2.1
  unfold fX5_restrictTo_b2 at hf
  refine lv_iload_n hx hb dX5_restrictTo_2 rfl (lv_at hl 2 rfl) ?_
  refine lv_aload_n hx hb dX5_restrictTo_3 rfl (lv_at hl 0 rfl) ?_
  obtain ⟨v1, e1, hf⟩ := pb_rd (rd_gA _ _ _) hf
  refine r_gA C hW e1 flX5_40 rfl dX5_restrictTo_4 ?_
  obtain ⟨v2, e2, hf⟩ := pb_rd (rd_aln _) hf
  refine r_alen C hW e2 dX5_restrictTo_7 ?_
  refine lv_icmp_ge (tgt := 92) hx hb dX5_restrictTo_8 (by decide) (fun c3 => ?_) (fun c3 => ?_)
  · rw [if_pos c3] at hf
    obtain ⟨rfl, rfl⟩ := pp_some hf
    exact ke _ rfl _ _ _ _ _ hW (lv_sub hl [] rfl)
  · rw [if_neg c3] at hf
    refine lv_aload_n hx hb dX5_restrictTo_11 rfl (lv_at hl 0 rfl) ?_
    obtain ⟨v4, e4, hf⟩ := pb_rd (rd_gA _ _ _) hf
    refine r_gA C hW e4 flX5_17 rfl dX5_restrictTo_12 ?_
    refine lv_aload_n hx hb dX5_restrictTo_15 rfl (lv_at hl 1 rfl) ?_
    obtain ⟨v5, e5, hf⟩ := pb_rd (rd_gA _ _ _) hf
    refine r_gA C hW e5 flX5_34 rfl dX5_restrictTo_16 ?_
    refine lv_iload_n hx hb dX5_restrictTo_19 rfl (lv_at hl 2 rfl) ?_
    obtain ⟨v6, e6, hf⟩ := pb_rd (rd_lI _ _ _) hf
    refine r_iald C hW e6 dX5_restrictTo_20 ?_
    obtain ⟨v7, e7, hf⟩ := pb_rd (rd_lA _ _ _) hf
    refine r_aald C hW e7 (by decide) (by decide) dX5_restrictTo_21 ?_
    refine lv_astore_n (lv' := [(3, .ref (ρ v7)), (0, .ref (ρ x0)), (1, .ref (ρ x1)), (2, .int x2)]) hx hb dX5_restrictTo_22 rfl hl (by decide) rfl (fun ls hl => ?_)
    refine lv_iconst (v := 0) hx hb dX5_restrictTo_23 (by decide) ?_
    refine lv_istore (lv' := [(4, .int (0 : Int32)), (3, .ref (ρ v7)), (0, .ref (ρ x0)), (1, .ref (ρ x1)), (2, .int x2)]) hx hb dX5_restrictTo_24 hl (by decide) rfl (fun ls hl => ?_)
    obtain ⟨z22, h22, e22, hf⟩ := pb_some hf
    refine wX5_restrictTo_L26 C fu _ e22 ((pext hf).tr hX) hW (lv_sub hl [2, 3, 4, 1, 0] rfl) (fun H locs c1 s1 ls hW hl => ?_)
    refine lv_iinc (v := (x2 + 1)) (lv' := [(2, .int (x2 + 1)), (0, .ref (ρ x0)), (1, .ref (ρ x1))]) hx hb dX5_restrictTo_86 hl (k := 2) rfl rfl (by decide) rfl (fun ls hl => ?_)
    refine lv_goto (tgt := 2) hx hb dX5_restrictTo_89 (by decide) ?_
    obtain ⟨rfl, rfl⟩ := pp_some hf
    exact kc _ rfl _ _ _ _ _ hW (lv_sub hl [1, 2, 0] rfl)
set_option maxHeartbeats 4000000 in
theorem wX5_restrictTo_L2 {p : Program} {l : Launch} {e : Env} {s : State} {m : MethodId} {args : Array Value} {below : List Frame} {meth : Method} {c : Code} {G : GG} {ρ : Nat → Nat} {h0 hE hB : PH} {Q : State → Prop} {x0 : Nat} {x1 : Nat} (C : Cx G "PairSymbols$Operato\x72" cX5_restrictTo 6 none "restrictTo" p s m args meth c) {z : (Unit)} (n : Nat) : ∀ (x : Int32) {h : PH} {H : Heap} {locs : List Loc} {cells slots : Nat} {ls : Array Slot}, (plo (fX5_restrictTo_B2 x0 x1) n x).1 h = some (z, hB) → Ext hB hE → Wd G ρ h0.length (sl h0) s.heap h H locs cells slots → lv_has ls 6 [(0, .ref (ρ x0)), (1, .ref (ρ x1)), (2, .int x)] → (ke : ∀ (H : Heap) (locs : List Loc) (c1 s1 : Nat) (ls : Array Slot), Wd G ρ h0.length (sl h0) s.heap hB H locs c1 s1 → lv_has ls 6 [] → W p l e (RM 0 0 h0 hE) s m args below meth c H locs c1 s1 Q (F0 m 92 ls [])) → W p l e (RM 0 0 h0 hE) s m args below meth c H locs cells slots Q (F0 m 2 ls []) := by
  induction n with
  | zero =>
    intro x h H locs cells slots ls hf
    rw [plo_0] at hf
    exact (pf_no hf).elim
  | succ n ih =>
    intro x h H locs cells slots ls hf hX hW hl ke
    rw [plo_s] at hf
    obtain ⟨r, h1, e1, hf⟩ := pb_some hf
    unfold fX5_restrictTo_B2 at e1
    rw [frI_eq] at e1
    refine wX5_restrictTo_B2 C e1 ((pext hf).tr hX) hW hl (fun y hr H locs c1 s1 ls hW hl => ?_) (fun y hr H locs c1 s1 ls hW hl => ?_)
    · subst hr
      exact ih y hf hX hW hl ke
    · subst hr
      obtain ⟨rfl, rfl⟩ := pp_some hf
      exact ke H locs c1 s1 ls hW hl
set_option maxHeartbeats 4000000 in
set_option maxRecDepth 100000 in
theorem metX5_restrictTo (l : Launch) (G : GG) (ρ : Nat → Nat) {z : Nat} {x0 : Nat} {x1 : Nat} {h hE : PH} {v : Unit} (hf : (fX5_restrictTo x0 x1).1 h = some (v, hE)) : Met l yX5_restrictTo (wsY yX5_restrictTo cX5_restrictTo 6 none) (RM 0 0 h hE) (va_Pc [.ref (ρ x0), .ref (ρ x1)] (PcB G ρ h z)) (QV G ρ hE h.length z) (DC h hE) (DS h hE) (Af ρ h.length z) := by
  refine met_start (by decide) (Nat.le_of_ble_eq_true rfl) ?_
  intro p e s m below meth c ls hz C hW hl
  subst hz
  have C : Cx G "PairSymbols$Operato\x72" cX5_restrictTo 6 none "restrictTo" p s m _ meth c := C
  have hx := C.1
  have hb := C.2.1
  have hX : Ext hE hE := Ext.rf hE
  have hl : lv_has ls 6 [(0, .ref (ρ x0)), (1, .ref (ρ x1))] := hl
  have hW : Wd G ρ h.length (sl h) s.heap h s.heap [] 0 0 := hW
  unfold fX5_restrictTo at hf
  obtain ⟨_, e0, hf⟩ := pb_rd (rd_chk _ _) hf
  refine lv_iconst (v := 0) hx hb dX5_restrictTo_0 (by decide) ?_
  refine lv_istore_n (lv' := [(2, .int (0 : Int32)), (0, .ref (ρ x0)), (1, .ref (ρ x1))]) hx hb dX5_restrictTo_1 rfl hl (by decide) rfl (fun ls hl => ?_)
  obtain ⟨z23, h23, e23, hf⟩ := pb_some hf
  refine wX5_restrictTo_L2 C fu _ e23 ((pext hf).tr hX) hW (lv_sub hl [1, 2, 0] rfl) (fun H locs c1 s1 ls hW hl => ?_)
  obtain ⟨rfl, rfl⟩ := pp_some hf
  exact r_vret C hW dX5_restrictTo_92

theorem dX5_init_0 : decode cX5_init 0 = .ok (.aload_n 0, 1) := by decide +kernel
theorem dX5_init_1 : decode cX5_init 1 = .ok (.invokespecial 3, 3) := by decide +kernel
theorem dX5_init_4 : decode cX5_init 4 = .ok (.aload_n 0, 1) := by decide +kernel
theorem dX5_init_5 : decode cX5_init 5 = .ok (.aload_n 1, 1) := by decide +kernel
theorem dX5_init_6 : decode cX5_init 6 = .ok (.getfield 9, 3) := by decide +kernel
theorem dX5_init_9 : decode cX5_init 9 = .ok (.aload_n 1, 1) := by decide +kernel
theorem dX5_init_10 : decode cX5_init 10 = .ok (.getfield 9, 3) := by decide +kernel
theorem dX5_init_13 : decode cX5_init 13 = .ok (.multianewarray 15 2, 4) := by decide +kernel
theorem dX5_init_17 : decode cX5_init 17 = .ok (.putfield 17, 3) := by decide +kernel
theorem dX5_init_20 : decode cX5_init 20 = .ok (.aload_n 0, 1) := by decide +kernel
theorem dX5_init_21 : decode cX5_init 21 = .ok (.aload_n 1, 1) := by decide +kernel
theorem dX5_init_22 : decode cX5_init 22 = .ok (.getfield 9, 3) := by decide +kernel
theorem dX5_init_25 : decode cX5_init 25 = .ok (.newarray .long, 2) := by decide +kernel
theorem dX5_init_27 : decode cX5_init 27 = .ok (.putfield 22, 3) := by decide +kernel
theorem dX5_init_30 : decode cX5_init 30 = .ok (.aload_n 0, 1) := by decide +kernel
theorem dX5_init_31 : decode cX5_init 31 = .ok (.aload_n 1, 1) := by decide +kernel
theorem dX5_init_32 : decode cX5_init 32 = .ok (.iload_n 2, 1) := by decide +kernel
theorem dX5_init_33 : decode cX5_init 33 = .ok (.invokevirtual 26, 3) := by decide +kernel
theorem dX5_init_36 : decode cX5_init 36 = .ok (.aload_n 1, 1) := by decide +kernel
theorem dX5_init_37 : decode cX5_init 37 = .ok (.getfield 30, 3) := by decide +kernel
theorem dX5_init_40 : decode cX5_init 40 = .ok (.getfield 34, 3) := by decide +kernel
theorem dX5_init_43 : decode cX5_init 43 = .ok (.arraylength, 1) := by decide +kernel
theorem dX5_init_44 : decode cX5_init 44 = .ok (.istore_n 3, 1) := by decide +kernel
theorem dX5_init_45 : decode cX5_init 45 = .ok (.aload_n 0, 1) := by decide +kernel
theorem dX5_init_46 : decode cX5_init 46 = .ok (.iload_n 3, 1) := by decide +kernel
theorem dX5_init_47 : decode cX5_init 47 = .ok (.iload_n 3, 1) := by decide +kernel
theorem dX5_init_48 : decode cX5_init 48 = .ok (.multianewarray 15 2, 4) := by decide +kernel
theorem dX5_init_52 : decode cX5_init 52 = .ok (.putfield 40, 3) := by decide +kernel
theorem dX5_init_55 : decode cX5_init 55 = .ok (.aload_n 0, 1) := by decide +kernel
theorem dX5_init_56 : decode cX5_init 56 = .ok (.aload_n 1, 1) := by decide +kernel
theorem dX5_init_57 : decode cX5_init 57 = .ok (.getfield 30, 3) := by decide +kernel
theorem dX5_init_60 : decode cX5_init 60 = .ok (.invokevirtual 43, 3) := by decide +kernel
theorem dX5_init_63 : decode cX5_init 63 = .ok (.return_, 1) := by decide +kernel
theorem kcX5_init : Cond.code yX5_init cX5_init 4 none ∈ tb := tq q_401 rfl
theorem knX5_init : Cond.initialized yX5_init.cls ∈ tb := (tq q_12 rfl)
theorem kdX5_init : yX5_init.cls ≠ "java/lang/invoke/MethodHandle" ∧ yX5_init.cls ≠ "java/lang/invoke/VarHandle" ∧ (parseMethodDescriptor yX5_init.desc).map (fun d => d.parameters.length) = some 2 := ⟨by decide +kernel, by decide +kernel, by decide +kernel⟩
theorem kiX5_init : Cond.instanceMethod yX5_init ∈ tb := (tq q_400 rfl)
theorem tgX5_init {x0 : Nat} {x1 : Nat} {x2 : Int32} {h : PH} {r : Unit × PH} (hf : (fX5_init x0 x1 x2).1 h = some r) : ∃ n x, nth h x0 = some (4, n, x) := by
  obtain ⟨_, _, e, _⟩ := pb_some hf
  exact (chk_some e).2
set_option maxHeartbeats 4000000 in
set_option maxRecDepth 100000 in
theorem metX5_init (l : Launch) (G : GG) (ρ : Nat → Nat) {z : Nat} {x0 : Nat} {x1 : Nat} {x2 : Int32} {h hE : PH} {v : Unit} (hf : (fX5_init x0 x1 x2).1 h = some (v, hE)) : Met l yX5_init (wsY yX5_init cX5_init 4 none) (RM 3 80 h hE) (va_Pc [.ref (ρ x0), .ref (ρ x1), .int x2] (PcB G ρ h z)) (QV G ρ hE h.length z) (DC h hE) (DS h hE) (Af ρ h.length z) := by
  refine met_start (by decide) (Nat.le_of_ble_eq_true rfl) ?_
  intro p e s m below meth c ls hz C hW hl
  subst hz
  have C : Cx G "PairSymbols$Operato\x72" cX5_init 4 none "<init>" p s m _ meth c := C
  have hx := C.1
  have hb := C.2.1
  have hX : Ext hE hE := Ext.rf hE
  have hl : lv_has ls 4 [(0, .ref (ρ x0)), (1, .ref (ρ x1)), (2, .int x2)] := hl
  have hW : Wd G ρ h.length (sl h) s.heap h s.heap [] 0 0 := hW
  unfold fX5_init at hf
  obtain ⟨_, e0, hf⟩ := pb_rd (rd_chk _ _) hf
  refine lv_aload_n hx hb dX5_init_0 rfl (lv_at hl 0 rfl) ?_
  refine r_obj C (tq q_402 rfl) hl.1 (Nat.le_of_ble_eq_true rfl) (Nat.le_of_ble_eq_true rfl) (Nat.le_of_ble_eq_true rfl) (tq q_21 rfl) (tq q_22 rfl) dX5_init_1 ?_
  refine lv_aload_n hx hb dX5_init_4 rfl (lv_at hl 0 rfl) ?_
  refine lv_aload_n hx hb dX5_init_5 rfl (lv_at hl 1 rfl) ?_
  obtain ⟨v1, e1, hf⟩ := pb_rd (rd_gI _ _ _) hf
  refine r_gI C hW e1 flX5_9 rfl dX5_init_6 ?_
  refine lv_aload_n hx hb dX5_init_9 rfl (lv_at hl 1 rfl) ?_
  obtain ⟨v2, e2, hf⟩ := pb_rd (rd_gI _ _ _) hf
  refine r_gI C hW e2 flX5_9 rfl dX5_init_10 ?_
  obtain ⟨v3, h3, e3, hf⟩ := pb_some hf
  refine r_mnaJ C hW e3 (tq q_403 rfl) (tq q_404 rfl) (tq q_220 rfl) (room_of hW (pext e3) ((pext hf).tr hX)) dX5_init_13 (fun H locs c1 s1 hW => ?_)
  obtain ⟨_, h4, e4, hf⟩ := pb_some hf
  refine r_sA C hW e4 flX5_17 (Or.inr ⟨rfl, _, rfl, rfl⟩) rfl dX5_init_17 (fun H locs hW => ?_)
  refine lv_aload_n hx hb dX5_init_20 rfl (lv_at hl 0 rfl) ?_
  refine lv_aload_n hx hb dX5_init_21 rfl (lv_at hl 1 rfl) ?_
  obtain ⟨v5, e5, hf⟩ := pb_rd (rd_gI _ _ _) hf
  refine r_gI C hW e5 flX5_9 rfl dX5_init_22 ?_
  obtain ⟨v6, h6, e6, hf⟩ := pb_some hf
  refine r_newa (t0 := 2) C hW .long e6 (by decide) rfl rfl (fun _ => rfl) (by decide) (fun q => q) (tq q_220 rfl) (room_of hW (pext e6) ((pext hf).tr hX)) dX5_init_25 (fun H c1 s1 hW => ?_)
  obtain ⟨_, h7, e7, hf⟩ := pb_some hf
  refine r_sA C hW e7 flX5_22 (Or.inr ⟨rfl, _, rfl, rfl⟩) rfl dX5_init_27 (fun H locs hW => ?_)
  refine lv_aload_n hx hb dX5_init_30 rfl (lv_at hl 0 rfl) ?_
  refine lv_aload_n hx hb dX5_init_31 rfl (lv_at hl 1 rfl) ?_
  refine lv_iload_n hx hb dX5_init_32 rfl (lv_at hl 2 rfl) ?_
  obtain ⟨_, h8, e8, hf⟩ := pb_some hf
  obtain ⟨_, _, t9⟩ := tgX5_addTerms e8
  refine r_callv hW (pext e8) (run_V (b := x0) (As := [.ref (ρ x1), .int x2]) (rest := []) C hW (metX5_addTerms l G ρ e8) ⟨rfl, rfl⟩ kcX5_addTerms (tq q_405 rfl) kiX5_addTerms ksX5_addTerms knX5_addTerms kdX5_addTerms t9 rfl rfl ⟨Nat.le_of_ble_eq_true rfl, Nat.le_of_ble_eq_true rfl⟩ hl.1 (Nat.le_of_ble_eq_true rfl) (room_of hW (pext e8) ((pext hf).tr hX)) dX5_init_33 rfl) (fun H locs c1 s1 hW => ?_)
  refine lv_aload_n hx hb dX5_init_36 rfl (lv_at hl 1 rfl) ?_
  obtain ⟨v10, e10, hf⟩ := pb_rd (rd_gA _ _ _) hf
  refine r_gA C hW e10 flX5_30 rfl dX5_init_37 ?_
  obtain ⟨v11, e11, hf⟩ := pb_rd (rd_gA _ _ _) hf
  refine r_gA C hW e11 flX5_34 rfl dX5_init_40 ?_
  obtain ⟨v12, e12, hf⟩ := pb_rd (rd_aln _) hf
  refine r_alen C hW e12 dX5_init_43 ?_
  refine lv_istore_n (lv' := [(3, .int v12), (0, .ref (ρ x0)), (1, .ref (ρ x1)), (2, .int x2)]) hx hb dX5_init_44 rfl hl (by decide) rfl (fun ls hl => ?_)
  refine lv_aload_n hx hb dX5_init_45 rfl (lv_at hl 1 rfl) ?_
  refine lv_iload_n hx hb dX5_init_46 rfl (lv_at hl 0 rfl) ?_
  refine lv_iload_n hx hb dX5_init_47 rfl (lv_at hl 0 rfl) ?_
  obtain ⟨v13, h13, e13, hf⟩ := pb_some hf
  refine r_mnaJ C hW e13 (tq q_403 rfl) (tq q_404 rfl) (tq q_220 rfl) (room_of hW (pext e13) ((pext hf).tr hX)) dX5_init_48 (fun H locs c1 s1 hW => ?_)
  obtain ⟨_, h14, e14, hf⟩ := pb_some hf
  refine r_sA C hW e14 flX5_40 (Or.inr ⟨rfl, _, rfl, rfl⟩) rfl dX5_init_52 (fun H locs hW => ?_)
  refine lv_aload_n hx hb dX5_init_55 rfl (lv_at hl 1 rfl) ?_
  refine lv_aload_n hx hb dX5_init_56 rfl (lv_at hl 2 rfl) ?_
  obtain ⟨v15, e15, hf⟩ := pb_rd (rd_gA _ _ _) hf
  refine r_gA C hW e15 flX5_30 rfl dX5_init_57 ?_
  obtain ⟨_, h16, e16, hf⟩ := pb_some hf
  obtain ⟨_, _, t17⟩ := tgX5_restrictTo e16
  refine r_callv hW (pext e16) (run_V (b := x0) (As := [.ref (ρ v15)]) (rest := []) C hW (metX5_restrictTo l G ρ e16) ⟨rfl, rfl⟩ kcX5_restrictTo (tq q_414 rfl) kiX5_restrictTo ksX5_restrictTo knX5_restrictTo kdX5_restrictTo t17 rfl rfl ⟨Nat.le_of_ble_eq_true rfl, Nat.le_of_ble_eq_true rfl⟩ hl.1 (Nat.le_of_ble_eq_true rfl) (room_of hW (pext e16) ((pext hf).tr hX)) dX5_init_60 rfl) (fun H locs c1 s1 hW => ?_)
  obtain ⟨rfl, rfl⟩ := pp_some hf
  exact r_vret C hW dX5_init_63

theorem dX3_operatorFor_0 : decode cX3_operatorFor 0 = .ok (.iload_n 1, 1) := by decide +kernel
theorem dX3_operatorFor_1 : decode cX3_operatorFor 1 = .ok (.iconst 1, 1) := by decide +kernel
theorem dX3_operatorFor_2 : decode cX3_operatorFor 2 = .ok (.bipush 7, 2) := by decide +kernel
theorem dX3_operatorFor_4 : decode cX3_operatorFor 4 = .ok (.invokestatic 127, 3) := by decide +kernel
theorem dX3_operatorFor_7 : decode cX3_operatorFor 7 = .ok (.ifCond .eq 15, 3) := by decide +kernel
theorem dX3_operatorFor_10 : decode cX3_operatorFor 10 = .ok (.iload_n 1, 1) := by decide +kernel
theorem dX3_operatorFor_11 : decode cX3_operatorFor 11 = .ok (.aload_n 0, 1) := by decide +kernel
theorem dX3_operatorFor_12 : decode cX3_operatorFor 12 = .ok (.getfield 9, 3) := by decide +kernel
theorem dX3_operatorFor_15 : decode cX3_operatorFor 15 = .ok (.invokestatic 109, 3) := by decide +kernel
theorem dX3_operatorFor_18 : decode cX3_operatorFor 18 = .ok (.iconst 1, 1) := by decide +kernel
theorem dX3_operatorFor_19 : decode cX3_operatorFor 19 = .ok (.if_icmp .eq 5, 3) := by decide +kernel
theorem dX3_operatorFor_22 : decode cX3_operatorFor 22 = .ok (.aconst_null, 1) := by decide +kernel
theorem dX3_operatorFor_23 : decode cX3_operatorFor 23 = .ok (.areturn, 1) := by decide +kernel
theorem dX3_operatorFor_24 : decode cX3_operatorFor 24 = .ok (.aload_n 0, 1) := by decide +kernel
theorem dX3_operatorFor_25 : decode cX3_operatorFor 25 = .ok (.getfield 105, 3) := by decide +kernel
theorem dX3_operatorFor_28 : decode cX3_operatorFor 28 = .ok (.iload_n 1, 1) := by decide +kernel
theorem dX3_operatorFor_29 : decode cX3_operatorFor 29 = .ok (.aaload, 1) := by decide +kernel
theorem dX3_operatorFor_30 : decode cX3_operatorFor 30 = .ok (.astore_n 2, 1) := by decide +kernel
theorem dX3_operatorFor_31 : decode cX3_operatorFor 31 = .ok (.aload_n 2, 1) := by decide +kernel
theorem dX3_operatorFor_32 : decode cX3_operatorFor 32 = .ok (.ifnonnull 20, 3) := by decide +kernel
theorem dX3_operatorFor_35 : decode cX3_operatorFor 35 = .ok (.new 103, 3) := by decide +kernel
theorem dX3_operatorFor_38 : decode cX3_operatorFor 38 = .ok (.dup, 1) := by decide +kernel
theorem dX3_operatorFor_39 : decode cX3_operatorFor 39 = .ok (.aload_n 0, 1) := by decide +kernel
theorem dX3_operatorFor_40 : decode cX3_operatorFor 40 = .ok (.iload_n 1, 1) := by decide +kernel
theorem dX3_operatorFor_41 : decode cX3_operatorFor 41 = .ok (.invokespecial 131, 3) := by decide +kernel
theorem dX3_operatorFor_44 : decode cX3_operatorFor 44 = .ok (.astore_n 2, 1) := by decide +kernel
theorem dX3_operatorFor_45 : decode cX3_operatorFor 45 = .ok (.aload_n 0, 1) := by decide +kernel
theorem dX3_operatorFor_46 : decode cX3_operatorFor 46 = .ok (.getfield 105, 3) := by decide +kernel
theorem dX3_operatorFor_49 : decode cX3_operatorFor 49 = .ok (.iload_n 1, 1) := by decide +kernel
theorem dX3_operatorFor_50 : decode cX3_operatorFor 50 = .ok (.aload_n 2, 1) := by decide +kernel
theorem dX3_operatorFor_51 : decode cX3_operatorFor 51 = .ok (.aastore, 1) := by decide +kernel
theorem dX3_operatorFor_52 : decode cX3_operatorFor 52 = .ok (.aload_n 2, 1) := by decide +kernel
theorem dX3_operatorFor_53 : decode cX3_operatorFor 53 = .ok (.areturn, 1) := by decide +kernel
theorem kcX3_operatorFor : Cond.code yX3_operatorFor cX3_operatorFor 3 (some (.object "PairSymbols$Operato\x72")) ∈ tb := tq q_396 rfl
theorem knX3_operatorFor : Cond.initialized yX3_operatorFor.cls ∈ tb := (tq q_2 rfl)
theorem kdX3_operatorFor : yX3_operatorFor.cls ≠ "java/lang/invoke/MethodHandle" ∧ yX3_operatorFor.cls ≠ "java/lang/invoke/VarHandle" ∧ (parseMethodDescriptor yX3_operatorFor.desc).map (fun d => d.parameters.length) = some 1 := ⟨by decide +kernel, by decide +kernel, by decide +kernel⟩
theorem kiX3_operatorFor : Cond.instanceMethod yX3_operatorFor ∈ tb := (tq q_394 rfl)
theorem ksX3_operatorFor : Cond.selects yX3_operatorFor.cls yX3_operatorFor yX3_operatorFor ∈ tb := (tq q_395 rfl)
theorem tgX3_operatorFor {x0 : Nat} {x1 : Int32} {h : PH} {r : (Option Nat) × PH} (hf : (fX3_operatorFor x0 x1).1 h = some r) : ∃ n x, nth h x0 = some (3, n, x) := by
  obtain ⟨_, _, e, _⟩ := pb_some hf
  exact (chk_some e).2
set_option maxHeartbeats 4000000 in
set_option maxRecDepth 100000 in
theorem metX3_operatorFor (l : Launch) (G : GG) (ρ : Nat → Nat) {z : Nat} {x0 : Nat} {x1 : Int32} {h hE : PH} {v : Option Nat} (hf : (fX3_operatorFor x0 x1).1 h = some (v, hE)) : Met l yX3_operatorFor (wsY yX3_operatorFor cX3_operatorFor 3 (some (.object "PairSymbols$Operato\x72"))) (RM 4 103 h hE) (va_Pc [.ref (ρ x0), .int x1] (PcB G ρ h z)) (QN G ρ v hE h.length z) (DC h hE) (DS h hE) (Af ρ h.length z) := by
  refine met_start (by decide) (Nat.le_of_ble_eq_true rfl) ?_
  intro p e s m below meth c ls hz C hW hl
  subst hz
  have C : Cx G "PairSymbols$Level" cX3_operatorFor 3 (some (.object "PairSymbols$Operato\x72")) "operatorFo\x72" p s m _ meth c := C
  have hx := C.1
  have hb := C.2.1
  have hX : Ext hE hE := Ext.rf hE
  have hl : lv_has ls 3 [(0, .ref (ρ x0)), (1, .int x1)] := hl
  have hW : Wd G ρ h.length (sl h) s.heap h s.heap [] 0 0 := hW
  unfold fX3_operatorFor at hf
  obtain ⟨_, e0, hf⟩ := pb_rd (rd_chk _ _) hf
  refine lv_iload_n hx hb dX3_operatorFor_0 rfl (lv_at hl 1 rfl) ?_
  refine lv_iconst (v := 1) hx hb dX3_operatorFor_1 (by decide) ?_
  refine lv_bipush (v := 7) hx hb dX3_operatorFor_2 (by decide) ?_
  obtain ⟨v1, h1, e1, hf⟩ := pb_some hf
  refine r_calli hW (pext e1) (run_SN (As := [.int x1, .int (1 : Int32), .int (7 : Int32)]) (rest := []) C hW (metX9_within l G ρ e1) ⟨rfl, rfl⟩ kcX9_within (tq q_397 rfl) kiX9_within knX9_within kdX9_within ⟨Nat.le_of_ble_eq_true rfl, Nat.le_of_ble_eq_true rfl⟩ hl.1 (Nat.le_of_ble_eq_true rfl) (room_of hW (pext e1) ((pext hf).tr hX)) dX3_operatorFor_4 rfl) (fun H locs c1 s1 hW => ?_)
  refine lv_if_eq (tgt := 22) hx hb dX3_operatorFor_7 (by decide) (fun c2 => ?_) (fun c2 => ?_)
  · rw [if_pos c2] at hf
    refine lv_null hx hb dX3_operatorFor_22 ?_
    obtain ⟨rfl, rfl⟩ := pp_some hf
    exact r_aretN (v := none) C hW (Or.inl ⟨_, rfl⟩) dX3_operatorFor_23
  · rw [if_neg c2] at hf
    refine lv_iload_n hx hb dX3_operatorFor_10 rfl (lv_at hl 1 rfl) ?_
    refine lv_aload_n hx hb dX3_operatorFor_11 rfl (lv_at hl 0 rfl) ?_
    obtain ⟨v3, e3, hf⟩ := pb_rd (rd_gI _ _ _) hf
    refine r_gI C hW e3 flX3_9 rfl dX3_operatorFor_12 ?_
    obtain ⟨v4, h4, e4, hf⟩ := pb_some hf
    refine r_calli hW (pext e4) (run_SN (As := [.int x1, .int v3]) (rest := []) C hW (metX9_gcd l G ρ e4) ⟨rfl, rfl⟩ kcX9_gcd (tq q_36 rfl) kiX9_gcd knX9_gcd kdX9_gcd ⟨Nat.le_of_ble_eq_true rfl, Nat.le_of_ble_eq_true rfl⟩ hl.1 (Nat.le_of_ble_eq_true rfl) (room_of hW (pext e4) ((pext hf).tr hX)) dX3_operatorFor_15 rfl) (fun H locs c1 s1 hW => ?_)
    refine lv_iconst (v := 1) hx hb dX3_operatorFor_18 (by decide) ?_
    refine lv_icmp_eq (tgt := 24) hx hb dX3_operatorFor_19 (by decide) (fun c5 => ?_) (fun c5 => ?_)
    · rw [if_pos c5] at hf
      refine lv_aload_n hx hb dX3_operatorFor_24 rfl (lv_at hl 0 rfl) ?_
      obtain ⟨v6, e6, hf⟩ := pb_rd (rd_gA _ _ _) hf
      refine r_gA C hW e6 flX3_105 rfl dX3_operatorFor_25 ?_
      refine lv_iload_n hx hb dX3_operatorFor_28 rfl (lv_at hl 1 rfl) ?_
      obtain ⟨v7, e7, hf⟩ := pb_rd (rd_lN _ _ _) hf
      refine r_aaldN C hW e7 (by decide) (by decide) dX3_operatorFor_29 ?_
      refine r_astQn (lv' := [(2, va_rf (Option.map ρ v7)), (0, .ref (ρ x0)), (1, .int x1)]) hx hb dX3_operatorFor_30 rfl hl (by decide) rfl (fun ls hl => ?_)
      refine r_aldQn hx hb dX3_operatorFor_31 rfl (lv_at hl 0 rfl) ?_
      rcases v7 with _ | a8
      · have hl : lv_has ls 3 [(2, .null), (0, .ref (ρ x0)), (1, .int x1)] := hl
        try dsimp only at hf
        refine lv_ifnonnullN hx hb dX3_operatorFor_32 ?_
        obtain ⟨v9, h9, e9, hf⟩ := pb_some hf
        refine r_new C hW e9 CT4 rfl (tq q_132 rfl) (tq q_398 rfl) (tq q_12 rfl) (room_of hW (pext e9) ((pext hf).tr hX)) dX3_operatorFor_35 (fun H c1 s1 hW => ?_)
        refine lv_dup hx hb dX3_operatorFor_38 rfl ?_
        refine lv_aload_n hx hb dX3_operatorFor_39 rfl (lv_at hl 1 rfl) ?_
        refine lv_iload_n hx hb dX3_operatorFor_40 rfl (lv_at hl 2 rfl) ?_
        obtain ⟨_, h10, e10, hf⟩ := pb_some hf
        refine r_callv hW (pext e10) (run_I (b := v9) (As := [.ref (ρ x0), .int x1]) (rest := [.ref (ρ v9)]) C hW (metX5_init l G ρ e10) ⟨rfl, rfl⟩ kcX5_init (tq q_399 rfl) kiX5_init knX5_init rfl kdX5_init ⟨Nat.le_of_ble_eq_true rfl, Nat.le_of_ble_eq_true rfl⟩ hl.1 (Nat.le_of_ble_eq_true rfl) (room_of hW (pext e10) ((pext hf).tr hX)) dX3_operatorFor_41 rfl) (fun H locs c1 s1 hW => ?_)
        refine lv_astore_n (lv' := [(2, .ref (ρ v9)), (0, .ref (ρ x0)), (1, .int x1)]) hx hb dX3_operatorFor_44 rfl hl (by decide) rfl (fun ls hl => ?_)
        refine lv_aload_n hx hb dX3_operatorFor_45 rfl (lv_at hl 1 rfl) ?_
        obtain ⟨v11, e11, hf⟩ := pb_rd (rd_gA _ _ _) hf
        refine r_gA C hW e11 flX3_105 rfl dX3_operatorFor_46 ?_
        refine lv_iload_n hx hb dX3_operatorFor_49 rfl (lv_at hl 2 rfl) ?_
        refine lv_aload_n hx hb dX3_operatorFor_50 rfl (lv_at hl 0 rfl) ?_
        obtain ⟨_, h12, e12, hf⟩ := pb_some hf
        refine r_aast (t0 := 5) C hW e12 rfl (by decide) rfl dX3_operatorFor_51 (fun H locs hW => ?_)
        refine lv_aload_n hx hb dX3_operatorFor_52 rfl (lv_at hl 0 rfl) ?_
        obtain ⟨rfl, rfl⟩ := pp_some hf
        exact r_aretN (v := (some v9)) C hW (Or.inl ⟨_, rfl⟩) dX3_operatorFor_53
      · have hl : lv_has ls 3 [(2, .ref (ρ a8)), (0, .ref (ρ x0)), (1, .int x1)] := hl
        try dsimp only at hf
        refine lv_ifnonnull (tgt := 52) hx hb dX3_operatorFor_32 (by decide) ?_
        refine lv_aload_n hx hb dX3_operatorFor_52 rfl (lv_at hl 0 rfl) ?_
        obtain ⟨rfl, rfl⟩ := pp_some hf
        exact r_aretN (v := (some a8)) C hW (Or.inl ⟨_, rfl⟩) dX3_operatorFor_53
    · rw [if_neg c5] at hf
      refine lv_null hx hb dX3_operatorFor_22 ?_
      obtain ⟨rfl, rfl⟩ := pp_some hf
      exact r_aretN (v := none) C hW (Or.inl ⟨_, rfl⟩) dX3_operatorFor_23

theorem dX9_table_0 : decode cX9_table 0 = .ok (.aload_n 0, 1) := by decide +kernel
theorem dX9_table_1 : decode cX9_table 1 = .ok (.getfield 23, 3) := by decide +kernel
theorem dX9_table_4 : decode cX9_table 4 = .ok (.getfield 62, 3) := by decide +kernel
theorem dX9_table_7 : decode cX9_table 7 = .ok (.astore 5, 2) := by decide +kernel
theorem dX9_table_9 : decode cX9_table 9 = .ok (.iload_n 1, 1) := by decide +kernel
theorem dX9_table_10 : decode cX9_table 10 = .ok (.iconst 1, 1) := by decide +kernel
theorem dX9_table_11 : decode cX9_table 11 = .ok (.bipush 7, 2) := by decide +kernel
theorem dX9_table_13 : decode cX9_table 13 = .ok (.invokestatic 99, 3) := by decide +kernel
theorem dX9_table_16 : decode cX9_table 16 = .ok (.ifCond .eq 31, 3) := by decide +kernel
theorem dX9_table_19 : decode cX9_table 19 = .ok (.aload 5, 2) := by decide +kernel
theorem dX9_table_21 : decode cX9_table 21 = .ok (.iload_n 2, 1) := by decide +kernel
theorem dX9_table_22 : decode cX9_table 22 = .ok (.invokevirtual 126, 3) := by decide +kernel
theorem dX9_table_25 : decode cX9_table 25 = .ok (.ifCond .eq 22, 3) := by decide +kernel
theorem dX9_table_28 : decode cX9_table 28 = .ok (.aload 5, 2) := by decide +kernel
theorem dX9_table_30 : decode cX9_table 30 = .ok (.iload_n 3, 1) := by decide +kernel
theorem dX9_table_31 : decode cX9_table 31 = .ok (.invokevirtual 126, 3) := by decide +kernel
theorem dX9_table_34 : decode cX9_table 34 = .ok (.ifCond .eq 13, 3) := by decide +kernel
theorem dX9_table_37 : decode cX9_table 37 = .ok (.iload 4, 2) := by decide +kernel
theorem dX9_table_39 : decode cX9_table 39 = .ok (.iconst 0, 1) := by decide +kernel
theorem dX9_table_40 : decode cX9_table 40 = .ok (.iconst 1, 1) := by decide +kernel
theorem dX9_table_41 : decode cX9_table 41 = .ok (.invokestatic 99, 3) := by decide +kernel
theorem dX9_table_44 : decode cX9_table 44 = .ok (.ifCond .ne 11, 3) := by decide +kernel
theorem dX9_table_47 : decode cX9_table 47 = .ok (.aload_n 0, 1) := by decide +kernel
theorem dX9_table_48 : decode cX9_table 48 = .ok (.bipush (-2), 2) := by decide +kernel
theorem dX9_table_50 : decode cX9_table 50 = .ok (.invokevirtual 74, 3) := by decide +kernel
theorem dX9_table_53 : decode cX9_table 53 = .ok (.i2l, 1) := by decide +kernel
theorem dX9_table_54 : decode cX9_table 54 = .ok (.lreturn, 1) := by decide +kernel
theorem dX9_table_55 : decode cX9_table 55 = .ok (.aload 5, 2) := by decide +kernel
theorem dX9_table_57 : decode cX9_table 57 = .ok (.iload_n 1, 1) := by decide +kernel
theorem dX9_table_58 : decode cX9_table 58 = .ok (.invokevirtual 133, 3) := by decide +kernel
theorem dX9_table_61 : decode cX9_table 61 = .ok (.astore 6, 2) := by decide +kernel
theorem dX9_table_63 : decode cX9_table 63 = .ok (.aload 6, 2) := by decide +kernel
theorem dX9_table_65 : decode cX9_table 65 = .ok (.ifnonnull 11, 3) := by decide +kernel
theorem dX9_table_68 : decode cX9_table 68 = .ok (.aload_n 0, 1) := by decide +kernel
theorem dX9_table_69 : decode cX9_table 69 = .ok (.bipush (-3), 2) := by decide +kernel
theorem dX9_table_71 : decode cX9_table 71 = .ok (.invokevirtual 74, 3) := by decide +kernel
theorem dX9_table_74 : decode cX9_table 74 = .ok (.i2l, 1) := by decide +kernel
theorem dX9_table_75 : decode cX9_table 75 = .ok (.lreturn, 1) := by decide +kernel
theorem dX9_table_76 : decode cX9_table 76 = .ok (.iload 4, 2) := by decide +kernel
theorem dX9_table_78 : decode cX9_table 78 = .ok (.ifCond .ne 15, 3) := by decide +kernel
theorem dX9_table_81 : decode cX9_table 81 = .ok (.aload 6, 2) := by decide +kernel
theorem dX9_table_83 : decode cX9_table 83 = .ok (.getfield 137, 3) := by decide +kernel
theorem dX9_table_86 : decode cX9_table 86 = .ok (.iload_n 2, 1) := by decide +kernel
theorem dX9_table_87 : decode cX9_table 87 = .ok (.aaload, 1) := by decide +kernel
theorem dX9_table_88 : decode cX9_table 88 = .ok (.iload_n 3, 1) := by decide +kernel
theorem dX9_table_89 : decode cX9_table 89 = .ok (.laload, 1) := by decide +kernel
theorem dX9_table_90 : decode cX9_table 90 = .ok (.goto 4, 3) := by decide +kernel
theorem dX9_table_93 : decode cX9_table 93 = .ok (.lconst 1, 1) := by decide +kernel
theorem dX9_table_94 : decode cX9_table 94 = .ok (.lreturn, 1) := by decide +kernel
theorem kcX9_table : Cond.code yX9_table cX9_table 7 (some .long) ∈ tb := tq q_392 rfl
theorem knX9_table : Cond.initialized yX9_table.cls ∈ tb := (tq q_1 rfl)
theorem kdX9_table : yX9_table.cls ≠ "java/lang/invoke/MethodHandle" ∧ yX9_table.cls ≠ "java/lang/invoke/VarHandle" ∧ (parseMethodDescriptor yX9_table.desc).map (fun d => d.parameters.length) = some 4 := ⟨by decide +kernel, by decide +kernel, by decide +kernel⟩
theorem kiX9_table : Cond.instanceMethod yX9_table ∈ tb := (tq q_390 rfl)
theorem ksX9_table : Cond.selects yX9_table.cls yX9_table yX9_table ∈ tb := (tq q_391 rfl)
theorem tgX9_table {x0 : Nat} {x1 : Int32} {x2 : Int32} {x3 : Int32} {x4 : Int32} {h : PH} {r : Int64 × PH} (hf : (fX9_table x0 x1 x2 x3 x4).1 h = some r) : ∃ n x, nth h x0 = some (8, n, x) := by
  obtain ⟨_, _, e, _⟩ := pb_some hf
  exact (chk_some e).2
set_option maxHeartbeats 4000000 in
set_option maxRecDepth 100000 in
theorem metX9_table (l : Launch) (G : GG) (ρ : Nat → Nat) {z : Nat} {x0 : Nat} {x1 : Int32} {x2 : Int32} {x3 : Int32} {x4 : Int32} {h hE : PH} {v : Int64} (hf : (fX9_table x0 x1 x2 x3 x4).1 h = some (v, hE)) : Met l yX9_table (wsY yX9_table cX9_table 7 (some .long)) (RM 5 125 h hE) (va_Pc [.ref (ρ x0), .int x1, .int x2, .int x3, .int x4] (PcB G ρ h z)) (QL G ρ v hE h.length z) (DC h hE) (DS h hE) (Af ρ h.length z) := by
  refine met_start (by decide) (Nat.le_of_ble_eq_true rfl) ?_
  intro p e s m below meth c ls hz C hW hl
  subst hz
  have C : Cx G "PairSymbols" cX9_table 7 (some .long) "table" p s m _ meth c := C
  have hx := C.1
  have hb := C.2.1
  have hX : Ext hE hE := Ext.rf hE
  have hl : lv_has ls 7 [(0, .ref (ρ x0)), (1, .int x1), (2, .int x2), (3, .int x3), (4, .int x4)] := hl
  have hW : Wd G ρ h.length (sl h) s.heap h s.heap [] 0 0 := hW
  unfold fX9_table at hf
  obtain ⟨_, e0, hf⟩ := pb_rd (rd_chk _ _) hf
  refine lv_aload_n hx hb dX9_table_0 rfl (lv_at hl 0 rfl) ?_
  obtain ⟨v1, e1, hf⟩ := pb_rd (rd_gA _ _ _) hf
  refine r_gA C hW e1 flX9_23 rfl dX9_table_1 ?_
  obtain ⟨v2, e2, hf⟩ := pb_rd (rd_gA _ _ _) hf
  refine r_gA C hW e2 flX9_62 rfl dX9_table_4 ?_
  refine lv_astore (lv' := [(5, .ref (ρ v2)), (0, .ref (ρ x0)), (1, .int x1), (2, .int x2), (3, .int x3), (4, .int x4)]) hx hb dX9_table_7 hl (by decide) rfl (fun ls hl => ?_)
  refine lv_iload_n hx hb dX9_table_9 rfl (lv_at hl 2 rfl) ?_
  refine lv_iconst (v := 1) hx hb dX9_table_10 (by decide) ?_
  refine lv_bipush (v := 7) hx hb dX9_table_11 (by decide) ?_
  obtain ⟨v3, h3, e3, hf⟩ := pb_some hf
  refine r_calli hW (pext e3) (run_S (As := [.int x1, .int (1 : Int32), .int (7 : Int32)]) (rest := []) C hW (metX9_within l G ρ e3) ⟨rfl, rfl⟩ kcX9_within (tq q_329 rfl) kiX9_within knX9_within kdX9_within ⟨Nat.le_of_ble_eq_true rfl, Nat.le_of_ble_eq_true rfl⟩ hl.1 (Nat.le_of_ble_eq_true rfl) (room_of hW (pext e3) ((pext hf).tr hX)) dX9_table_13 rfl) (fun H locs c1 s1 hW => ?_)
  refine lv_if_eq (tgt := 47) hx hb dX9_table_16 (by decide) (fun c4 => ?_) (fun c4 => ?_)
  · rw [if_pos c4] at hf
    refine lv_aload_n hx hb dX9_table_47 rfl (lv_at hl 1 rfl) ?_
    refine lv_bipush (v := -2) hx hb dX9_table_48 (by decide) ?_
    obtain ⟨v5, h5, e5, hf⟩ := pb_some hf
    obtain ⟨_, _, t6⟩ := tgX9_refuse e5
    refine r_calli hW (pext e5) (run_V (b := x0) (As := [.int (-2 : Int32)]) (rest := []) C hW (metX9_refuse l G ρ e5) ⟨rfl, rfl⟩ kcX9_refuse (tq q_343 rfl) kiX9_refuse ksX9_refuse knX9_refuse kdX9_refuse t6 rfl rfl ⟨Nat.le_of_ble_eq_true rfl, Nat.le_of_ble_eq_true rfl⟩ hl.1 (Nat.le_of_ble_eq_true rfl) (room_of hW (pext e5) ((pext hf).tr hX)) dX9_table_50 rfl) (fun H locs c1 s1 hW => ?_)
    refine lv_i2l (v := v5.toInt64) hx hb dX9_table_53 rfl ?_
    obtain ⟨rfl, rfl⟩ := pp_some hf
    exact r_lret C hW dX9_table_54
  · rw [if_neg c4] at hf
    refine lv_aload hx hb dX9_table_19 (lv_at hl 0 rfl) ?_
    refine lv_iload_n hx hb dX9_table_21 rfl (lv_at hl 3 rfl) ?_
    obtain ⟨v7, h7, e7, hf⟩ := pb_some hf
    obtain ⟨_, _, t8⟩ := tgX3_hasCoordinate e7
    refine r_calli hW (pext e7) (run_V (b := v2) (As := [.int x2]) (rest := []) C hW (metX3_hasCoordinate l G ρ e7) ⟨rfl, rfl⟩ kcX3_hasCoordinate (tq q_385 rfl) kiX3_hasCoordinate ksX3_hasCoordinate knX3_hasCoordinate kdX3_hasCoordinate t8 rfl rfl ⟨Nat.le_of_ble_eq_true rfl, Nat.le_of_ble_eq_true rfl⟩ hl.1 (Nat.le_of_ble_eq_true rfl) (room_of hW (pext e7) ((pext hf).tr hX)) dX9_table_22 rfl) (fun H locs c1 s1 hW => ?_)
    refine lv_if_eq (tgt := 47) hx hb dX9_table_25 (by decide) (fun c9 => ?_) (fun c9 => ?_)
    · rw [if_pos c9] at hf
      refine lv_aload_n hx hb dX9_table_47 rfl (lv_at hl 1 rfl) ?_
      refine lv_bipush (v := -2) hx hb dX9_table_48 (by decide) ?_
      obtain ⟨v10, h10, e10, hf⟩ := pb_some hf
      obtain ⟨_, _, t11⟩ := tgX9_refuse e10
      refine r_calli hW (pext e10) (run_V (b := x0) (As := [.int (-2 : Int32)]) (rest := []) C hW (metX9_refuse l G ρ e10) ⟨rfl, rfl⟩ kcX9_refuse (tq q_343 rfl) kiX9_refuse ksX9_refuse knX9_refuse kdX9_refuse t11 rfl rfl ⟨Nat.le_of_ble_eq_true rfl, Nat.le_of_ble_eq_true rfl⟩ hl.1 (Nat.le_of_ble_eq_true rfl) (room_of hW (pext e10) ((pext hf).tr hX)) dX9_table_50 rfl) (fun H locs c1 s1 hW => ?_)
      refine lv_i2l (v := v10.toInt64) hx hb dX9_table_53 rfl ?_
      obtain ⟨rfl, rfl⟩ := pp_some hf
      exact r_lret C hW dX9_table_54
    · rw [if_neg c9] at hf
      refine lv_aload hx hb dX9_table_28 (lv_at hl 0 rfl) ?_
      refine lv_iload_n hx hb dX9_table_30 rfl (lv_at hl 4 rfl) ?_
      obtain ⟨v12, h12, e12, hf⟩ := pb_some hf
      obtain ⟨_, _, t13⟩ := tgX3_hasCoordinate e12
      refine r_calli hW (pext e12) (run_V (b := v2) (As := [.int x3]) (rest := []) C hW (metX3_hasCoordinate l G ρ e12) ⟨rfl, rfl⟩ kcX3_hasCoordinate (tq q_385 rfl) kiX3_hasCoordinate ksX3_hasCoordinate knX3_hasCoordinate kdX3_hasCoordinate t13 rfl rfl ⟨Nat.le_of_ble_eq_true rfl, Nat.le_of_ble_eq_true rfl⟩ hl.1 (Nat.le_of_ble_eq_true rfl) (room_of hW (pext e12) ((pext hf).tr hX)) dX9_table_31 rfl) (fun H locs c1 s1 hW => ?_)
      refine lv_if_eq (tgt := 47) hx hb dX9_table_34 (by decide) (fun c14 => ?_) (fun c14 => ?_)
      · rw [if_pos c14] at hf
        refine lv_aload_n hx hb dX9_table_47 rfl (lv_at hl 1 rfl) ?_
        refine lv_bipush (v := -2) hx hb dX9_table_48 (by decide) ?_
        obtain ⟨v15, h15, e15, hf⟩ := pb_some hf
        obtain ⟨_, _, t16⟩ := tgX9_refuse e15
        refine r_calli hW (pext e15) (run_V (b := x0) (As := [.int (-2 : Int32)]) (rest := []) C hW (metX9_refuse l G ρ e15) ⟨rfl, rfl⟩ kcX9_refuse (tq q_343 rfl) kiX9_refuse ksX9_refuse knX9_refuse kdX9_refuse t16 rfl rfl ⟨Nat.le_of_ble_eq_true rfl, Nat.le_of_ble_eq_true rfl⟩ hl.1 (Nat.le_of_ble_eq_true rfl) (room_of hW (pext e15) ((pext hf).tr hX)) dX9_table_50 rfl) (fun H locs c1 s1 hW => ?_)
        refine lv_i2l (v := v15.toInt64) hx hb dX9_table_53 rfl ?_
        obtain ⟨rfl, rfl⟩ := pp_some hf
        exact r_lret C hW dX9_table_54
      · rw [if_neg c14] at hf
        refine lv_iload hx hb dX9_table_37 (lv_at hl 5 rfl) ?_
        refine lv_iconst (v := 0) hx hb dX9_table_39 (by decide) ?_
        refine lv_iconst (v := 1) hx hb dX9_table_40 (by decide) ?_
        obtain ⟨v17, h17, e17, hf⟩ := pb_some hf
        refine r_calli hW (pext e17) (run_S (As := [.int x4, .int (0 : Int32), .int (1 : Int32)]) (rest := []) C hW (metX9_within l G ρ e17) ⟨rfl, rfl⟩ kcX9_within (tq q_329 rfl) kiX9_within knX9_within kdX9_within ⟨Nat.le_of_ble_eq_true rfl, Nat.le_of_ble_eq_true rfl⟩ hl.1 (Nat.le_of_ble_eq_true rfl) (room_of hW (pext e17) ((pext hf).tr hX)) dX9_table_41 rfl) (fun H locs c1 s1 hW => ?_)
        refine lv_if_ne (tgt := 55) hx hb dX9_table_44 (by decide) (fun c18 => ?_) (fun c18 => ?_)
        · rw [if_neg c18] at hf
          refine lv_aload hx hb dX9_table_55 (lv_at hl 0 rfl) ?_
          refine lv_iload_n hx hb dX9_table_57 rfl (lv_at hl 2 rfl) ?_
          obtain ⟨v19, h19, e19, hf⟩ := pb_some hf
          obtain ⟨_, _, t20⟩ := tgX3_operatorFor e19
          refine r_calln hW (pext e19) (run_V (b := v2) (As := [.int x1]) (rest := []) C hW (metX3_operatorFor l G ρ e19) ⟨rfl, rfl⟩ kcX3_operatorFor (tq q_393 rfl) kiX3_operatorFor ksX3_operatorFor knX3_operatorFor kdX3_operatorFor t20 rfl rfl ⟨Nat.le_of_ble_eq_true rfl, Nat.le_of_ble_eq_true rfl⟩ hl.1 (Nat.le_of_ble_eq_true rfl) (room_of hW (pext e19) ((pext hf).tr hX)) dX9_table_58 rfl) (fun H locs c1 s1 hW => ?_)
          refine r_astQ (lv' := [(6, va_rf (Option.map ρ v19)), (5, .ref (ρ v2)), (0, .ref (ρ x0)), (1, .int x1), (2, .int x2), (3, .int x3), (4, .int x4)]) hx hb dX9_table_61 hl (by decide) rfl (fun ls hl => ?_)
          refine r_aldQ hx hb dX9_table_63 (lv_at hl 0 rfl) ?_
          rcases v19 with _ | a21
          · have hl : lv_has ls 7 [(6, .null), (5, .ref (ρ v2)), (0, .ref (ρ x0)), (1, .int x1), (2, .int x2), (3, .int x3), (4, .int x4)] := hl
            try dsimp only at hf
            refine lv_ifnonnullN hx hb dX9_table_65 ?_
            refine lv_aload_n hx hb dX9_table_68 rfl (lv_at hl 2 rfl) ?_
            refine lv_bipush (v := -3) hx hb dX9_table_69 (by decide) ?_
            obtain ⟨v22, h22, e22, hf⟩ := pb_some hf
            obtain ⟨_, _, t23⟩ := tgX9_refuse e22
            refine r_calli hW (pext e22) (run_V (b := x0) (As := [.int (-3 : Int32)]) (rest := []) C hW (metX9_refuse l G ρ e22) ⟨rfl, rfl⟩ kcX9_refuse (tq q_343 rfl) kiX9_refuse ksX9_refuse knX9_refuse kdX9_refuse t23 rfl rfl ⟨Nat.le_of_ble_eq_true rfl, Nat.le_of_ble_eq_true rfl⟩ hl.1 (Nat.le_of_ble_eq_true rfl) (room_of hW (pext e22) ((pext hf).tr hX)) dX9_table_71 rfl) (fun H locs c1 s1 hW => ?_)
            refine lv_i2l (v := v22.toInt64) hx hb dX9_table_74 rfl ?_
            obtain ⟨rfl, rfl⟩ := pp_some hf
            exact r_lret C hW dX9_table_75
          · have hl : lv_has ls 7 [(6, .ref (ρ a21)), (5, .ref (ρ v2)), (0, .ref (ρ x0)), (1, .int x1), (2, .int x2), (3, .int x3), (4, .int x4)] := hl
            try dsimp only at hf
            refine lv_ifnonnull (tgt := 76) hx hb dX9_table_65 (by decide) ?_
            refine lv_iload hx hb dX9_table_76 (lv_at hl 6 rfl) ?_
            refine lv_if_ne (tgt := 93) hx hb dX9_table_78 (by decide) (fun c24 => ?_) (fun c24 => ?_)
            · rw [if_neg c24] at hf
              refine lv_lconst (v := 1) hx hb dX9_table_93 (by decide) ?_
              obtain ⟨rfl, rfl⟩ := pp_some hf
              exact r_lret C hW dX9_table_94
            · rw [if_pos c24] at hf
              refine lv_aload hx hb dX9_table_81 (lv_at hl 0 rfl) ?_
              obtain ⟨v25, e25, hf⟩ := pb_rd (rd_gA _ _ _) hf
              refine r_gA C hW e25 flX9_137 rfl dX9_table_83 ?_
              refine lv_iload_n hx hb dX9_table_86 rfl (lv_at hl 4 rfl) ?_
              obtain ⟨v26, e26, hf⟩ := pb_rd (rd_lA _ _ _) hf
              refine r_aald C hW e26 (by decide) (by decide) dX9_table_87 ?_
              refine lv_iload_n hx hb dX9_table_88 rfl (lv_at hl 5 rfl) ?_
              obtain ⟨v27, e27, hf⟩ := pb_rd (rd_lJ _ _ _) hf
              refine r_lald C hW e27 dX9_table_89 ?_
              refine lv_goto (tgt := 94) hx hb dX9_table_90 (by decide) ?_
              obtain ⟨rfl, rfl⟩ := pp_some hf
              exact r_lret C hW dX9_table_94
        · rw [if_pos c18] at hf
          refine lv_aload_n hx hb dX9_table_47 rfl (lv_at hl 1 rfl) ?_
          refine lv_bipush (v := -2) hx hb dX9_table_48 (by decide) ?_
          obtain ⟨v28, h28, e28, hf⟩ := pb_some hf
          obtain ⟨_, _, t29⟩ := tgX9_refuse e28
          refine r_calli hW (pext e28) (run_V (b := x0) (As := [.int (-2 : Int32)]) (rest := []) C hW (metX9_refuse l G ρ e28) ⟨rfl, rfl⟩ kcX9_refuse (tq q_343 rfl) kiX9_refuse ksX9_refuse knX9_refuse kdX9_refuse t29 rfl rfl ⟨Nat.le_of_ble_eq_true rfl, Nat.le_of_ble_eq_true rfl⟩ hl.1 (Nat.le_of_ble_eq_true rfl) (room_of hW (pext e28) ((pext hf).tr hX)) dX9_table_50 rfl) (fun H locs c1 s1 hW => ?_)
          refine lv_i2l (v := v28.toInt64) hx hb dX9_table_53 rfl ?_
          obtain ⟨rfl, rfl⟩ := pp_some hf
          exact r_lret C hW dX9_table_54

theorem dX4_diagonalSum_0 : decode cX4_diagonalSum 0 = .ok (.lconst 0, 1) := by decide +kernel
theorem dX4_diagonalSum_1 : decode cX4_diagonalSum 1 = .ok (.lstore_n 1, 1) := by decide +kernel
theorem dX4_diagonalSum_2 : decode cX4_diagonalSum 2 = .ok (.iconst 0, 1) := by decide +kernel
theorem dX4_diagonalSum_3 : decode cX4_diagonalSum 3 = .ok (.istore_n 3, 1) := by decide +kernel
theorem dX4_diagonalSum_4 : decode cX4_diagonalSum 4 = .ok (.iload_n 3, 1) := by decide +kernel
theorem dX4_diagonalSum_5 : decode cX4_diagonalSum 5 = .ok (.aload_n 0, 1) := by decide +kernel
theorem dX4_diagonalSum_6 : decode cX4_diagonalSum 6 = .ok (.arraylength, 1) := by decide +kernel
theorem dX4_diagonalSum_7 : decode cX4_diagonalSum 7 = .ok (.if_icmp .ge 17, 3) := by decide +kernel
theorem dX4_diagonalSum_10 : decode cX4_diagonalSum 10 = .ok (.lload_n 1, 1) := by decide +kernel
theorem dX4_diagonalSum_11 : decode cX4_diagonalSum 11 = .ok (.aload_n 0, 1) := by decide +kernel
theorem dX4_diagonalSum_12 : decode cX4_diagonalSum 12 = .ok (.iload_n 3, 1) := by decide +kernel
theorem dX4_diagonalSum_13 : decode cX4_diagonalSum 13 = .ok (.aaload, 1) := by decide +kernel
theorem dX4_diagonalSum_14 : decode cX4_diagonalSum 14 = .ok (.iload_n 3, 1) := by decide +kernel
theorem dX4_diagonalSum_15 : decode cX4_diagonalSum 15 = .ok (.laload, 1) := by decide +kernel
theorem dX4_diagonalSum_16 : decode cX4_diagonalSum 16 = .ok (.ladd, 1) := by decide +kernel
theorem dX4_diagonalSum_17 : decode cX4_diagonalSum 17 = .ok (.lstore_n 1, 1) := by decide +kernel
theorem dX4_diagonalSum_18 : decode cX4_diagonalSum 18 = .ok (.iinc 3 1, 3) := by decide +kernel
theorem dX4_diagonalSum_21 : decode cX4_diagonalSum 21 = .ok (.goto (-17), 3) := by decide +kernel
theorem dX4_diagonalSum_24 : decode cX4_diagonalSum 24 = .ok (.lload_n 1, 1) := by decide +kernel
theorem dX4_diagonalSum_25 : decode cX4_diagonalSum 25 = .ok (.lreturn, 1) := by decide +kernel
theorem kcX4_diagonalSum : Cond.code yX4_diagonalSum cX4_diagonalSum 4 (some .long) ∈ tb := tq q_444 rfl
theorem knX4_diagonalSum : Cond.initialized yX4_diagonalSum.cls ∈ tb := (tq q_13 rfl)
theorem kdX4_diagonalSum : yX4_diagonalSum.cls ≠ "java/lang/invoke/MethodHandle" ∧ yX4_diagonalSum.cls ≠ "java/lang/invoke/VarHandle" ∧ (parseMethodDescriptor yX4_diagonalSum.desc).map (fun d => d.parameters.length) = some 1 := ⟨by decide +kernel, by decide +kernel, by decide +kernel⟩
theorem kiX4_diagonalSum : Cond.static yX4_diagonalSum ∈ tb := (tq q_443 rfl)
set_option maxHeartbeats 4000000 in
set_option maxRecDepth 100000 in
theorem wX4_diagonalSum_B4 {p : Program} {l : Launch} {e : Env} {s : State} {m : MethodId} {args : Array Value} {below : List Frame} {meth : Method} {c : Code} {G : GG} {ρ : Nat → Nat} {h0 hE hB : PH} {Q : State → Prop} {x0 : Nat} (C : Cx G "PairSymbols$Matrices" cX4_diagonalSum 4 (some .long) "diagonalSum" p s m args meth c) {x1 : Int64} {x3 : Int32} {h : PH} {H : Heap} {locs : List Loc} {cells slots : Nat} {ls : Array Slot} {r : (Int64 × Int32) ⊕ (Int64)} (hf : (fX4_diagonalSum_b4 x0 x1 x3).1 h = some (r, hB)) (hX : Ext hB hE) (hW : Wd G ρ h0.length (sl h0) s.heap h H locs cells slots) (hl : lv_has ls 4 [(0, .ref (ρ x0)), (1, .long x1), (3, .int x3)]) (kc : ∀ y : Int64 × Int32, r = .inl y → ∀ (H : Heap) (locs : List Loc) (c1 s1 : Nat) (ls : Array Slot), Wd G ρ h0.length (sl h0) s.heap hB H locs c1 s1 → lv_has ls 4 [(0, .ref (ρ x0)), (1, .long y.1), (3, .int y.2)] → W p l e (RM 0 0 h0 hE) s m args below meth c H locs c1 s1 Q (F0 m 4 ls [])) (ke : ∀ z : Int64, r = .inr z → ∀ (H : Heap) (locs : List Loc) (c1 s1 : Nat) (ls : Array Slot), Wd G ρ h0.length (sl h0) s.heap hB H locs c1 s1 → lv_has ls 4 [(1, .long z)] → W p l e (RM 0 0 h0 hE) s m args below meth c H locs c1 s1 Q (F0 m 24 ls [])) : W p l e (RM 0 0 h0 hE) s m args below meth c H locs cells slots Q (F0 m 4 ls []) := by
  have hx := C.1
  have hb := C.2.1
  unfold fX4_diagonalSum_b4 at hf
  refine lv_iload_n hx hb dX4_diagonalSum_4 rfl (lv_at hl 2 rfl) ?_
  refine lv_aload_n hx hb dX4_diagonalSum_5 rfl (lv_at hl 0 rfl) ?_
  obtain ⟨v1, e1, hf⟩ := pb_rd (rd_aln _) hf
  refine r_alen C hW e1 dX4_diagonalSum_6 ?_
  refine lv_icmp_ge (tgt := 24) hx hb dX4_diagonalSum_7 (by decide) (fun c2 => ?_) (fun c2 => ?_)
  · rw [if_pos c2] at hf
    obtain ⟨rfl, rfl⟩ := pp_some hf
    exact ke _ rfl _ _ _ _ _ hW (lv_sub hl [1] rfl)
  · rw [if_neg c2] at hf
    refine lv_lload_n hx hb dX4_diagonalSum_10 rfl (lv_at hl 1 rfl) ?_
    refine lv_aload_n hx hb dX4_diagonalSum_11 rfl (lv_at hl 0 rfl) ?_
    refine lv_iload_n hx hb dX4_diagonalSum_12 rfl (lv_at hl 2 rfl) ?_
    obtain ⟨v3, e3, hf⟩ := pb_rd (rd_lA _ _ _) hf
    refine r_aald C hW e3 (by decide) (by decide) dX4_diagonalSum_13 ?_
    refine lv_iload_n hx hb dX4_diagonalSum_14 rfl (lv_at hl 2 rfl) ?_
    obtain ⟨v4, e4, hf⟩ := pb_rd (rd_lJ _ _ _) hf
    refine r_lald C hW e4 dX4_diagonalSum_15 ?_
    refine lv_ladd hx hb dX4_diagonalSum_16 ?_
    refine lv_lstore_n (lv' := [(1, .long (x1 + v4)), (0, .ref (ρ x0)), (3, .int x3)]) hx hb dX4_diagonalSum_17 rfl hl (by decide) rfl (fun ls hl => ?_)
    refine lv_iinc (v := (x3 + 1)) (lv' := [(3, .int (x3 + 1)), (1, .long (x1 + v4)), (0, .ref (ρ x0))]) hx hb dX4_diagonalSum_18 hl (k := 2) rfl rfl (by decide) rfl (fun ls hl => ?_)
    refine lv_goto (tgt := 4) hx hb dX4_diagonalSum_21 (by decide) ?_
    obtain ⟨rfl, rfl⟩ := pp_some hf
    exact kc _ rfl _ _ _ _ _ hW (lv_sub hl [2, 1, 0] rfl)
set_option maxHeartbeats 4000000 in
theorem wX4_diagonalSum_L4 {p : Program} {l : Launch} {e : Env} {s : State} {m : MethodId} {args : Array Value} {below : List Frame} {meth : Method} {c : Code} {G : GG} {ρ : Nat → Nat} {h0 hE hB : PH} {Q : State → Prop} {x0 : Nat} (C : Cx G "PairSymbols$Matrices" cX4_diagonalSum 4 (some .long) "diagonalSum" p s m args meth c) {z : (Int64)} (n : Nat) : ∀ (x : Int64 × Int32) {h : PH} {H : Heap} {locs : List Loc} {cells slots : Nat} {ls : Array Slot}, (plo (fX4_diagonalSum_B4 x0) n x).1 h = some (z, hB) → Ext hB hE → Wd G ρ h0.length (sl h0) s.heap h H locs cells slots → lv_has ls 4 [(0, .ref (ρ x0)), (1, .long x.1), (3, .int x.2)] → (ke : ∀ (H : Heap) (locs : List Loc) (c1 s1 : Nat) (ls : Array Slot), Wd G ρ h0.length (sl h0) s.heap hB H locs c1 s1 → lv_has ls 4 [(1, .long z)] → W p l e (RM 0 0 h0 hE) s m args below meth c H locs c1 s1 Q (F0 m 24 ls [])) → W p l e (RM 0 0 h0 hE) s m args below meth c H locs cells slots Q (F0 m 4 ls []) := by
  induction n with
  | zero =>
    intro x h H locs cells slots ls hf
    rw [plo_0] at hf
    exact (pf_no hf).elim
  | succ n ih =>
    intro x h H locs cells slots ls hf hX hW hl ke
    rw [plo_s] at hf
    obtain ⟨r, h1, e1, hf⟩ := pb_some hf
    unfold fX4_diagonalSum_B4 at e1
    rw [frJ_eq, frI_eq] at e1
    refine wX4_diagonalSum_B4 C e1 ((pext hf).tr hX) hW hl (fun y hr H locs c1 s1 ls hW hl => ?_) (fun y hr H locs c1 s1 ls hW hl => ?_)
    · subst hr
      exact ih y hf hX hW hl ke
    · subst hr
      obtain ⟨rfl, rfl⟩ := pp_some hf
      exact ke H locs c1 s1 ls hW hl
set_option maxHeartbeats 4000000 in
set_option maxRecDepth 100000 in
theorem metX4_diagonalSum (l : Launch) (G : GG) (ρ : Nat → Nat) {z : Nat} {x0 : Nat} {h hE : PH} {v : Int64} (hf : (fX4_diagonalSum x0).1 h = some (v, hE)) : Met l yX4_diagonalSum (wsY yX4_diagonalSum cX4_diagonalSum 4 (some .long)) (RM 0 0 h hE) (va_Pc [.ref (ρ x0)] (PcB G ρ h z)) (QL G ρ v hE h.length z) (DC h hE) (DS h hE) (Af ρ h.length z) := by
  refine met_start (by decide) (Nat.le_of_ble_eq_true rfl) ?_
  intro p e s m below meth c ls hz C hW hl
  subst hz
  have C : Cx G "PairSymbols$Matrices" cX4_diagonalSum 4 (some .long) "diagonalSum" p s m _ meth c := C
  have hx := C.1
  have hb := C.2.1
  have hX : Ext hE hE := Ext.rf hE
  have hl : lv_has ls 4 [(0, .ref (ρ x0))] := hl
  have hW : Wd G ρ h.length (sl h) s.heap h s.heap [] 0 0 := hW
  unfold fX4_diagonalSum at hf
  refine lv_lconst (v := 0) hx hb dX4_diagonalSum_0 (by decide) ?_
  refine lv_lstore_n (lv' := [(1, .long (0 : Int64)), (0, .ref (ρ x0))]) hx hb dX4_diagonalSum_1 rfl hl (by decide) rfl (fun ls hl => ?_)
  refine lv_iconst (v := 0) hx hb dX4_diagonalSum_2 (by decide) ?_
  refine lv_istore_n (lv' := [(3, .int (0 : Int32)), (1, .long (0 : Int64)), (0, .ref (ρ x0))]) hx hb dX4_diagonalSum_3 rfl hl (by decide) rfl (fun ls hl => ?_)
  obtain ⟨z5, h5, e5, hf⟩ := pb_some hf
  refine wX4_diagonalSum_L4 C fu _ e5 ((pext hf).tr hX) hW (lv_sub hl [2, 1, 0] rfl) (fun H locs c1 s1 ls hW hl => ?_)
  refine lv_lload_n hx hb dX4_diagonalSum_24 rfl (lv_at hl 0 rfl) ?_
  obtain ⟨rfl, rfl⟩ := pp_some hf
  exact r_lret C hW dX4_diagonalSum_25

theorem dX9_trace_0 : decode cX9_trace 0 = .ok (.iload_n 1, 1) := by decide +kernel
theorem dX9_trace_1 : decode cX9_trace 1 = .ok (.iconst 1, 1) := by decide +kernel
theorem dX9_trace_2 : decode cX9_trace 2 = .ok (.bipush 7, 2) := by decide +kernel
theorem dX9_trace_4 : decode cX9_trace 4 = .ok (.invokestatic 99, 3) := by decide +kernel
theorem dX9_trace_7 : decode cX9_trace 7 = .ok (.ifCond .eq 12, 3) := by decide +kernel
theorem dX9_trace_10 : decode cX9_trace 10 = .ok (.iload_n 2, 1) := by decide +kernel
theorem dX9_trace_11 : decode cX9_trace 11 = .ok (.iconst 0, 1) := by decide +kernel
theorem dX9_trace_12 : decode cX9_trace 12 = .ok (.iconst 1, 1) := by decide +kernel
theorem dX9_trace_13 : decode cX9_trace 13 = .ok (.invokestatic 99, 3) := by decide +kernel
theorem dX9_trace_16 : decode cX9_trace 16 = .ok (.ifCond .ne 14, 3) := by decide +kernel
theorem dX9_trace_19 : decode cX9_trace 19 = .ok (.aload_n 0, 1) := by decide +kernel
theorem dX9_trace_20 : decode cX9_trace 20 = .ok (.bipush (-2), 2) := by decide +kernel
theorem dX9_trace_22 : decode cX9_trace 22 = .ok (.invokevirtual 74, 3) := by decide +kernel
theorem dX9_trace_25 : decode cX9_trace 25 = .ok (.pop, 1) := by decide +kernel
theorem dX9_trace_26 : decode cX9_trace 26 = .ok (.ldc2_w 143, 3) := by decide +kernel
theorem dX9_trace_29 : decode cX9_trace 29 = .ok (.lreturn, 1) := by decide +kernel
theorem dX9_trace_30 : decode cX9_trace 30 = .ok (.aload_n 0, 1) := by decide +kernel
theorem dX9_trace_31 : decode cX9_trace 31 = .ok (.getfield 23, 3) := by decide +kernel
theorem dX9_trace_34 : decode cX9_trace 34 = .ok (.getfield 62, 3) := by decide +kernel
theorem dX9_trace_37 : decode cX9_trace 37 = .ok (.iload_n 1, 1) := by decide +kernel
theorem dX9_trace_38 : decode cX9_trace 38 = .ok (.invokevirtual 133, 3) := by decide +kernel
theorem dX9_trace_41 : decode cX9_trace 41 = .ok (.astore_n 3, 1) := by decide +kernel
theorem dX9_trace_42 : decode cX9_trace 42 = .ok (.aload_n 3, 1) := by decide +kernel
theorem dX9_trace_43 : decode cX9_trace 43 = .ok (.ifnonnull 14, 3) := by decide +kernel
theorem dX9_trace_46 : decode cX9_trace 46 = .ok (.aload_n 0, 1) := by decide +kernel
theorem dX9_trace_47 : decode cX9_trace 47 = .ok (.bipush (-3), 2) := by decide +kernel
theorem dX9_trace_49 : decode cX9_trace 49 = .ok (.invokevirtual 74, 3) := by decide +kernel
theorem dX9_trace_52 : decode cX9_trace 52 = .ok (.pop, 1) := by decide +kernel
theorem dX9_trace_53 : decode cX9_trace 53 = .ok (.ldc2_w 145, 3) := by decide +kernel
theorem dX9_trace_56 : decode cX9_trace 56 = .ok (.lreturn, 1) := by decide +kernel
theorem dX9_trace_57 : decode cX9_trace 57 = .ok (.iload_n 2, 1) := by decide +kernel
theorem dX9_trace_58 : decode cX9_trace 58 = .ok (.ifCond .ne 10, 3) := by decide +kernel
theorem dX9_trace_61 : decode cX9_trace 61 = .ok (.aload_n 3, 1) := by decide +kernel
theorem dX9_trace_62 : decode cX9_trace 62 = .ok (.getfield 137, 3) := by decide +kernel
theorem dX9_trace_65 : decode cX9_trace 65 = .ok (.goto 7, 3) := by decide +kernel
theorem dX9_trace_68 : decode cX9_trace 68 = .ok (.aload_n 3, 1) := by decide +kernel
theorem dX9_trace_69 : decode cX9_trace 69 = .ok (.getfield 147, 3) := by decide +kernel
theorem dX9_trace_72 : decode cX9_trace 72 = .ok (.invokestatic 150, 3) := by decide +kernel
theorem dX9_trace_75 : decode cX9_trace 75 = .ok (.lreturn, 1) := by decide +kernel
theorem kcX9_trace : Cond.code yX9_trace cX9_trace 4 (some .long) ∈ tb := tq q_439 rfl
theorem knX9_trace : Cond.initialized yX9_trace.cls ∈ tb := (tq q_1 rfl)
theorem kdX9_trace : yX9_trace.cls ≠ "java/lang/invoke/MethodHandle" ∧ yX9_trace.cls ≠ "java/lang/invoke/VarHandle" ∧ (parseMethodDescriptor yX9_trace.desc).map (fun d => d.parameters.length) = some 2 := ⟨by decide +kernel, by decide +kernel, by decide +kernel⟩
theorem kiX9_trace : Cond.instanceMethod yX9_trace ∈ tb := (tq q_437 rfl)
theorem ksX9_trace : Cond.selects yX9_trace.cls yX9_trace yX9_trace ∈ tb := (tq q_438 rfl)
theorem tgX9_trace {x0 : Nat} {x1 : Int32} {x2 : Int32} {h : PH} {r : Int64 × PH} (hf : (fX9_trace x0 x1 x2).1 h = some r) : ∃ n x, nth h x0 = some (8, n, x) := by
  obtain ⟨_, _, e, _⟩ := pb_some hf
  exact (chk_some e).2
set_option maxHeartbeats 4000000 in
set_option maxRecDepth 100000 in
theorem metX9_trace (l : Launch) (G : GG) (ρ : Nat → Nat) {z : Nat} {x0 : Nat} {x1 : Int32} {x2 : Int32} {h hE : PH} {v : Int64} (hf : (fX9_trace x0 x1 x2).1 h = some (v, hE)) : Met l yX9_trace (wsY yX9_trace cX9_trace 4 (some .long)) (RM 5 125 h hE) (va_Pc [.ref (ρ x0), .int x1, .int x2] (PcB G ρ h z)) (QL G ρ v hE h.length z) (DC h hE) (DS h hE) (Af ρ h.length z) := by
  refine met_start (by decide) (Nat.le_of_ble_eq_true rfl) ?_
  intro p e s m below meth c ls hz C hW hl
  subst hz
  have C : Cx G "PairSymbols" cX9_trace 4 (some .long) "trace" p s m _ meth c := C
  have hx := C.1
  have hb := C.2.1
  have hX : Ext hE hE := Ext.rf hE
  have hl : lv_has ls 4 [(0, .ref (ρ x0)), (1, .int x1), (2, .int x2)] := hl
  have hW : Wd G ρ h.length (sl h) s.heap h s.heap [] 0 0 := hW
  unfold fX9_trace at hf
  obtain ⟨_, e0, hf⟩ := pb_rd (rd_chk _ _) hf
  refine lv_iload_n hx hb dX9_trace_0 rfl (lv_at hl 1 rfl) ?_
  refine lv_iconst (v := 1) hx hb dX9_trace_1 (by decide) ?_
  refine lv_bipush (v := 7) hx hb dX9_trace_2 (by decide) ?_
  obtain ⟨v1, h1, e1, hf⟩ := pb_some hf
  refine r_calli hW (pext e1) (run_S (As := [.int x1, .int (1 : Int32), .int (7 : Int32)]) (rest := []) C hW (metX9_within l G ρ e1) ⟨rfl, rfl⟩ kcX9_within (tq q_329 rfl) kiX9_within knX9_within kdX9_within ⟨Nat.le_of_ble_eq_true rfl, Nat.le_of_ble_eq_true rfl⟩ hl.1 (Nat.le_of_ble_eq_true rfl) (room_of hW (pext e1) ((pext hf).tr hX)) dX9_trace_4 rfl) (fun H locs c1 s1 hW => ?_)
  refine lv_if_eq (tgt := 19) hx hb dX9_trace_7 (by decide) (fun c2 => ?_) (fun c2 => ?_)
  · rw [if_pos c2] at hf
    refine lv_aload_n hx hb dX9_trace_19 rfl (lv_at hl 0 rfl) ?_
    refine lv_bipush (v := -2) hx hb dX9_trace_20 (by decide) ?_
    obtain ⟨v3, h3, e3, hf⟩ := pb_some hf
    obtain ⟨_, _, t4⟩ := tgX9_refuse e3
    refine r_calli hW (pext e3) (run_V (b := x0) (As := [.int (-2 : Int32)]) (rest := []) C hW (metX9_refuse l G ρ e3) ⟨rfl, rfl⟩ kcX9_refuse (tq q_343 rfl) kiX9_refuse ksX9_refuse knX9_refuse kdX9_refuse t4 rfl rfl ⟨Nat.le_of_ble_eq_true rfl, Nat.le_of_ble_eq_true rfl⟩ hl.1 (Nat.le_of_ble_eq_true rfl) (room_of hW (pext e3) ((pext hf).tr hX)) dX9_trace_22 rfl) (fun H locs c1 s1 hW => ?_)
    refine lv_pop hx hb dX9_trace_25 rfl ?_
    refine r_ldc2 (v := -9999) C (tq q_440 rfl) dX9_trace_26 ?_
    obtain ⟨rfl, rfl⟩ := pp_some hf
    exact r_lret C hW dX9_trace_29
  · rw [if_neg c2] at hf
    refine lv_iload_n hx hb dX9_trace_10 rfl (lv_at hl 2 rfl) ?_
    refine lv_iconst (v := 0) hx hb dX9_trace_11 (by decide) ?_
    refine lv_iconst (v := 1) hx hb dX9_trace_12 (by decide) ?_
    obtain ⟨v5, h5, e5, hf⟩ := pb_some hf
    refine r_calli hW (pext e5) (run_S (As := [.int x2, .int (0 : Int32), .int (1 : Int32)]) (rest := []) C hW (metX9_within l G ρ e5) ⟨rfl, rfl⟩ kcX9_within (tq q_329 rfl) kiX9_within knX9_within kdX9_within ⟨Nat.le_of_ble_eq_true rfl, Nat.le_of_ble_eq_true rfl⟩ hl.1 (Nat.le_of_ble_eq_true rfl) (room_of hW (pext e5) ((pext hf).tr hX)) dX9_trace_13 rfl) (fun H locs c1 s1 hW => ?_)
    refine lv_if_ne (tgt := 30) hx hb dX9_trace_16 (by decide) (fun c6 => ?_) (fun c6 => ?_)
    · rw [if_neg c6] at hf
      refine lv_aload_n hx hb dX9_trace_30 rfl (lv_at hl 0 rfl) ?_
      obtain ⟨v7, e7, hf⟩ := pb_rd (rd_gA _ _ _) hf
      refine r_gA C hW e7 flX9_23 rfl dX9_trace_31 ?_
      obtain ⟨v8, e8, hf⟩ := pb_rd (rd_gA _ _ _) hf
      refine r_gA C hW e8 flX9_62 rfl dX9_trace_34 ?_
      refine lv_iload_n hx hb dX9_trace_37 rfl (lv_at hl 1 rfl) ?_
      obtain ⟨v9, h9, e9, hf⟩ := pb_some hf
      obtain ⟨_, _, t10⟩ := tgX3_operatorFor e9
      refine r_calln hW (pext e9) (run_V (b := v8) (As := [.int x1]) (rest := []) C hW (metX3_operatorFor l G ρ e9) ⟨rfl, rfl⟩ kcX3_operatorFor (tq q_393 rfl) kiX3_operatorFor ksX3_operatorFor knX3_operatorFor kdX3_operatorFor t10 rfl rfl ⟨Nat.le_of_ble_eq_true rfl, Nat.le_of_ble_eq_true rfl⟩ hl.1 (Nat.le_of_ble_eq_true rfl) (room_of hW (pext e9) ((pext hf).tr hX)) dX9_trace_38 rfl) (fun H locs c1 s1 hW => ?_)
      refine r_astQn (lv' := [(3, va_rf (Option.map ρ v9)), (0, .ref (ρ x0)), (1, .int x1), (2, .int x2)]) hx hb dX9_trace_41 rfl hl (by decide) rfl (fun ls hl => ?_)
      refine r_aldQn hx hb dX9_trace_42 rfl (lv_at hl 0 rfl) ?_
      rcases v9 with _ | a11
      · have hl : lv_has ls 4 [(3, .null), (0, .ref (ρ x0)), (1, .int x1), (2, .int x2)] := hl
        try dsimp only at hf
        refine lv_ifnonnullN hx hb dX9_trace_43 ?_
        refine lv_aload_n hx hb dX9_trace_46 rfl (lv_at hl 1 rfl) ?_
        refine lv_bipush (v := -3) hx hb dX9_trace_47 (by decide) ?_
        obtain ⟨v12, h12, e12, hf⟩ := pb_some hf
        obtain ⟨_, _, t13⟩ := tgX9_refuse e12
        refine r_calli hW (pext e12) (run_V (b := x0) (As := [.int (-3 : Int32)]) (rest := []) C hW (metX9_refuse l G ρ e12) ⟨rfl, rfl⟩ kcX9_refuse (tq q_343 rfl) kiX9_refuse ksX9_refuse knX9_refuse kdX9_refuse t13 rfl rfl ⟨Nat.le_of_ble_eq_true rfl, Nat.le_of_ble_eq_true rfl⟩ hl.1 (Nat.le_of_ble_eq_true rfl) (room_of hW (pext e12) ((pext hf).tr hX)) dX9_trace_49 rfl) (fun H locs c1 s1 hW => ?_)
        refine lv_pop hx hb dX9_trace_52 rfl ?_
        refine r_ldc2 (v := -9998) C (tq q_441 rfl) dX9_trace_53 ?_
        obtain ⟨rfl, rfl⟩ := pp_some hf
        exact r_lret C hW dX9_trace_56
      · have hl : lv_has ls 4 [(3, .ref (ρ a11)), (0, .ref (ρ x0)), (1, .int x1), (2, .int x2)] := hl
        try dsimp only at hf
        refine lv_ifnonnull (tgt := 57) hx hb dX9_trace_43 (by decide) ?_
        refine lv_iload_n hx hb dX9_trace_57 rfl (lv_at hl 3 rfl) ?_
        refine lv_if_ne (tgt := 68) hx hb dX9_trace_58 (by decide) (fun c14 => ?_) (fun c14 => ?_)
        · rw [if_neg c14] at hf
          refine lv_aload_n hx hb dX9_trace_68 rfl (lv_at hl 0 rfl) ?_
          obtain ⟨v15, e15, hf⟩ := pb_rd (rd_gA _ _ _) hf
          refine r_gA C hW e15 flX9_147 rfl dX9_trace_69 ?_
          obtain ⟨v16, h16, e16, hf⟩ := pb_some hf
          refine r_calll hW (pext e16) (run_S (As := [.ref (ρ v15)]) (rest := []) C hW (metX4_diagonalSum l G ρ e16) ⟨rfl, rfl⟩ kcX4_diagonalSum (tq q_442 rfl) kiX4_diagonalSum knX4_diagonalSum kdX4_diagonalSum ⟨Nat.le_of_ble_eq_true rfl, Nat.le_of_ble_eq_true rfl⟩ hl.1 (Nat.le_of_ble_eq_true rfl) (room_of hW (pext e16) ((pext hf).tr hX)) dX9_trace_72 rfl) (fun H locs c1 s1 hW => ?_)
          obtain ⟨rfl, rfl⟩ := pp_some hf
          exact r_lret C hW dX9_trace_75
        · rw [if_pos c14] at hf
          refine lv_aload_n hx hb dX9_trace_61 rfl (lv_at hl 0 rfl) ?_
          obtain ⟨v17, e17, hf⟩ := pb_rd (rd_gA _ _ _) hf
          refine r_gA C hW e17 flX9_137 rfl dX9_trace_62 ?_
          refine lv_goto (tgt := 72) hx hb dX9_trace_65 (by decide) ?_
          obtain ⟨v18, h18, e18, hf⟩ := pb_some hf
          refine r_calll hW (pext e18) (run_S (As := [.ref (ρ v17)]) (rest := []) C hW (metX4_diagonalSum l G ρ e18) ⟨rfl, rfl⟩ kcX4_diagonalSum (tq q_442 rfl) kiX4_diagonalSum knX4_diagonalSum kdX4_diagonalSum ⟨Nat.le_of_ble_eq_true rfl, Nat.le_of_ble_eq_true rfl⟩ hl.1 (Nat.le_of_ble_eq_true rfl) (room_of hW (pext e18) ((pext hf).tr hX)) dX9_trace_72 rfl) (fun H locs c1 s1 hW => ?_)
          obtain ⟨rfl, rfl⟩ := pp_some hf
          exact r_lret C hW dX9_trace_75
    · rw [if_pos c6] at hf
      refine lv_aload_n hx hb dX9_trace_19 rfl (lv_at hl 0 rfl) ?_
      refine lv_bipush (v := -2) hx hb dX9_trace_20 (by decide) ?_
      obtain ⟨v19, h19, e19, hf⟩ := pb_some hf
      obtain ⟨_, _, t20⟩ := tgX9_refuse e19
      refine r_calli hW (pext e19) (run_V (b := x0) (As := [.int (-2 : Int32)]) (rest := []) C hW (metX9_refuse l G ρ e19) ⟨rfl, rfl⟩ kcX9_refuse (tq q_343 rfl) kiX9_refuse ksX9_refuse knX9_refuse kdX9_refuse t20 rfl rfl ⟨Nat.le_of_ble_eq_true rfl, Nat.le_of_ble_eq_true rfl⟩ hl.1 (Nat.le_of_ble_eq_true rfl) (room_of hW (pext e19) ((pext hf).tr hX)) dX9_trace_22 rfl) (fun H locs c1 s1 hW => ?_)
      refine lv_pop hx hb dX9_trace_25 rfl ?_
      refine r_ldc2 (v := -9999) C (tq q_440 rfl) dX9_trace_26 ?_
      obtain ⟨rfl, rfl⟩ := pp_some hf
      exact r_lret C hW dX9_trace_29

theorem dX4_addToDiagonal_0 : decode cX4_addToDiagonal 0 = .ok (.iconst 0, 1) := by decide +kernel
theorem dX4_addToDiagonal_1 : decode cX4_addToDiagonal 1 = .ok (.istore_n 3, 1) := by decide +kernel
theorem dX4_addToDiagonal_2 : decode cX4_addToDiagonal 2 = .ok (.iload_n 3, 1) := by decide +kernel
theorem dX4_addToDiagonal_3 : decode cX4_addToDiagonal 3 = .ok (.aload_n 2, 1) := by decide +kernel
theorem dX4_addToDiagonal_4 : decode cX4_addToDiagonal 4 = .ok (.arraylength, 1) := by decide +kernel
theorem dX4_addToDiagonal_5 : decode cX4_addToDiagonal 5 = .ok (.if_icmp .ge 18, 3) := by decide +kernel
theorem dX4_addToDiagonal_8 : decode cX4_addToDiagonal 8 = .ok (.aload_n 2, 1) := by decide +kernel
theorem dX4_addToDiagonal_9 : decode cX4_addToDiagonal 9 = .ok (.iload_n 3, 1) := by decide +kernel
theorem dX4_addToDiagonal_10 : decode cX4_addToDiagonal 10 = .ok (.aaload, 1) := by decide +kernel
theorem dX4_addToDiagonal_11 : decode cX4_addToDiagonal 11 = .ok (.iload_n 3, 1) := by decide +kernel
theorem dX4_addToDiagonal_12 : decode cX4_addToDiagonal 12 = .ok (.dup2, 1) := by decide +kernel
theorem dX4_addToDiagonal_13 : decode cX4_addToDiagonal 13 = .ok (.laload, 1) := by decide +kernel
theorem dX4_addToDiagonal_14 : decode cX4_addToDiagonal 14 = .ok (.lload_n 0, 1) := by decide +kernel
theorem dX4_addToDiagonal_15 : decode cX4_addToDiagonal 15 = .ok (.ladd, 1) := by decide +kernel
theorem dX4_addToDiagonal_16 : decode cX4_addToDiagonal 16 = .ok (.lastore, 1) := by decide +kernel
theorem dX4_addToDiagonal_17 : decode cX4_addToDiagonal 17 = .ok (.iinc 3 1, 3) := by decide +kernel
theorem dX4_addToDiagonal_20 : decode cX4_addToDiagonal 20 = .ok (.goto (-18), 3) := by decide +kernel
theorem dX4_addToDiagonal_23 : decode cX4_addToDiagonal 23 = .ok (.return_, 1) := by decide +kernel
theorem kcX4_addToDiagonal : Cond.code yX4_addToDiagonal cX4_addToDiagonal 4 none ∈ tb := tq q_461 rfl
theorem knX4_addToDiagonal : Cond.initialized yX4_addToDiagonal.cls ∈ tb := (tq q_13 rfl)
theorem kdX4_addToDiagonal : yX4_addToDiagonal.cls ≠ "java/lang/invoke/MethodHandle" ∧ yX4_addToDiagonal.cls ≠ "java/lang/invoke/VarHandle" ∧ (parseMethodDescriptor yX4_addToDiagonal.desc).map (fun d => d.parameters.length) = some 2 := ⟨by decide +kernel, by decide +kernel, by decide +kernel⟩
theorem kiX4_addToDiagonal : Cond.static yX4_addToDiagonal ∈ tb := (tq q_460 rfl)
set_option maxHeartbeats 4000000 in
set_option maxRecDepth 100000 in
theorem wX4_addToDiagonal_B2 {p : Program} {l : Launch} {e : Env} {s : State} {m : MethodId} {args : Array Value} {below : List Frame} {meth : Method} {c : Code} {G : GG} {ρ : Nat → Nat} {h0 hE hB : PH} {Q : State → Prop} {x0 : Int64} {x2 : Nat} (C : Cx G "PairSymbols$Matrices" cX4_addToDiagonal 4 none "addToDiagonal" p s m args meth c) {x3 : Int32} {h : PH} {H : Heap} {locs : List Loc} {cells slots : Nat} {ls : Array Slot} {r : (Int32) ⊕ (Unit)} (hf : (fX4_addToDiagonal_b2 x0 x2 x3).1 h = some (r, hB)) (hX : Ext hB hE) (hW : Wd G ρ h0.length (sl h0) s.heap h H locs cells slots) (hl : lv_has ls 4 [(0, .long x0), (2, .ref (ρ x2)), (3, .int x3)]) (kc : ∀ y : Int32, r = .inl y → ∀ (H : Heap) (locs : List Loc) (c1 s1 : Nat) (ls : Array Slot), Wd G ρ h0.length (sl h0) s.heap hB H locs c1 s1 → lv_has ls 4 [(0, .long x0), (2, .ref (ρ x2)), (3, .int y)] → W p l e (RM 0 0 h0 hE) s m args below meth c H locs c1 s1 Q (F0 m 2 ls [])) (ke : ∀ z : Unit, r = .inr z → ∀ (H : Heap) (locs : List Loc) (c1 s1 : Nat) (ls : Array Slot), Wd G ρ h0.length (sl h0) s.heap hB H locs c1 s1 → lv_has ls 4 [] → W p l e (RM 0 0 h0 hE) s m args below meth c H locs c1 s1 Q (F0 m 23 ls [])) : W p l e (RM 0 0 h0 hE) s m args below meth c H locs cells slots Q (F0 m 2 ls []) := by
  have hx := C.1
  have hb := C.2.1
  unfold fX4_addToDiagonal_b2 at hf
  refine lv_iload_n hx hb dX4_addToDiagonal_2 rfl (lv_at hl 2 rfl) ?_
  refine lv_aload_n hx hb dX4_addToDiagonal_3 rfl (lv_at hl 1 rfl) ?_
  obtain ⟨v1, e1, hf⟩ := pb_rd (rd_aln _) hf
  refine r_alen C hW e1 dX4_addToDiagonal_4 ?_
  refine lv_icmp_ge (tgt := 23) hx hb dX4_addToDiagonal_5 (by decide) (fun c2 => ?_) (fun c2 => ?_)
  · rw [if_pos c2] at hf
    obtain ⟨rfl, rfl⟩ := pp_some hf
    exact ke _ rfl _ _ _ _ _ hW (lv_sub hl [] rfl)
  · rw [if_neg c2] at hf
    refine lv_aload_n hx hb dX4_addToDiagonal_8 rfl (lv_at hl 1 rfl) ?_
    refine lv_iload_n hx hb dX4_addToDiagonal_9 rfl (lv_at hl 2 rfl) ?_
    obtain ⟨v3, e3, hf⟩ := pb_rd (rd_lA _ _ _) hf
    refine r_aald C hW e3 (by decide) (by decide) dX4_addToDiagonal_10 ?_
    refine lv_iload_n hx hb dX4_addToDiagonal_11 rfl (lv_at hl 2 rfl) ?_
    refine lv_dup2_11 hx hb dX4_addToDiagonal_12 rfl rfl ?_
    obtain ⟨v4, e4, hf⟩ := pb_rd (rd_lJ _ _ _) hf
    refine r_lald C hW e4 dX4_addToDiagonal_13 ?_
    refine lv_lload_n hx hb dX4_addToDiagonal_14 rfl (lv_at hl 0 rfl) ?_
    refine lv_ladd hx hb dX4_addToDiagonal_15 ?_
    obtain ⟨_, h5, e5, hf⟩ := pb_some hf
    refine r_last C hW e5 dX4_addToDiagonal_16 (fun H locs hW => ?_)
    refine lv_iinc (v := (x3 + 1)) (lv' := [(3, .int (x3 + 1)), (0, .long x0), (2, .ref (ρ x2))]) hx hb dX4_addToDiagonal_17 hl (k := 2) rfl rfl (by decide) rfl (fun ls hl => ?_)
    refine lv_goto (tgt := 2) hx hb dX4_addToDiagonal_20 (by decide) ?_
    obtain ⟨rfl, rfl⟩ := pp_some hf
    exact kc _ rfl _ _ _ _ _ hW (lv_sub hl [1, 2, 0] rfl)
set_option maxHeartbeats 4000000 in
theorem wX4_addToDiagonal_L2 {p : Program} {l : Launch} {e : Env} {s : State} {m : MethodId} {args : Array Value} {below : List Frame} {meth : Method} {c : Code} {G : GG} {ρ : Nat → Nat} {h0 hE hB : PH} {Q : State → Prop} {x0 : Int64} {x2 : Nat} (C : Cx G "PairSymbols$Matrices" cX4_addToDiagonal 4 none "addToDiagonal" p s m args meth c) {z : (Unit)} (n : Nat) : ∀ (x : Int32) {h : PH} {H : Heap} {locs : List Loc} {cells slots : Nat} {ls : Array Slot}, (plo (fX4_addToDiagonal_B2 x0 x2) n x).1 h = some (z, hB) → Ext hB hE → Wd G ρ h0.length (sl h0) s.heap h H locs cells slots → lv_has ls 4 [(0, .long x0), (2, .ref (ρ x2)), (3, .int x)] → (ke : ∀ (H : Heap) (locs : List Loc) (c1 s1 : Nat) (ls : Array Slot), Wd G ρ h0.length (sl h0) s.heap hB H locs c1 s1 → lv_has ls 4 [] → W p l e (RM 0 0 h0 hE) s m args below meth c H locs c1 s1 Q (F0 m 23 ls [])) → W p l e (RM 0 0 h0 hE) s m args below meth c H locs cells slots Q (F0 m 2 ls []) := by
  induction n with
  | zero =>
    intro x h H locs cells slots ls hf
    rw [plo_0] at hf
    exact (pf_no hf).elim
  | succ n ih =>
    intro x h H locs cells slots ls hf hX hW hl ke
    rw [plo_s] at hf
    obtain ⟨r, h1, e1, hf⟩ := pb_some hf
    unfold fX4_addToDiagonal_B2 at e1
    rw [frI_eq] at e1
    refine wX4_addToDiagonal_B2 C e1 ((pext hf).tr hX) hW hl (fun y hr H locs c1 s1 ls hW hl => ?_) (fun y hr H locs c1 s1 ls hW hl => ?_)
    · subst hr
      exact ih y hf hX hW hl ke
    · subst hr
      obtain ⟨rfl, rfl⟩ := pp_some hf
      exact ke H locs c1 s1 ls hW hl
set_option maxHeartbeats 4000000 in
set_option maxRecDepth 100000 in
theorem metX4_addToDiagonal (l : Launch) (G : GG) (ρ : Nat → Nat) {z : Nat} {x0 : Int64} {x2 : Nat} {h hE : PH} {v : Unit} (hf : (fX4_addToDiagonal x0 x2).1 h = some (v, hE)) : Met l yX4_addToDiagonal (wsY yX4_addToDiagonal cX4_addToDiagonal 4 none) (RM 0 0 h hE) (va_Pc [.long x0, .ref (ρ x2)] (PcB G ρ h z)) (QV G ρ hE h.length z) (DC h hE) (DS h hE) (Af ρ h.length z) := by
  refine met_start (by decide) (Nat.le_of_ble_eq_true rfl) ?_
  intro p e s m below meth c ls hz C hW hl
  subst hz
  have C : Cx G "PairSymbols$Matrices" cX4_addToDiagonal 4 none "addToDiagonal" p s m _ meth c := C
  have hx := C.1
  have hb := C.2.1
  have hX : Ext hE hE := Ext.rf hE
  have hl : lv_has ls 4 [(0, .long x0), (2, .ref (ρ x2))] := hl
  have hW : Wd G ρ h.length (sl h) s.heap h s.heap [] 0 0 := hW
  unfold fX4_addToDiagonal at hf
  refine lv_iconst (v := 0) hx hb dX4_addToDiagonal_0 (by decide) ?_
  refine lv_istore_n (lv' := [(3, .int (0 : Int32)), (0, .long x0), (2, .ref (ρ x2))]) hx hb dX4_addToDiagonal_1 rfl hl (by decide) rfl (fun ls hl => ?_)
  obtain ⟨z6, h6, e6, hf⟩ := pb_some hf
  refine wX4_addToDiagonal_L2 C fu _ e6 ((pext hf).tr hX) hW (lv_sub hl [1, 2, 0] rfl) (fun H locs c1 s1 ls hW hl => ?_)
  obtain ⟨rfl, rfl⟩ := pp_some hf
  exact r_vret C hW dX4_addToDiagonal_23

theorem dX4_multiply_0 : decode cX4_multiply 0 = .ok (.aload_n 0, 1) := by decide +kernel
theorem dX4_multiply_1 : decode cX4_multiply 1 = .ok (.arraylength, 1) := by decide +kernel
theorem dX4_multiply_2 : decode cX4_multiply 2 = .ok (.istore_n 3, 1) := by decide +kernel
theorem dX4_multiply_3 : decode cX4_multiply 3 = .ok (.iconst 0, 1) := by decide +kernel
theorem dX4_multiply_4 : decode cX4_multiply 4 = .ok (.istore 4, 2) := by decide +kernel
theorem dX4_multiply_6 : decode cX4_multiply 6 = .ok (.iload 4, 2) := by decide +kernel
theorem dX4_multiply_8 : decode cX4_multiply 8 = .ok (.iload_n 3, 1) := by decide +kernel
theorem dX4_multiply_9 : decode cX4_multiply 9 = .ok (.if_icmp .ge 71, 3) := by decide +kernel
theorem dX4_multiply_12 : decode cX4_multiply 12 = .ok (.iconst 0, 1) := by decide +kernel
theorem dX4_multiply_13 : decode cX4_multiply 13 = .ok (.istore 5, 2) := by decide +kernel
theorem dX4_multiply_15 : decode cX4_multiply 15 = .ok (.iload 5, 2) := by decide +kernel
theorem dX4_multiply_17 : decode cX4_multiply 17 = .ok (.iload_n 3, 1) := by decide +kernel
theorem dX4_multiply_18 : decode cX4_multiply 18 = .ok (.if_icmp .ge 56, 3) := by decide +kernel
theorem dX4_multiply_21 : decode cX4_multiply 21 = .ok (.lconst 0, 1) := by decide +kernel
theorem dX4_multiply_22 : decode cX4_multiply 22 = .ok (.lstore 6, 2) := by decide +kernel
theorem dX4_multiply_24 : decode cX4_multiply 24 = .ok (.iconst 0, 1) := by decide +kernel
theorem dX4_multiply_25 : decode cX4_multiply 25 = .ok (.istore 8, 2) := by decide +kernel
theorem dX4_multiply_27 : decode cX4_multiply 27 = .ok (.iload 8, 2) := by decide +kernel
theorem dX4_multiply_29 : decode cX4_multiply 29 = .ok (.iload_n 3, 1) := by decide +kernel
theorem dX4_multiply_30 : decode cX4_multiply 30 = .ok (.if_icmp .ge 29, 3) := by decide +kernel
theorem dX4_multiply_33 : decode cX4_multiply 33 = .ok (.lload 6, 2) := by decide +kernel
theorem dX4_multiply_35 : decode cX4_multiply 35 = .ok (.aload_n 0, 1) := by decide +kernel
theorem dX4_multiply_36 : decode cX4_multiply 36 = .ok (.iload 4, 2) := by decide +kernel
theorem dX4_multiply_38 : decode cX4_multiply 38 = .ok (.aaload, 1) := by decide +kernel
theorem dX4_multiply_39 : decode cX4_multiply 39 = .ok (.iload 8, 2) := by decide +kernel
theorem dX4_multiply_41 : decode cX4_multiply 41 = .ok (.laload, 1) := by decide +kernel
theorem dX4_multiply_42 : decode cX4_multiply 42 = .ok (.aload_n 1, 1) := by decide +kernel
theorem dX4_multiply_43 : decode cX4_multiply 43 = .ok (.iload 8, 2) := by decide +kernel
theorem dX4_multiply_45 : decode cX4_multiply 45 = .ok (.aaload, 1) := by decide +kernel
theorem dX4_multiply_46 : decode cX4_multiply 46 = .ok (.iload 5, 2) := by decide +kernel
theorem dX4_multiply_48 : decode cX4_multiply 48 = .ok (.laload, 1) := by decide +kernel
theorem dX4_multiply_49 : decode cX4_multiply 49 = .ok (.lmul, 1) := by decide +kernel
theorem dX4_multiply_50 : decode cX4_multiply 50 = .ok (.ladd, 1) := by decide +kernel
theorem dX4_multiply_51 : decode cX4_multiply 51 = .ok (.lstore 6, 2) := by decide +kernel
theorem dX4_multiply_53 : decode cX4_multiply 53 = .ok (.iinc 8 1, 3) := by decide +kernel
theorem dX4_multiply_56 : decode cX4_multiply 56 = .ok (.goto (-29), 3) := by decide +kernel
theorem dX4_multiply_59 : decode cX4_multiply 59 = .ok (.aload_n 2, 1) := by decide +kernel
theorem dX4_multiply_60 : decode cX4_multiply 60 = .ok (.iload 4, 2) := by decide +kernel
theorem dX4_multiply_62 : decode cX4_multiply 62 = .ok (.aaload, 1) := by decide +kernel
theorem dX4_multiply_63 : decode cX4_multiply 63 = .ok (.iload 5, 2) := by decide +kernel
theorem dX4_multiply_65 : decode cX4_multiply 65 = .ok (.lload 6, 2) := by decide +kernel
theorem dX4_multiply_67 : decode cX4_multiply 67 = .ok (.lastore, 1) := by decide +kernel
theorem dX4_multiply_68 : decode cX4_multiply 68 = .ok (.iinc 5 1, 3) := by decide +kernel
theorem dX4_multiply_71 : decode cX4_multiply 71 = .ok (.goto (-56), 3) := by decide +kernel
theorem dX4_multiply_74 : decode cX4_multiply 74 = .ok (.iinc 4 1, 3) := by decide +kernel
theorem dX4_multiply_77 : decode cX4_multiply 77 = .ok (.goto (-71), 3) := by decide +kernel
theorem dX4_multiply_80 : decode cX4_multiply 80 = .ok (.return_, 1) := by decide +kernel
theorem kcX4_multiply : Cond.code yX4_multiply cX4_multiply 9 none ∈ tb := tq q_464 rfl
theorem knX4_multiply : Cond.initialized yX4_multiply.cls ∈ tb := (tq q_13 rfl)
theorem kdX4_multiply : yX4_multiply.cls ≠ "java/lang/invoke/MethodHandle" ∧ yX4_multiply.cls ≠ "java/lang/invoke/VarHandle" ∧ (parseMethodDescriptor yX4_multiply.desc).map (fun d => d.parameters.length) = some 3 := ⟨by decide +kernel, by decide +kernel, by decide +kernel⟩
theorem kiX4_multiply : Cond.static yX4_multiply ∈ tb := (tq q_463 rfl)
set_option maxHeartbeats 4000000 in
set_option maxRecDepth 100000 in
theorem wX4_multiply_B27 {p : Program} {l : Launch} {e : Env} {s : State} {m : MethodId} {args : Array Value} {below : List Frame} {meth : Method} {c : Code} {G : GG} {ρ : Nat → Nat} {h0 hE hB : PH} {Q : State → Prop} {x0 : Nat} {x1 : Nat} {x2 : Nat} {x3 : Int32} {x4 : Int32} {x5 : Int32} (C : Cx G "PairSymbols$Matrices" cX4_multiply 9 none "multiply" p s m args meth c) {x6 : Int64} {x8 : Int32} {h : PH} {H : Heap} {locs : List Loc} {cells slots : Nat} {ls : Array Slot} {r : (Int64 × Int32) ⊕ (Int64)} (hf : (fX4_multiply_b27 x0 x1 x2 x3 x4 x5 x6 x8).1 h = some (r, hB)) (hX : Ext hB hE) (hW : Wd G ρ h0.length (sl h0) s.heap h H locs cells slots) (hl : lv_has ls 9 [(0, .ref (ρ x0)), (1, .ref (ρ x1)), (2, .ref (ρ x2)), (3, .int x3), (4, .int x4), (5, .int x5), (6, .long x6), (8, .int x8)]) (kc : ∀ y : Int64 × Int32, r = .inl y → ∀ (H : Heap) (locs : List Loc) (c1 s1 : Nat) (ls : Array Slot), Wd G ρ h0.length (sl h0) s.heap hB H locs c1 s1 → lv_has ls 9 [(0, .ref (ρ x0)), (1, .ref (ρ x1)), (2, .ref (ρ x2)), (3, .int x3), (4, .int x4), (5, .int x5), (6, .long y.1), (8, .int y.2)] → W p l e (RM 0 0 h0 hE) s m args below meth c H locs c1 s1 Q (F0 m 27 ls [])) (ke : ∀ z : Int64, r = .inr z → ∀ (H : Heap) (locs : List Loc) (c1 s1 : Nat) (ls : Array Slot), Wd G ρ h0.length (sl h0) s.heap hB H locs c1 s1 → lv_has ls 9 [(0, .ref (ρ x0)), (1, .ref (ρ x1)), (2, .ref (ρ x2)), (3, .int x3), (4, .int x4), (5, .int x5), (6, .long z)] → W p l e (RM 0 0 h0 hE) s m args below meth c H locs c1 s1 Q (F0 m 59 ls [])) : W p l e (RM 0 0 h0 hE) s m args below meth c H locs cells slots Q (F0 m 27 ls []) := by
  have hx := C.1
  have hb := C.2.1
  unfold fX4_multiply_b27 at hf
  refine lv_iload hx hb dX4_multiply_27 (lv_at hl 7 rfl) ?_
  refine lv_iload_n hx hb dX4_multiply_29 rfl (lv_at hl 3 rfl) ?_
  refine lv_icmp_ge (tgt := 59) hx hb dX4_multiply_30 (by decide) (fun c4 => ?_) (fun c4 => ?_)
  · rw [if_pos c4] at hf
    obtain ⟨rfl, rfl⟩ := pp_some hf
    exact ke _ rfl _ _ _ _ _ hW (lv_sub hl [0, 1, 2, 3, 4, 5, 6] rfl)
  · rw [if_neg c4] at hf
    refine lv_lload hx hb dX4_multiply_33 (lv_at hl 6 rfl) ?_
    refine lv_aload_n hx hb dX4_multiply_35 rfl (lv_at hl 0 rfl) ?_
    refine lv_iload hx hb dX4_multiply_36 (lv_at hl 4 rfl) ?_
    obtain ⟨v5, e5, hf⟩ := pb_rd (rd_lA _ _ _) hf
    refine r_aald C hW e5 (by decide) (by decide) dX4_multiply_38 ?_
    refine lv_iload hx hb dX4_multiply_39 (lv_at hl 7 rfl) ?_
    obtain ⟨v6, e6, hf⟩ := pb_rd (rd_lJ _ _ _) hf
    refine r_lald C hW e6 dX4_multiply_41 ?_
    refine lv_aload_n hx hb dX4_multiply_42 rfl (lv_at hl 1 rfl) ?_
    refine lv_iload hx hb dX4_multiply_43 (lv_at hl 7 rfl) ?_
    obtain ⟨v7, e7, hf⟩ := pb_rd (rd_lA _ _ _) hf
    refine r_aald C hW e7 (by decide) (by decide) dX4_multiply_45 ?_
    refine lv_iload hx hb dX4_multiply_46 (lv_at hl 5 rfl) ?_
    obtain ⟨v8, e8, hf⟩ := pb_rd (rd_lJ _ _ _) hf
    refine r_lald C hW e8 dX4_multiply_48 ?_
    refine lv_lmul hx hb dX4_multiply_49 ?_
    refine lv_ladd hx hb dX4_multiply_50 ?_
    refine lv_lstore (lv' := [(6, .long (x6 + (v6 * v8))), (0, .ref (ρ x0)), (1, .ref (ρ x1)), (2, .ref (ρ x2)), (3, .int x3), (4, .int x4), (5, .int x5), (8, .int x8)]) hx hb dX4_multiply_51 hl (by decide) rfl (fun ls hl => ?_)
    refine lv_iinc (v := (x8 + 1)) (lv' := [(8, .int (x8 + 1)), (6, .long (x6 + (v6 * v8))), (0, .ref (ρ x0)), (1, .ref (ρ x1)), (2, .ref (ρ x2)), (3, .int x3), (4, .int x4), (5, .int x5)]) hx hb dX4_multiply_53 hl (k := 7) rfl rfl (by decide) rfl (fun ls hl => ?_)
    refine lv_goto (tgt := 27) hx hb dX4_multiply_56 (by decide) ?_
    obtain ⟨rfl, rfl⟩ := pp_some hf
    exact kc _ rfl _ _ _ _ _ hW (lv_sub hl [2, 3, 4, 5, 6, 7, 1, 0] rfl)
set_option maxHeartbeats 4000000 in
theorem wX4_multiply_L27 {p : Program} {l : Launch} {e : Env} {s : State} {m : MethodId} {args : Array Value} {below : List Frame} {meth : Method} {c : Code} {G : GG} {ρ : Nat → Nat} {h0 hE hB : PH} {Q : State → Prop} {x0 : Nat} {x1 : Nat} {x2 : Nat} {x3 : Int32} {x4 : Int32} {x5 : Int32} (C : Cx G "PairSymbols$Matrices" cX4_multiply 9 none "multiply" p s m args meth c) {z : (Int64)} (n : Nat) : ∀ (x : Int64 × Int32) {h : PH} {H : Heap} {locs : List Loc} {cells slots : Nat} {ls : Array Slot}, (plo (fX4_multiply_B27 x0 x1 x2 x3 x4 x5) n x).1 h = some (z, hB) → Ext hB hE → Wd G ρ h0.length (sl h0) s.heap h H locs cells slots → lv_has ls 9 [(0, .ref (ρ x0)), (1, .ref (ρ x1)), (2, .ref (ρ x2)), (3, .int x3), (4, .int x4), (5, .int x5), (6, .long x.1), (8, .int x.2)] → (ke : ∀ (H : Heap) (locs : List Loc) (c1 s1 : Nat) (ls : Array Slot), Wd G ρ h0.length (sl h0) s.heap hB H locs c1 s1 → lv_has ls 9 [(0, .ref (ρ x0)), (1, .ref (ρ x1)), (2, .ref (ρ x2)), (3, .int x3), (4, .int x4), (5, .int x5), (6, .long z)] → W p l e (RM 0 0 h0 hE) s m args below meth c H locs c1 s1 Q (F0 m 59 ls [])) → W p l e (RM 0 0 h0 hE) s m args below meth c H locs cells slots Q (F0 m 27 ls []) := by
  induction n with
  | zero =>
    intro x h H locs cells slots ls hf
    rw [plo_0] at hf
    exact (pf_no hf).elim
  | succ n ih =>
    intro x h H locs cells slots ls hf hX hW hl ke
    rw [plo_s] at hf
    obtain ⟨r, h1, e1, hf⟩ := pb_some hf
    unfold fX4_multiply_B27 at e1
    rw [frJ_eq, frI_eq] at e1
    refine wX4_multiply_B27 C e1 ((pext hf).tr hX) hW hl (fun y hr H locs c1 s1 ls hW hl => ?_) (fun y hr H locs c1 s1 ls hW hl => ?_)
    · subst hr
      exact ih y hf hX hW hl ke
    · subst hr
      obtain ⟨rfl, rfl⟩ := pp_some hf
      exact ke H locs c1 s1 ls hW hl
set_option maxHeartbeats 4000000 in
set_option maxRecDepth 100000 in
theorem wX4_multiply_B15 {p : Program} {l : Launch} {e : Env} {s : State} {m : MethodId} {args : Array Value} {below : List Frame} {meth : Method} {c : Code} {G : GG} {ρ : Nat → Nat} {h0 hE hB : PH} {Q : State → Prop} {x0 : Nat} {x1 : Nat} {x2 : Nat} {x3 : Int32} {x4 : Int32} (C : Cx G "PairSymbols$Matrices" cX4_multiply 9 none "multiply" p s m args meth c) {x5 : Int32} {h : PH} {H : Heap} {locs : List Loc} {cells slots : Nat} {ls : Array Slot} {r : (Int32) ⊕ (Unit)} (hf : (fX4_multiply_b15 x0 x1 x2 x3 x4 x5).1 h = some (r, hB)) (hX : Ext hB hE) (hW : Wd G ρ h0.length (sl h0) s.heap h H locs cells slots) (hl : lv_has ls 9 [(0, .ref (ρ x0)), (1, .ref (ρ x1)), (2, .ref (ρ x2)), (3, .int x3), (4, .int x4), (5, .int x5)]) (kc : ∀ y : Int32, r = .inl y → ∀ (H : Heap) (locs : List Loc) (c1 s1 : Nat) (ls : Array Slot), Wd G ρ h0.length (sl h0) s.heap hB H locs c1 s1 → lv_has ls 9 [(0, .ref (ρ x0)), (1, .ref (ρ x1)), (2, .ref (ρ x2)), (3, .int x3), (4, .int x4), (5, .int y)] → W p l e (RM 0 0 h0 hE) s m args below meth c H locs c1 s1 Q (F0 m 15 ls [])) (ke : ∀ z : Unit, r = .inr z → ∀ (H : Heap) (locs : List Loc) (c1 s1 : Nat) (ls : Array Slot), Wd G ρ h0.length (sl h0) s.heap hB H locs c1 s1 → lv_has ls 9 [(0, .ref (ρ x0)), (1, .ref (ρ x1)), (2, .ref (ρ x2)), (3, .int x3), (4, .int x4)] → W p l e (RM 0 0 h0 hE) s m args below meth c H locs c1 s1 Q (F0 m 74 ls [])) : W p l e (RM 0 0 h0 hE) s m args below meth c H locs cells slots Q (F0 m 15 ls []) := by
  have hx := C.1
  have hb := C.2.1
  unfold fX4_multiply_b15 at hf
  refine lv_iload hx hb dX4_multiply_15 (lv_at hl 5 rfl) ?_
  refine lv_iload_n hx hb dX4_multiply_17 rfl (lv_at hl 3 rfl) ?_
  refine lv_icmp_ge (tgt := 74) hx hb dX4_multiply_18 (by decide) (fun c3 => ?_) (fun c3 => ?_)
  · rw [if_pos c3] at hf
    obtain ⟨rfl, rfl⟩ := pp_some hf
    exact ke _ rfl _ _ _ _ _ hW (lv_sub hl [0, 1, 2, 3, 4] rfl)
  · rw [if_neg c3] at hf
    refine lv_lconst (v := 0) hx hb dX4_multiply_21 (by decide) ?_
    refine lv_lstore (lv' := [(6, .long (0 : Int64)), (0, .ref (ρ x0)), (1, .ref (ρ x1)), (2, .ref (ρ x2)), (3, .int x3), (4, .int x4), (5, .int x5)]) hx hb dX4_multiply_22 hl (by decide) rfl (fun ls hl => ?_)
    refine lv_iconst (v := 0) hx hb dX4_multiply_24 (by decide) ?_
    refine lv_istore (lv' := [(8, .int (0 : Int32)), (6, .long (0 : Int64)), (0, .ref (ρ x0)), (1, .ref (ρ x1)), (2, .ref (ρ x2)), (3, .int x3), (4, .int x4), (5, .int x5)]) hx hb dX4_multiply_25 hl (by decide) rfl (fun ls hl => ?_)
    obtain ⟨z9, h9, e9, hf⟩ := pb_some hf
    refine wX4_multiply_L27 C fu _ e9 ((pext hf).tr hX) hW (lv_sub hl [2, 3, 4, 5, 6, 7, 1, 0] rfl) (fun H locs c1 s1 ls hW hl => ?_)
    refine lv_aload_n hx hb dX4_multiply_59 rfl (lv_at hl 2 rfl) ?_
    refine lv_iload hx hb dX4_multiply_60 (lv_at hl 4 rfl) ?_
    obtain ⟨v10, e10, hf⟩ := pb_rd (rd_lA _ _ _) hf
    refine r_aald C hW e10 (by decide) (by decide) dX4_multiply_62 ?_
    refine lv_iload hx hb dX4_multiply_63 (lv_at hl 5 rfl) ?_
    refine lv_lload hx hb dX4_multiply_65 (lv_at hl 6 rfl) ?_
    obtain ⟨_, h11, e11, hf⟩ := pb_some hf
    refine r_last C hW e11 dX4_multiply_67 (fun H locs hW => ?_)
    refine lv_iinc (v := (x5 + 1)) (lv' := [(5, .int (x5 + 1)), (0, .ref (ρ x0)), (1, .ref (ρ x1)), (2, .ref (ρ x2)), (3, .int x3), (4, .int x4), (6, .long z9)]) hx hb dX4_multiply_68 hl (k := 5) rfl rfl (by decide) rfl (fun ls hl => ?_)
    refine lv_goto (tgt := 15) hx hb dX4_multiply_71 (by decide) ?_
    obtain ⟨rfl, rfl⟩ := pp_some hf
    exact kc _ rfl _ _ _ _ _ hW (lv_sub hl [1, 2, 3, 4, 5, 0] rfl)
set_option maxHeartbeats 4000000 in
theorem wX4_multiply_L15 {p : Program} {l : Launch} {e : Env} {s : State} {m : MethodId} {args : Array Value} {below : List Frame} {meth : Method} {c : Code} {G : GG} {ρ : Nat → Nat} {h0 hE hB : PH} {Q : State → Prop} {x0 : Nat} {x1 : Nat} {x2 : Nat} {x3 : Int32} {x4 : Int32} (C : Cx G "PairSymbols$Matrices" cX4_multiply 9 none "multiply" p s m args meth c) {z : (Unit)} (n : Nat) : ∀ (x : Int32) {h : PH} {H : Heap} {locs : List Loc} {cells slots : Nat} {ls : Array Slot}, (plo (fX4_multiply_B15 x0 x1 x2 x3 x4) n x).1 h = some (z, hB) → Ext hB hE → Wd G ρ h0.length (sl h0) s.heap h H locs cells slots → lv_has ls 9 [(0, .ref (ρ x0)), (1, .ref (ρ x1)), (2, .ref (ρ x2)), (3, .int x3), (4, .int x4), (5, .int x)] → (ke : ∀ (H : Heap) (locs : List Loc) (c1 s1 : Nat) (ls : Array Slot), Wd G ρ h0.length (sl h0) s.heap hB H locs c1 s1 → lv_has ls 9 [(0, .ref (ρ x0)), (1, .ref (ρ x1)), (2, .ref (ρ x2)), (3, .int x3), (4, .int x4)] → W p l e (RM 0 0 h0 hE) s m args below meth c H locs c1 s1 Q (F0 m 74 ls [])) → W p l e (RM 0 0 h0 hE) s m args below meth c H locs cells slots Q (F0 m 15 ls []) := by
  induction n with
  | zero =>
    intro x h H locs cells slots ls hf
    rw [plo_0] at hf
    exact (pf_no hf).elim
  | succ n ih =>
    intro x h H locs cells slots ls hf hX hW hl ke
    rw [plo_s] at hf
    obtain ⟨r, h1, e1, hf⟩ := pb_some hf
    unfold fX4_multiply_B15 at e1
    rw [frI_eq] at e1
    refine wX4_multiply_B15 C e1 ((pext hf).tr hX) hW hl (fun y hr H locs c1 s1 ls hW hl => ?_) (fun y hr H locs c1 s1 ls hW hl => ?_)
    · subst hr
      exact ih y hf hX hW hl ke
    · subst hr
      obtain ⟨rfl, rfl⟩ := pp_some hf
      exact ke H locs c1 s1 ls hW hl
set_option maxHeartbeats 4000000 in
set_option maxRecDepth 100000 in
theorem wX4_multiply_B6 {p : Program} {l : Launch} {e : Env} {s : State} {m : MethodId} {args : Array Value} {below : List Frame} {meth : Method} {c : Code} {G : GG} {ρ : Nat → Nat} {h0 hE hB : PH} {Q : State → Prop} {x0 : Nat} {x1 : Nat} {x2 : Nat} {x3 : Int32} (C : Cx G "PairSymbols$Matrices" cX4_multiply 9 none "multiply" p s m args meth c) {x4 : Int32} {h : PH} {H : Heap} {locs : List Loc} {cells slots : Nat} {ls : Array Slot} {r : (Int32) ⊕ (Unit)} (hf : (fX4_multiply_b6 x0 x1 x2 x3 x4).1 h = some (r, hB)) (hX : Ext hB hE) (hW : Wd G ρ h0.length (sl h0) s.heap h H locs cells slots) (hl : lv_has ls 9 [(0, .ref (ρ x0)), (1, .ref (ρ x1)), (2, .ref (ρ x2)), (3, .int x3), (4, .int x4)]) (kc : ∀ y : Int32, r = .inl y → ∀ (H : Heap) (locs : List Loc) (c1 s1 : Nat) (ls : Array Slot), Wd G ρ h0.length (sl h0) s.heap hB H locs c1 s1 → lv_has ls 9 [(0, .ref (ρ x0)), (1, .ref (ρ x1)), (2, .ref (ρ x2)), (3, .int x3), (4, .int y)] → W p l e (RM 0 0 h0 hE) s m args below meth c H locs c1 s1 Q (F0 m 6 ls [])) (ke : ∀ z : Unit, r = .inr z → ∀ (H : Heap) (locs : List Loc) (c1 s1 : Nat) (ls : Array Slot), Wd G ρ h0.length (sl h0) s.heap hB H locs c1 s1 → lv_has ls 9 [] → W p l e (RM 0 0 h0 hE) s m args below meth c H locs c1 s1 Q (F0 m 80 ls [])) : W p l e (RM 0 0 h0 hE) s m args below meth c H locs cells slots Q (F0 m 6 ls []) := by
  have hx := C.1
  have hb := C.2.1
  unfold fX4_multiply_b6 at hf
  refine lv_iload hx hb dX4_multiply_6 (lv_at hl 4 rfl) ?_
  refine lv_iload_n hx hb dX4_multiply_8 rfl (lv_at hl 3 rfl) ?_
  refine lv_icmp_ge (tgt := 80) hx hb dX4_multiply_9 (by decide) (fun c2 => ?_) (fun c2 => ?_)
  · rw [if_pos c2] at hf
    obtain ⟨rfl, rfl⟩ := pp_some hf
    exact ke _ rfl _ _ _ _ _ hW (lv_sub hl [] rfl)
  · rw [if_neg c2] at hf
    refine lv_iconst (v := 0) hx hb dX4_multiply_12 (by decide) ?_
    refine lv_istore (lv' := [(5, .int (0 : Int32)), (0, .ref (ρ x0)), (1, .ref (ρ x1)), (2, .ref (ρ x2)), (3, .int x3), (4, .int x4)]) hx hb dX4_multiply_13 hl (by decide) rfl (fun ls hl => ?_)
    obtain ⟨z12, h12, e12, hf⟩ := pb_some hf
    refine wX4_multiply_L15 C fu _ e12 ((pext hf).tr hX) hW (lv_sub hl [1, 2, 3, 4, 5, 0] rfl) (fun H locs c1 s1 ls hW hl => ?_)
    refine lv_iinc (v := (x4 + 1)) (lv' := [(4, .int (x4 + 1)), (0, .ref (ρ x0)), (1, .ref (ρ x1)), (2, .ref (ρ x2)), (3, .int x3)]) hx hb dX4_multiply_74 hl (k := 4) rfl rfl (by decide) rfl (fun ls hl => ?_)
    refine lv_goto (tgt := 6) hx hb dX4_multiply_77 (by decide) ?_
    obtain ⟨rfl, rfl⟩ := pp_some hf
    exact kc _ rfl _ _ _ _ _ hW (lv_sub hl [1, 2, 3, 4, 0] rfl)
set_option maxHeartbeats 4000000 in
theorem wX4_multiply_L6 {p : Program} {l : Launch} {e : Env} {s : State} {m : MethodId} {args : Array Value} {below : List Frame} {meth : Method} {c : Code} {G : GG} {ρ : Nat → Nat} {h0 hE hB : PH} {Q : State → Prop} {x0 : Nat} {x1 : Nat} {x2 : Nat} {x3 : Int32} (C : Cx G "PairSymbols$Matrices" cX4_multiply 9 none "multiply" p s m args meth c) {z : (Unit)} (n : Nat) : ∀ (x : Int32) {h : PH} {H : Heap} {locs : List Loc} {cells slots : Nat} {ls : Array Slot}, (plo (fX4_multiply_B6 x0 x1 x2 x3) n x).1 h = some (z, hB) → Ext hB hE → Wd G ρ h0.length (sl h0) s.heap h H locs cells slots → lv_has ls 9 [(0, .ref (ρ x0)), (1, .ref (ρ x1)), (2, .ref (ρ x2)), (3, .int x3), (4, .int x)] → (ke : ∀ (H : Heap) (locs : List Loc) (c1 s1 : Nat) (ls : Array Slot), Wd G ρ h0.length (sl h0) s.heap hB H locs c1 s1 → lv_has ls 9 [] → W p l e (RM 0 0 h0 hE) s m args below meth c H locs c1 s1 Q (F0 m 80 ls [])) → W p l e (RM 0 0 h0 hE) s m args below meth c H locs cells slots Q (F0 m 6 ls []) := by
  induction n with
  | zero =>
    intro x h H locs cells slots ls hf
    rw [plo_0] at hf
    exact (pf_no hf).elim
  | succ n ih =>
    intro x h H locs cells slots ls hf hX hW hl ke
    rw [plo_s] at hf
    obtain ⟨r, h1, e1, hf⟩ := pb_some hf
    unfold fX4_multiply_B6 at e1
    rw [frI_eq] at e1
    refine wX4_multiply_B6 C e1 ((pext hf).tr hX) hW hl (fun y hr H locs c1 s1 ls hW hl => ?_) (fun y hr H locs c1 s1 ls hW hl => ?_)
    · subst hr
      exact ih y hf hX hW hl ke
    · subst hr
      obtain ⟨rfl, rfl⟩ := pp_some hf
      exact ke H locs c1 s1 ls hW hl
set_option maxHeartbeats 4000000 in
set_option maxRecDepth 100000 in
theorem metX4_multiply (l : Launch) (G : GG) (ρ : Nat → Nat) {z : Nat} {x0 : Nat} {x1 : Nat} {x2 : Nat} {h hE : PH} {v : Unit} (hf : (fX4_multiply x0 x1 x2).1 h = some (v, hE)) : Met l yX4_multiply (wsY yX4_multiply cX4_multiply 9 none) (RM 0 0 h hE) (va_Pc [.ref (ρ x0), .ref (ρ x1), .ref (ρ x2)] (PcB G ρ h z)) (QV G ρ hE h.length z) (DC h hE) (DS h hE) (Af ρ h.length z) := by
  refine met_start (by decide) (Nat.le_of_ble_eq_true rfl) ?_
  intro p e s m below meth c ls hz C hW hl
  subst hz
  have C : Cx G "PairSymbols$Matrices" cX4_multiply 9 none "multiply" p s m _ meth c := C
  have hx := C.1
  have hb := C.2.1
  have hX : Ext hE hE := Ext.rf hE
  have hl : lv_has ls 9 [(0, .ref (ρ x0)), (1, .ref (ρ x1)), (2, .ref (ρ x2))] := hl
  have hW : Wd G ρ h.length (sl h) s.heap h s.heap [] 0 0 := hW
  unfold fX4_multiply at hf
  refine lv_aload_n hx hb dX4_multiply_0 rfl (lv_at hl 0 rfl) ?_
  obtain ⟨v1, e1, hf⟩ := pb_rd (rd_aln _) hf
  refine r_alen C hW e1 dX4_multiply_1 ?_
  refine lv_istore_n (lv' := [(3, .int v1), (0, .ref (ρ x0)), (1, .ref (ρ x1)), (2, .ref (ρ x2))]) hx hb dX4_multiply_2 rfl hl (by decide) rfl (fun ls hl => ?_)
  refine lv_iconst (v := 0) hx hb dX4_multiply_3 (by decide) ?_
  refine lv_istore (lv' := [(4, .int (0 : Int32)), (3, .int v1), (0, .ref (ρ x0)), (1, .ref (ρ x1)), (2, .ref (ρ x2))]) hx hb dX4_multiply_4 hl (by decide) rfl (fun ls hl => ?_)
  obtain ⟨z13, h13, e13, hf⟩ := pb_some hf
  refine wX4_multiply_L6 C fu _ e13 ((pext hf).tr hX) hW (lv_sub hl [2, 3, 4, 1, 0] rfl) (fun H locs c1 s1 ls hW hl => ?_)
  obtain ⟨rfl, rfl⟩ := pp_some hf
  exact r_vret C hW dX4_multiply_80

theorem dX4_characteristic_0 : decode cX4_characteristic 0 = .ok (.aload_n 0, 1) := by decide +kernel
theorem dX4_characteristic_1 : decode cX4_characteristic 1 = .ok (.arraylength, 1) := by decide +kernel
theorem dX4_characteristic_2 : decode cX4_characteristic 2 = .ok (.istore_n 1, 1) := by decide +kernel
theorem dX4_characteristic_3 : decode cX4_characteristic 3 = .ok (.iload_n 1, 1) := by decide +kernel
theorem dX4_characteristic_4 : decode cX4_characteristic 4 = .ok (.iconst 1, 1) := by decide +kernel
theorem dX4_characteristic_5 : decode cX4_characteristic 5 = .ok (.iadd, 1) := by decide +kernel
theorem dX4_characteristic_6 : decode cX4_characteristic 6 = .ok (.newarray .long, 2) := by decide +kernel
theorem dX4_characteristic_8 : decode cX4_characteristic 8 = .ok (.astore_n 2, 1) := by decide +kernel
theorem dX4_characteristic_9 : decode cX4_characteristic 9 = .ok (.aload_n 2, 1) := by decide +kernel
theorem dX4_characteristic_10 : decode cX4_characteristic 10 = .ok (.iload_n 1, 1) := by decide +kernel
theorem dX4_characteristic_11 : decode cX4_characteristic 11 = .ok (.lconst 1, 1) := by decide +kernel
theorem dX4_characteristic_12 : decode cX4_characteristic 12 = .ok (.lastore, 1) := by decide +kernel
theorem dX4_characteristic_13 : decode cX4_characteristic 13 = .ok (.iload_n 1, 1) := by decide +kernel
theorem dX4_characteristic_14 : decode cX4_characteristic 14 = .ok (.iload_n 1, 1) := by decide +kernel
theorem dX4_characteristic_15 : decode cX4_characteristic 15 = .ok (.multianewarray 7 2, 4) := by decide +kernel
theorem dX4_characteristic_19 : decode cX4_characteristic 19 = .ok (.astore_n 3, 1) := by decide +kernel
theorem dX4_characteristic_20 : decode cX4_characteristic 20 = .ok (.iload_n 1, 1) := by decide +kernel
theorem dX4_characteristic_21 : decode cX4_characteristic 21 = .ok (.iload_n 1, 1) := by decide +kernel
theorem dX4_characteristic_22 : decode cX4_characteristic 22 = .ok (.multianewarray 7 2, 4) := by decide +kernel
theorem dX4_characteristic_26 : decode cX4_characteristic 26 = .ok (.astore 4, 2) := by decide +kernel
theorem dX4_characteristic_28 : decode cX4_characteristic 28 = .ok (.lconst 1, 1) := by decide +kernel
theorem dX4_characteristic_29 : decode cX4_characteristic 29 = .ok (.aload_n 3, 1) := by decide +kernel
theorem dX4_characteristic_30 : decode cX4_characteristic 30 = .ok (.invokestatic 9, 3) := by decide +kernel
theorem dX4_characteristic_33 : decode cX4_characteristic 33 = .ok (.iconst 1, 1) := by decide +kernel
theorem dX4_characteristic_34 : decode cX4_characteristic 34 = .ok (.istore 5, 2) := by decide +kernel
theorem dX4_characteristic_36 : decode cX4_characteristic 36 = .ok (.iload 5, 2) := by decide +kernel
theorem dX4_characteristic_38 : decode cX4_characteristic 38 = .ok (.iload_n 1, 1) := by decide +kernel
theorem dX4_characteristic_39 : decode cX4_characteristic 39 = .ok (.if_icmp .gt 53, 3) := by decide +kernel
theorem dX4_characteristic_42 : decode cX4_characteristic 42 = .ok (.aload_n 0, 1) := by decide +kernel
theorem dX4_characteristic_43 : decode cX4_characteristic 43 = .ok (.aload_n 3, 1) := by decide +kernel
theorem dX4_characteristic_44 : decode cX4_characteristic 44 = .ok (.aload 4, 2) := by decide +kernel
theorem dX4_characteristic_46 : decode cX4_characteristic 46 = .ok (.invokestatic 15, 3) := by decide +kernel
theorem dX4_characteristic_49 : decode cX4_characteristic 49 = .ok (.aload 4, 2) := by decide +kernel
theorem dX4_characteristic_51 : decode cX4_characteristic 51 = .ok (.invokestatic 19, 3) := by decide +kernel
theorem dX4_characteristic_54 : decode cX4_characteristic 54 = .ok (.lneg, 1) := by decide +kernel
theorem dX4_characteristic_55 : decode cX4_characteristic 55 = .ok (.iload 5, 2) := by decide +kernel
theorem dX4_characteristic_57 : decode cX4_characteristic 57 = .ok (.i2l, 1) := by decide +kernel
theorem dX4_characteristic_58 : decode cX4_characteristic 58 = .ok (.ldiv, 1) := by decide +kernel
theorem dX4_characteristic_59 : decode cX4_characteristic 59 = .ok (.lstore 6, 2) := by decide +kernel
theorem dX4_characteristic_61 : decode cX4_characteristic 61 = .ok (.aload_n 2, 1) := by decide +kernel
theorem dX4_characteristic_62 : decode cX4_characteristic 62 = .ok (.iload_n 1, 1) := by decide +kernel
theorem dX4_characteristic_63 : decode cX4_characteristic 63 = .ok (.iload 5, 2) := by decide +kernel
theorem dX4_characteristic_65 : decode cX4_characteristic 65 = .ok (.isub, 1) := by decide +kernel
theorem dX4_characteristic_66 : decode cX4_characteristic 66 = .ok (.lload 6, 2) := by decide +kernel
theorem dX4_characteristic_68 : decode cX4_characteristic 68 = .ok (.lastore, 1) := by decide +kernel
theorem dX4_characteristic_69 : decode cX4_characteristic 69 = .ok (.lload 6, 2) := by decide +kernel
theorem dX4_characteristic_71 : decode cX4_characteristic 71 = .ok (.aload 4, 2) := by decide +kernel
theorem dX4_characteristic_73 : decode cX4_characteristic 73 = .ok (.invokestatic 9, 3) := by decide +kernel
theorem dX4_characteristic_76 : decode cX4_characteristic 76 = .ok (.aload_n 3, 1) := by decide +kernel
theorem dX4_characteristic_77 : decode cX4_characteristic 77 = .ok (.astore 8, 2) := by decide +kernel
theorem dX4_characteristic_79 : decode cX4_characteristic 79 = .ok (.aload 4, 2) := by decide +kernel
theorem dX4_characteristic_81 : decode cX4_characteristic 81 = .ok (.astore_n 3, 1) := by decide +kernel
theorem dX4_characteristic_82 : decode cX4_characteristic 82 = .ok (.aload 8, 2) := by decide +kernel
theorem dX4_characteristic_84 : decode cX4_characteristic 84 = .ok (.astore 4, 2) := by decide +kernel
theorem dX4_characteristic_86 : decode cX4_characteristic 86 = .ok (.iinc 5 1, 3) := by decide +kernel
theorem dX4_characteristic_89 : decode cX4_characteristic 89 = .ok (.goto (-53), 3) := by decide +kernel
theorem dX4_characteristic_92 : decode cX4_characteristic 92 = .ok (.aload_n 2, 1) := by decide +kernel
theorem dX4_characteristic_93 : decode cX4_characteristic 93 = .ok (.areturn, 1) := by decide +kernel
theorem kcX4_characteristic : Cond.code yX4_characteristic cX4_characteristic 9 (some (.array .long)) ∈ tb := tq q_457 rfl
theorem knX4_characteristic : Cond.initialized yX4_characteristic.cls ∈ tb := (tq q_13 rfl)
theorem kdX4_characteristic : yX4_characteristic.cls ≠ "java/lang/invoke/MethodHandle" ∧ yX4_characteristic.cls ≠ "java/lang/invoke/VarHandle" ∧ (parseMethodDescriptor yX4_characteristic.desc).map (fun d => d.parameters.length) = some 1 := ⟨by decide +kernel, by decide +kernel, by decide +kernel⟩
theorem kiX4_characteristic : Cond.static yX4_characteristic ∈ tb := (tq q_456 rfl)
set_option maxHeartbeats 4000000 in
set_option maxRecDepth 100000 in
theorem wX4_characteristic_B36 {p : Program} {l : Launch} {e : Env} {s : State} {m : MethodId} {args : Array Value} {below : List Frame} {meth : Method} {c : Code} {G : GG} {ρ : Nat → Nat} {h0 hE hB : PH} {Q : State → Prop} {x0 : Nat} {x1 : Int32} {x2 : Nat} (C : Cx G "PairSymbols$Matrices" cX4_characteristic 9 (some (.array .long)) "characteristic" p s m args meth c) {x3 : Nat} {x4 : Nat} {x5 : Int32} {h : PH} {H : Heap} {locs : List Loc} {cells slots : Nat} {ls : Array Slot} {r : (Nat × Nat × Int32) ⊕ (Unit)} (hf : (fX4_characteristic_b36 x0 x1 x2 x3 x4 x5).1 h = some (r, hB)) (hX : Ext hB hE) (hW : Wd G ρ h0.length (sl h0) s.heap h H locs cells slots) (hl : lv_has ls 9 [(0, .ref (ρ x0)), (1, .int x1), (2, .ref (ρ x2)), (3, .ref (ρ x3)), (4, .ref (ρ x4)), (5, .int x5)]) (kc : ∀ y : Nat × Nat × Int32, r = .inl y → ∀ (H : Heap) (locs : List Loc) (c1 s1 : Nat) (ls : Array Slot), Wd G ρ h0.length (sl h0) s.heap hB H locs c1 s1 → lv_has ls 9 [(0, .ref (ρ x0)), (1, .int x1), (2, .ref (ρ x2)), (3, .ref (ρ y.1)), (4, .ref (ρ y.2.1)), (5, .int y.2.2)] → W p l e (RM 1 28 h0 hE) s m args below meth c H locs c1 s1 Q (F0 m 36 ls [])) (ke : ∀ z : Unit, r = .inr z → ∀ (H : Heap) (locs : List Loc) (c1 s1 : Nat) (ls : Array Slot), Wd G ρ h0.length (sl h0) s.heap hB H locs c1 s1 → lv_has ls 9 [(2, .ref (ρ x2))] → W p l e (RM 1 28 h0 hE) s m args below meth c H locs c1 s1 Q (F0 m 92 ls [])) : W p l e (RM 1 28 h0 hE) s m args below meth c H locs cells slots Q (F0 m 36 ls []) := by
  have hx := C.1
  have hb := C.2.1
  unfold fX4_characteristic_b36 at hf
  refine lv_iload hx hb dX4_characteristic_36 (lv_at hl 5 rfl) ?_
  refine lv_iload_n hx hb dX4_characteristic_38 rfl (lv_at hl 1 rfl) ?_
  refine lv_icmp_gt (tgt := 92) hx hb dX4_characteristic_39 (by decide) (fun c7 => ?_) (fun c7 => ?_)
  · rw [if_pos c7] at hf
    obtain ⟨rfl, rfl⟩ := pp_some hf
    exact ke _ rfl _ _ _ _ _ hW (lv_sub hl [2] rfl)
  · rw [if_neg c7] at hf
    refine lv_aload_n hx hb dX4_characteristic_42 rfl (lv_at hl 0 rfl) ?_
    refine lv_aload_n hx hb dX4_characteristic_43 rfl (lv_at hl 3 rfl) ?_
    refine lv_aload hx hb dX4_characteristic_44 (lv_at hl 4 rfl) ?_
    obtain ⟨_, h8, e8, hf⟩ := pb_some hf
    refine r_callv hW (pext e8) (run_S (As := [.ref (ρ x0), .ref (ρ x3), .ref (ρ x4)]) (rest := []) C hW (metX4_multiply l G ρ e8) ⟨rfl, rfl⟩ kcX4_multiply (tq q_462 rfl) kiX4_multiply knX4_multiply kdX4_multiply ⟨Nat.le_of_ble_eq_true rfl, Nat.le_of_ble_eq_true rfl⟩ hl.1 (Nat.le_of_ble_eq_true rfl) (room_of hW (pext e8) ((pext hf).tr hX)) dX4_characteristic_46 rfl) (fun H locs c1 s1 hW => ?_)
    refine lv_aload hx hb dX4_characteristic_49 (lv_at hl 4 rfl) ?_
    obtain ⟨v9, h9, e9, hf⟩ := pb_some hf
    refine r_calll hW (pext e9) (run_S (As := [.ref (ρ x4)]) (rest := []) C hW (metX4_diagonalSum l G ρ e9) ⟨rfl, rfl⟩ kcX4_diagonalSum (tq q_465 rfl) kiX4_diagonalSum knX4_diagonalSum kdX4_diagonalSum ⟨Nat.le_of_ble_eq_true rfl, Nat.le_of_ble_eq_true rfl⟩ hl.1 (Nat.le_of_ble_eq_true rfl) (room_of hW (pext e9) ((pext hf).tr hX)) dX4_characteristic_51 rfl) (fun H locs c1 s1 hW => ?_)
    refine lv_lneg hx hb dX4_characteristic_54 ?_
    refine lv_iload hx hb dX4_characteristic_55 (lv_at hl 5 rfl) ?_
    refine lv_i2l (v := x5.toInt64) hx hb dX4_characteristic_57 rfl ?_
    by_cases c10 : x5.toInt64 = 0
    · rw [if_pos c10] at hf
      exact (pf_no hf).elim
    rw [if_neg c10] at hf
    refine lv_ldiv hx hb dX4_characteristic_58 c10 ?_
    refine lv_lstore (lv' := [(6, .long ((-v9) / x5.toInt64)), (0, .ref (ρ x0)), (1, .int x1), (2, .ref (ρ x2)), (3, .ref (ρ x3)), (4, .ref (ρ x4)), (5, .int x5)]) hx hb dX4_characteristic_59 hl (by decide) rfl (fun ls hl => ?_)
    refine lv_aload_n hx hb dX4_characteristic_61 rfl (lv_at hl 3 rfl) ?_
    refine lv_iload_n hx hb dX4_characteristic_62 rfl (lv_at hl 2 rfl) ?_
    refine lv_iload hx hb dX4_characteristic_63 (lv_at hl 6 rfl) ?_
    refine lv_isub hx hb dX4_characteristic_65 ?_
    refine lv_lload hx hb dX4_characteristic_66 (lv_at hl 0 rfl) ?_
    obtain ⟨_, h11, e11, hf⟩ := pb_some hf
    refine r_last C hW e11 dX4_characteristic_68 (fun H locs hW => ?_)
    refine lv_lload hx hb dX4_characteristic_69 (lv_at hl 0 rfl) ?_
    refine lv_aload hx hb dX4_characteristic_71 (lv_at hl 5 rfl) ?_
    obtain ⟨_, h12, e12, hf⟩ := pb_some hf
    refine r_callv hW (pext e12) (run_S (As := [.long ((-v9) / x5.toInt64), .ref (ρ x4)]) (rest := []) C hW (metX4_addToDiagonal l G ρ e12) ⟨rfl, rfl⟩ kcX4_addToDiagonal (tq q_459 rfl) kiX4_addToDiagonal knX4_addToDiagonal kdX4_addToDiagonal ⟨Nat.le_of_ble_eq_true rfl, Nat.le_of_ble_eq_true rfl⟩ hl.1 (Nat.le_of_ble_eq_true rfl) (room_of hW (pext e12) ((pext hf).tr hX)) dX4_characteristic_73 rfl) (fun H locs c1 s1 hW => ?_)
    refine lv_aload_n hx hb dX4_characteristic_76 rfl (lv_at hl 4 rfl) ?_
    refine lv_astore (lv' := [(8, .ref (ρ x3)), (6, .long ((-v9) / x5.toInt64)), (0, .ref (ρ x0)), (1, .int x1), (2, .ref (ρ x2)), (3, .ref (ρ x3)), (4, .ref (ρ x4)), (5, .int x5)]) hx hb dX4_characteristic_77 hl (by decide) rfl (fun ls hl => ?_)
    refine lv_aload hx hb dX4_characteristic_79 (lv_at hl 6 rfl) ?_
    refine lv_astore_n (lv' := [(3, .ref (ρ x4)), (8, .ref (ρ x3)), (6, .long ((-v9) / x5.toInt64)), (0, .ref (ρ x0)), (1, .int x1), (2, .ref (ρ x2)), (4, .ref (ρ x4)), (5, .int x5)]) hx hb dX4_characteristic_81 rfl hl (by decide) rfl (fun ls hl => ?_)
    refine lv_aload hx hb dX4_characteristic_82 (lv_at hl 1 rfl) ?_
    refine lv_astore (lv' := [(4, .ref (ρ x3)), (3, .ref (ρ x4)), (8, .ref (ρ x3)), (6, .long ((-v9) / x5.toInt64)), (0, .ref (ρ x0)), (1, .int x1), (2, .ref (ρ x2)), (5, .int x5)]) hx hb dX4_characteristic_84 hl (by decide) rfl (fun ls hl => ?_)
    refine lv_iinc (v := (x5 + 1)) (lv' := [(5, .int (x5 + 1)), (4, .ref (ρ x3)), (3, .ref (ρ x4)), (8, .ref (ρ x3)), (6, .long ((-v9) / x5.toInt64)), (0, .ref (ρ x0)), (1, .int x1), (2, .ref (ρ x2))]) hx hb dX4_characteristic_86 hl (k := 7) rfl rfl (by decide) rfl (fun ls hl => ?_)
    refine lv_goto (tgt := 36) hx hb dX4_characteristic_89 (by decide) ?_
    obtain ⟨rfl, rfl⟩ := pp_some hf
    exact kc _ rfl _ _ _ _ _ hW (lv_sub hl [5, 6, 7, 2, 1, 0] rfl)
set_option maxHeartbeats 4000000 in
theorem wX4_characteristic_L36 {p : Program} {l : Launch} {e : Env} {s : State} {m : MethodId} {args : Array Value} {below : List Frame} {meth : Method} {c : Code} {G : GG} {ρ : Nat → Nat} {h0 hE hB : PH} {Q : State → Prop} {x0 : Nat} {x1 : Int32} {x2 : Nat} (C : Cx G "PairSymbols$Matrices" cX4_characteristic 9 (some (.array .long)) "characteristic" p s m args meth c) {z : (Unit)} (n : Nat) : ∀ (x : Nat × Nat × Int32) {h : PH} {H : Heap} {locs : List Loc} {cells slots : Nat} {ls : Array Slot}, (plo (fX4_characteristic_B36 x0 x1 x2) n x).1 h = some (z, hB) → Ext hB hE → Wd G ρ h0.length (sl h0) s.heap h H locs cells slots → lv_has ls 9 [(0, .ref (ρ x0)), (1, .int x1), (2, .ref (ρ x2)), (3, .ref (ρ x.1)), (4, .ref (ρ x.2.1)), (5, .int x.2.2)] → (ke : ∀ (H : Heap) (locs : List Loc) (c1 s1 : Nat) (ls : Array Slot), Wd G ρ h0.length (sl h0) s.heap hB H locs c1 s1 → lv_has ls 9 [(2, .ref (ρ x2))] → W p l e (RM 1 28 h0 hE) s m args below meth c H locs c1 s1 Q (F0 m 92 ls [])) → W p l e (RM 1 28 h0 hE) s m args below meth c H locs cells slots Q (F0 m 36 ls []) := by
  induction n with
  | zero =>
    intro x h H locs cells slots ls hf
    rw [plo_0] at hf
    exact (pf_no hf).elim
  | succ n ih =>
    intro x h H locs cells slots ls hf hX hW hl ke
    rw [plo_s] at hf
    obtain ⟨r, h1, e1, hf⟩ := pb_some hf
    unfold fX4_characteristic_B36 at e1
    rw [frI_eq] at e1
    refine wX4_characteristic_B36 C e1 ((pext hf).tr hX) hW hl (fun y hr H locs c1 s1 ls hW hl => ?_) (fun y hr H locs c1 s1 ls hW hl => ?_)
    · subst hr
      exact ih y hf hX hW hl ke
    · subst hr
      obtain ⟨rfl, rfl⟩ := pp_some hf
      exact ke H locs c1 s1 ls hW hl
set_option maxHeartbeats 4000000 in
set_option maxRecDepth 100000 in
theorem metX4_characteristic (l : Launch) (G : GG) (ρ : Nat → Nat) {z : Nat} {x0 : Nat} {h hE : PH} {v : Nat} (hf : (fX4_characteristic x0).1 h = some (v, hE)) : Met l yX4_characteristic (wsY yX4_characteristic cX4_characteristic 9 (some (.array .long))) (RM 1 28 h hE) (va_Pc [.ref (ρ x0)] (PcB G ρ h z)) (QA G ρ v hE h.length z) (DC h hE) (DS h hE) (Af ρ h.length z) := by
  refine met_start (by decide) (Nat.le_of_ble_eq_true rfl) ?_
  intro p e s m below meth c ls hz C hW hl
  subst hz
  have C : Cx G "PairSymbols$Matrices" cX4_characteristic 9 (some (.array .long)) "characteristic" p s m _ meth c := C
  have hx := C.1
  have hb := C.2.1
  have hX : Ext hE hE := Ext.rf hE
  have hl : lv_has ls 9 [(0, .ref (ρ x0))] := hl
  have hW : Wd G ρ h.length (sl h) s.heap h s.heap [] 0 0 := hW
  unfold fX4_characteristic at hf
  refine lv_aload_n hx hb dX4_characteristic_0 rfl (lv_at hl 0 rfl) ?_
  obtain ⟨v1, e1, hf⟩ := pb_rd (rd_aln _) hf
  refine r_alen C hW e1 dX4_characteristic_1 ?_
  refine lv_istore_n (lv' := [(1, .int v1), (0, .ref (ρ x0))]) hx hb dX4_characteristic_2 rfl hl (by decide) rfl (fun ls hl => ?_)
  refine lv_iload_n hx hb dX4_characteristic_3 rfl (lv_at hl 0 rfl) ?_
  refine lv_iconst (v := 1) hx hb dX4_characteristic_4 (by decide) ?_
  refine lv_iadd hx hb dX4_characteristic_5 ?_
  obtain ⟨v2, h2, e2, hf⟩ := pb_some hf
  refine r_newa (t0 := 2) C hW .long e2 (by decide) rfl rfl (fun _ => rfl) (by decide) (fun q => q) (tq q_220 rfl) (room_of hW (pext e2) ((pext hf).tr hX)) dX4_characteristic_6 (fun H c1 s1 hW => ?_)
  refine lv_astore_n (lv' := [(2, .ref (ρ v2)), (1, .int v1), (0, .ref (ρ x0))]) hx hb dX4_characteristic_8 rfl hl (by decide) rfl (fun ls hl => ?_)
  refine lv_aload_n hx hb dX4_characteristic_9 rfl (lv_at hl 0 rfl) ?_
  refine lv_iload_n hx hb dX4_characteristic_10 rfl (lv_at hl 1 rfl) ?_
  refine lv_lconst (v := 1) hx hb dX4_characteristic_11 (by decide) ?_
  obtain ⟨_, h3, e3, hf⟩ := pb_some hf
  refine r_last C hW e3 dX4_characteristic_12 (fun H locs hW => ?_)
  refine lv_iload_n hx hb dX4_characteristic_13 rfl (lv_at hl 1 rfl) ?_
  refine lv_iload_n hx hb dX4_characteristic_14 rfl (lv_at hl 1 rfl) ?_
  obtain ⟨v4, h4, e4, hf⟩ := pb_some hf
  refine r_mnaJ C hW e4 (tq q_458 rfl) (tq q_404 rfl) (tq q_220 rfl) (room_of hW (pext e4) ((pext hf).tr hX)) dX4_characteristic_15 (fun H locs c1 s1 hW => ?_)
  refine lv_astore_n (lv' := [(3, .ref (ρ v4)), (2, .ref (ρ v2)), (1, .int v1), (0, .ref (ρ x0))]) hx hb dX4_characteristic_19 rfl hl (by decide) rfl (fun ls hl => ?_)
  refine lv_iload_n hx hb dX4_characteristic_20 rfl (lv_at hl 2 rfl) ?_
  refine lv_iload_n hx hb dX4_characteristic_21 rfl (lv_at hl 2 rfl) ?_
  obtain ⟨v5, h5, e5, hf⟩ := pb_some hf
  refine r_mnaJ C hW e5 (tq q_458 rfl) (tq q_404 rfl) (tq q_220 rfl) (room_of hW (pext e5) ((pext hf).tr hX)) dX4_characteristic_22 (fun H locs c1 s1 hW => ?_)
  refine lv_astore (lv' := [(4, .ref (ρ v5)), (3, .ref (ρ v4)), (2, .ref (ρ v2)), (1, .int v1), (0, .ref (ρ x0))]) hx hb dX4_characteristic_26 hl (by decide) rfl (fun ls hl => ?_)
  refine lv_lconst (v := 1) hx hb dX4_characteristic_28 (by decide) ?_
  refine lv_aload_n hx hb dX4_characteristic_29 rfl (lv_at hl 1 rfl) ?_
  obtain ⟨_, h6, e6, hf⟩ := pb_some hf
  refine r_callv hW (pext e6) (run_S (As := [.long (1 : Int64), .ref (ρ v4)]) (rest := []) C hW (metX4_addToDiagonal l G ρ e6) ⟨rfl, rfl⟩ kcX4_addToDiagonal (tq q_459 rfl) kiX4_addToDiagonal knX4_addToDiagonal kdX4_addToDiagonal ⟨Nat.le_of_ble_eq_true rfl, Nat.le_of_ble_eq_true rfl⟩ hl.1 (Nat.le_of_ble_eq_true rfl) (room_of hW (pext e6) ((pext hf).tr hX)) dX4_characteristic_30 rfl) (fun H locs c1 s1 hW => ?_)
  refine lv_iconst (v := 1) hx hb dX4_characteristic_33 (by decide) ?_
  refine lv_istore (lv' := [(5, .int (1 : Int32)), (4, .ref (ρ v5)), (3, .ref (ρ v4)), (2, .ref (ρ v2)), (1, .int v1), (0, .ref (ρ x0))]) hx hb dX4_characteristic_34 hl (by decide) rfl (fun ls hl => ?_)
  obtain ⟨z13, h13, e13, hf⟩ := pb_some hf
  refine wX4_characteristic_L36 C fu _ e13 ((pext hf).tr hX) hW (lv_sub hl [5, 4, 3, 2, 1, 0] rfl) (fun H locs c1 s1 ls hW hl => ?_)
  refine lv_aload_n hx hb dX4_characteristic_92 rfl (lv_at hl 0 rfl) ?_
  obtain ⟨rfl, rfl⟩ := pp_some hf
  exact r_aret C hW (Or.inr ⟨_, rfl⟩) dX4_characteristic_93
