theorem flX10_397 : FL "PairSymbolsModel" 397 9 45 false := ⟨_, CT9, by decide, (tq q_720 rfl), rfl, fun _ => Or.inr trivial⟩
theorem flX10_400 : FL "PairSymbolsModel" 400 9 46 false := ⟨_, CT9, by decide, (tq q_721 rfl), rfl, fun _ => Or.inr trivial⟩
theorem dX10_canBe_0 : decode cX10_canBe 0 = .ok (.iconst 0, 1) := by decide +kernel
theorem dX10_canBe_1 : decode cX10_canBe 1 = .ok (.istore_n 1, 1) := by decide +kernel
theorem dX10_canBe_2 : decode cX10_canBe 2 = .ok (.iload_n 1, 1) := by decide +kernel
theorem dX10_canBe_3 : decode cX10_canBe 3 = .ok (.aload_n 0, 1) := by decide +kernel
theorem dX10_canBe_4 : decode cX10_canBe 4 = .ok (.getfield 192, 3) := by decide +kernel
theorem dX10_canBe_7 : decode cX10_canBe 7 = .ok (.if_icmp .ge 46, 3) := by decide +kernel
theorem dX10_canBe_10 : decode cX10_canBe 10 = .ok (.aload_n 0, 1) := by decide +kernel
theorem dX10_canBe_11 : decode cX10_canBe 11 = .ok (.getfield 111, 3) := by decide +kernel
theorem dX10_canBe_14 : decode cX10_canBe 14 = .ok (.iload_n 1, 1) := by decide +kernel
theorem dX10_canBe_15 : decode cX10_canBe 15 = .ok (.laload, 1) := by decide +kernel
theorem dX10_canBe_16 : decode cX10_canBe 16 = .ok (.ldc2_w 356, 3) := by decide +kernel
theorem dX10_canBe_19 : decode cX10_canBe 19 = .ok (.ldc2_w 358, 3) := by decide +kernel
theorem dX10_canBe_22 : decode cX10_canBe 22 = .ok (.invokestatic 236, 3) := by decide +kernel
theorem dX10_canBe_25 : decode cX10_canBe 25 = .ok (.ifCond .eq 19, 3) := by decide +kernel
theorem dX10_canBe_28 : decode cX10_canBe 28 = .ok (.aload_n 0, 1) := by decide +kernel
theorem dX10_canBe_29 : decode cX10_canBe 29 = .ok (.getfield 114, 3) := by decide +kernel
theorem dX10_canBe_32 : decode cX10_canBe 32 = .ok (.iload_n 1, 1) := by decide +kernel
theorem dX10_canBe_33 : decode cX10_canBe 33 = .ok (.laload, 1) := by decide +kernel
theorem dX10_canBe_34 : decode cX10_canBe 34 = .ok (.lconst 1, 1) := by decide +kernel
theorem dX10_canBe_35 : decode cX10_canBe 35 = .ok (.ldc2_w 358, 3) := by decide +kernel
theorem dX10_canBe_38 : decode cX10_canBe 38 = .ok (.invokestatic 236, 3) := by decide +kernel
theorem dX10_canBe_41 : decode cX10_canBe 41 = .ok (.ifCond .ne 6, 3) := by decide +kernel
theorem dX10_canBe_44 : decode cX10_canBe 44 = .ok (.bipush (-3), 2) := by decide +kernel
theorem dX10_canBe_46 : decode cX10_canBe 46 = .ok (.ireturn, 1) := by decide +kernel
theorem dX10_canBe_47 : decode cX10_canBe 47 = .ok (.iinc 1 1, 3) := by decide +kernel
theorem dX10_canBe_50 : decode cX10_canBe 50 = .ok (.goto (-48), 3) := by decide +kernel
theorem dX10_canBe_53 : decode cX10_canBe 53 = .ok (.iconst 0, 1) := by decide +kernel
theorem dX10_canBe_54 : decode cX10_canBe 54 = .ok (.ireturn, 1) := by decide +kernel
theorem kcX10_canBe : Cond.code yX10_canBe cX10_canBe 2 (some .int) ∈ tb := tq q_1111 rfl
theorem knX10_canBe : Cond.initialized yX10_canBe.cls ∈ tb := (tq q_10 rfl)
theorem kdX10_canBe : yX10_canBe.cls ≠ "java/lang/invoke/MethodHandle" ∧ yX10_canBe.cls ≠ "java/lang/invoke/VarHandle" ∧ (parseMethodDescriptor yX10_canBe.desc).map (fun d => d.parameters.length) = some 0 := ⟨by decide +kernel, by decide +kernel, by decide +kernel⟩
theorem kiX10_canBe : Cond.instanceMethod yX10_canBe ∈ tb := (tq q_1110 rfl)
theorem ksX10_canBe : Cond.selects yX10_canBe.cls yX10_canBe yX10_canBe ∈ tb := (tq z_73 rfl)
theorem tgX10_canBe {x0 : Nat} {h : PH} {r : Int32 × PH} (hf : (fX10_canBe x0).1 h = some r) : ∃ n x, nth h x0 = some (9, n, x) := by
  obtain ⟨_, _, e, _⟩ := pb_some hf
  exact (chk_some e).2
set_option maxHeartbeats 4000000 in
set_option maxRecDepth 100000 in
theorem wX10_canBe_B2 {p : Program} {l : Launch} {e : Env} {s : State} {m : MethodId} {args : Array Value} {below : List Frame} {meth : Method} {c : Code} {G : GG} {ρ : Nat → Nat} {h0 hE hB : PH} {Q : State → Prop} {x0 : Nat} (C : Cx G "PairSymbolsModel" cX10_canBe 2 (some .int) "canBe" p s m args meth c) {x1 : Int32} {h : PH} {H : Heap} {locs : List Loc} {cells slots : Nat} {ls : Array Slot} {r : (Int32) ⊕ (Int32 ⊕ (Unit))} (hf : (fX10_canBe_b2 x0 x1).1 h = some (r, hB)) (hX : Ext hB hE) (hW : Wd G ρ h0.length (sl h0) s.heap h H locs cells slots) (hl : lv_has ls 2 [(0, .ref (ρ x0)), (1, .int x1)]) (kc : ∀ y : Int32, r = .inl y → ∀ (H : Heap) (locs : List Loc) (c1 s1 : Nat) (ls : Array Slot), Wd G ρ h0.length (sl h0) s.heap hB H locs c1 s1 → lv_has ls 2 [(0, .ref (ρ x0)), (1, .int y)] → W p l e (RM 1 25 h0 hE) s m args below meth c H locs c1 s1 Q (F0 m 2 ls [])) (kr : ∀ v : Int32, r = .inr (.inl v) → ∀ (H : Heap) (locs : List Loc) (c1 s1 : Nat) (ls : Array Slot) (pc : Nat), Wd G ρ h0.length (sl h0) s.heap hB H locs c1 s1 → decode cX10_canBe pc = .ok (.ireturn, 1) → W p l e (RM 1 25 h0 hE) s m args below meth c H locs c1 s1 Q (F0 m pc ls [.int v])) (ke : ∀ z : Unit, r = .inr (.inr z) → ∀ (H : Heap) (locs : List Loc) (c1 s1 : Nat) (ls : Array Slot), Wd G ρ h0.length (sl h0) s.heap hB H locs c1 s1 → lv_has ls 2 [] → W p l e (RM 1 25 h0 hE) s m args below meth c H locs c1 s1 Q (F0 m 53 ls [])) : W p l e (RM 1 25 h0 hE) s m args below meth c H locs cells slots Q (F0 m 2 ls []) := by
  have hx := C.1
  have hb := C.2.1
  unfold fX10_canBe_b2 at hf
  refine lv_iload_n hx hb dX10_canBe_2 rfl (lv_at hl 1 rfl) ?_
  refine lv_aload_n hx hb dX10_canBe_3 rfl (lv_at hl 0 rfl) ?_
  obtain ⟨v1, e1, hf⟩ := pb_rd (rd_gI _ _ _) hf
  refine r_gI C hW e1 flX10_192 rfl dX10_canBe_4 ?_
  refine lv_icmp_ge (tgt := 53) hx hb dX10_canBe_7 (by decide) (fun c2 => ?_) (fun c2 => ?_)
  · rw [if_pos c2] at hf
    obtain ⟨rfl, rfl⟩ := pp_some hf
    exact ke _ rfl _ _ _ _ _ hW (lv_sub hl [] rfl)
  · rw [if_neg c2] at hf
    refine lv_aload_n hx hb dX10_canBe_10 rfl (lv_at hl 0 rfl) ?_
    obtain ⟨v3, e3, hf⟩ := pb_rd (rd_gA _ _ _) hf
    refine r_gA C hW e3 flX10_111 rfl dX10_canBe_11 ?_
    refine lv_iload_n hx hb dX10_canBe_14 rfl (lv_at hl 1 rfl) ?_
    obtain ⟨v4, e4, hf⟩ := pb_rd (rd_lJ _ _ _) hf
    refine r_lald C hW e4 dX10_canBe_15 ?_
    refine r_ldc2 (v := -1000000000000) C (tq q_1112 rfl) dX10_canBe_16 ?_
    refine r_ldc2 (v := 1000000000000) C (tq q_1113 rfl) dX10_canBe_19 ?_
    obtain ⟨v5, h5, e5, hf⟩ := pb_some hf
    refine r_calli hW (pext e5) (run_S (As := [.long v4, .long (-1000000000000 : Int64), .long (1000000000000 : Int64)]) (rest := []) C hW (metX10_in l G ρ e5) ⟨rfl, rfl⟩ kcX10_in (tq q_834 rfl) kiX10_in knX10_in kdX10_in ⟨Nat.le_of_ble_eq_true rfl, Nat.le_of_ble_eq_true rfl⟩ hl.1 (Nat.le_of_ble_eq_true rfl) (room_of hW (pext e5) ((pext hf).tr hX)) dX10_canBe_22 rfl) (fun H locs c1 s1 hW => ?_)
    refine lv_if_eq (tgt := 44) hx hb dX10_canBe_25 (by decide) (fun c6 => ?_) (fun c6 => ?_)
    · rw [if_pos c6] at hf
      refine lv_bipush (v := -3) hx hb dX10_canBe_44 (by decide) ?_
      obtain ⟨rfl, rfl⟩ := pp_some hf
      exact kr _ rfl _ _ _ _ _ _ hW dX10_canBe_46
    · rw [if_neg c6] at hf
      refine lv_aload_n hx hb dX10_canBe_28 rfl (lv_at hl 0 rfl) ?_
      obtain ⟨v7, e7, hf⟩ := pb_rd (rd_gA _ _ _) hf
      refine r_gA C hW e7 flX10_114 rfl dX10_canBe_29 ?_
      refine lv_iload_n hx hb dX10_canBe_32 rfl (lv_at hl 1 rfl) ?_
      obtain ⟨v8, e8, hf⟩ := pb_rd (rd_lJ _ _ _) hf
      refine r_lald C hW e8 dX10_canBe_33 ?_
      refine lv_lconst (v := 1) hx hb dX10_canBe_34 (by decide) ?_
      refine r_ldc2 (v := 1000000000000) C (tq q_1113 rfl) dX10_canBe_35 ?_
      obtain ⟨v9, h9, e9, hf⟩ := pb_some hf
      refine r_calli hW (pext e9) (run_S (As := [.long v8, .long (1 : Int64), .long (1000000000000 : Int64)]) (rest := []) C hW (metX10_in l G ρ e9) ⟨rfl, rfl⟩ kcX10_in (tq q_834 rfl) kiX10_in knX10_in kdX10_in ⟨Nat.le_of_ble_eq_true rfl, Nat.le_of_ble_eq_true rfl⟩ hl.1 (Nat.le_of_ble_eq_true rfl) (room_of hW (pext e9) ((pext hf).tr hX)) dX10_canBe_38 rfl) (fun H locs c1 s1 hW => ?_)
      refine lv_if_ne (tgt := 47) hx hb dX10_canBe_41 (by decide) (fun c10 => ?_) (fun c10 => ?_)
      · rw [if_neg c10] at hf
        refine lv_iinc (v := (x1 + 1)) (lv' := [(1, .int (x1 + 1)), (0, .ref (ρ x0))]) hx hb dX10_canBe_47 hl (k := 1) rfl rfl (by decide) rfl (fun ls hl => ?_)
        refine lv_goto (tgt := 2) hx hb dX10_canBe_50 (by decide) ?_
        obtain ⟨rfl, rfl⟩ := pp_some hf
        exact kc _ rfl _ _ _ _ _ hW (lv_sub hl [1, 0] rfl)
      · rw [if_pos c10] at hf
        refine lv_bipush (v := -3) hx hb dX10_canBe_44 (by decide) ?_
        obtain ⟨rfl, rfl⟩ := pp_some hf
        exact kr _ rfl _ _ _ _ _ _ hW dX10_canBe_46
set_option maxHeartbeats 4000000 in
theorem wX10_canBe_L2 {p : Program} {l : Launch} {e : Env} {s : State} {m : MethodId} {args : Array Value} {below : List Frame} {meth : Method} {c : Code} {G : GG} {ρ : Nat → Nat} {h0 hE hB : PH} {Q : State → Prop} {x0 : Nat} (C : Cx G "PairSymbolsModel" cX10_canBe 2 (some .int) "canBe" p s m args meth c) {z : (Int32 ⊕ (Unit))} (n : Nat) : ∀ (x : Int32) {h : PH} {H : Heap} {locs : List Loc} {cells slots : Nat} {ls : Array Slot}, (plo (fX10_canBe_B2 x0) n x).1 h = some (z, hB) → Ext hB hE → Wd G ρ h0.length (sl h0) s.heap h H locs cells slots → lv_has ls 2 [(0, .ref (ρ x0)), (1, .int x)] → (kr : ∀ v : Int32, z = .inl v → ∀ (H : Heap) (locs : List Loc) (c1 s1 : Nat) (ls : Array Slot) (pc : Nat), Wd G ρ h0.length (sl h0) s.heap hB H locs c1 s1 → decode cX10_canBe pc = .ok (.ireturn, 1) → W p l e (RM 1 25 h0 hE) s m args below meth c H locs c1 s1 Q (F0 m pc ls [.int v])) → (ke : ∀ y : Unit, z = .inr y → ∀ (H : Heap) (locs : List Loc) (c1 s1 : Nat) (ls : Array Slot), Wd G ρ h0.length (sl h0) s.heap hB H locs c1 s1 → lv_has ls 2 [] → W p l e (RM 1 25 h0 hE) s m args below meth c H locs c1 s1 Q (F0 m 53 ls [])) → W p l e (RM 1 25 h0 hE) s m args below meth c H locs cells slots Q (F0 m 2 ls []) := by
  induction n with
  | zero =>
    intro x h H locs cells slots ls hf
    rw [plo_0] at hf
    exact (pf_no hf).elim
  | succ n ih =>
    intro x h H locs cells slots ls hf hX hW hl kr ke
    rw [plo_s] at hf
    obtain ⟨r, h1, e1, hf⟩ := pb_some hf
    unfold fX10_canBe_B2 at e1
    rw [frI_eq] at e1
    refine wX10_canBe_B2 C e1 ((pext hf).tr hX) hW hl (fun y hr H locs c1 s1 ls hW hl => ?_) (fun v hr H locs c1 s1 ls pc hW hd => ?_) (fun y hr H locs c1 s1 ls hW hl => ?_)
    · subst hr
      exact ih y hf hX hW hl kr ke
    · subst hr
      obtain ⟨rfl, rfl⟩ := pp_some hf
      exact kr v rfl H locs c1 s1 ls pc hW hd
    · subst hr
      obtain ⟨rfl, rfl⟩ := pp_some hf
      exact ke y rfl H locs c1 s1 ls hW hl
set_option maxHeartbeats 4000000 in
set_option maxRecDepth 100000 in
theorem metX10_canBe (l : Launch) (G : GG) (ρ : Nat → Nat) {z : Nat} {x0 : Nat} {h hE : PH} {v : Int32} (hf : (fX10_canBe x0).1 h = some (v, hE)) : Met l yX10_canBe (wsY yX10_canBe cX10_canBe 2 (some .int)) (RM 1 25 h hE) (va_Pc [.ref (ρ x0)] (PcB G ρ h z)) (QI G ρ v hE h.length z) (DC h hE) (DS h hE) (Af ρ h.length z) := by
  refine met_start (by decide) (Nat.le_of_ble_eq_true rfl) ?_
  intro p e s m below meth c ls hz C hW hl
  subst hz
  have C : Cx G "PairSymbolsModel" cX10_canBe 2 (some .int) "canBe" p s m _ meth c := C
  have hx := C.1
  have hb := C.2.1
  have hX : Ext hE hE := Ext.rf hE
  have hl : lv_has ls 2 [(0, .ref (ρ x0))] := hl
  have hW : Wd G ρ h.length (sl h) s.heap h s.heap [] 0 0 := hW
  unfold fX10_canBe at hf
  obtain ⟨_, e0, hf⟩ := pb_rd (rd_chk _ _) hf
  refine lv_iconst (v := 0) hx hb dX10_canBe_0 (by decide) ?_
  refine lv_istore_n (lv' := [(1, .int (0 : Int32)), (0, .ref (ρ x0))]) hx hb dX10_canBe_1 rfl hl (by decide) rfl (fun ls hl => ?_)
  obtain ⟨z11, h11, e11, hf⟩ := pb_some hf
  refine wX10_canBe_L2 C fu _ e11 ((pext hf).tr hX) hW (lv_sub hl [1, 0] rfl) (fun v11 hz H locs c1 s1 ls pc hW hd => ?_) (fun z12 hz H locs c1 s1 ls hW hl => ?_)
  · subst hz
    obtain ⟨rfl, rfl⟩ := pp_some hf
    exact r_iret C hW hd
  · subst hz
    try dsimp only at hf
    refine lv_iconst (v := 0) hx hb dX10_canBe_53 (by decide) ?_
    obtain ⟨rfl, rfl⟩ := pp_some hf
    exact r_iret C hW dX10_canBe_54

theorem dX10_becomes_0 : decode cX10_becomes 0 = .ok (.iconst 0, 1) := by decide +kernel
theorem dX10_becomes_1 : decode cX10_becomes 1 = .ok (.istore_n 1, 1) := by decide +kernel
theorem dX10_becomes_2 : decode cX10_becomes 2 = .ok (.iconst 0, 1) := by decide +kernel
theorem dX10_becomes_3 : decode cX10_becomes 3 = .ok (.istore_n 2, 1) := by decide +kernel
theorem dX10_becomes_4 : decode cX10_becomes 4 = .ok (.iload_n 2, 1) := by decide +kernel
theorem dX10_becomes_5 : decode cX10_becomes 5 = .ok (.bipush 16, 2) := by decide +kernel
theorem dX10_becomes_7 : decode cX10_becomes 7 = .ok (.if_icmp .ge 60, 3) := by decide +kernel
theorem dX10_becomes_10 : decode cX10_becomes 10 = .ok (.aload_n 0, 1) := by decide +kernel
theorem dX10_becomes_11 : decode cX10_becomes 11 = .ok (.getfield 7, 3) := by decide +kernel
theorem dX10_becomes_14 : decode cX10_becomes 14 = .ok (.iconst 1, 1) := by decide +kernel
theorem dX10_becomes_15 : decode cX10_becomes 15 = .ok (.iconst 2, 1) := by decide +kernel
theorem dX10_becomes_16 : decode cX10_becomes 16 = .ok (.iload_n 2, 1) := by decide +kernel
theorem dX10_becomes_17 : decode cX10_becomes 17 = .ok (.imul, 1) := by decide +kernel
theorem dX10_becomes_18 : decode cX10_becomes 18 = .ok (.iadd, 1) := by decide +kernel
theorem dX10_becomes_19 : decode cX10_becomes 19 = .ok (.aload_n 0, 1) := by decide +kernel
theorem dX10_becomes_20 : decode cX10_becomes 20 = .ok (.getfield 111, 3) := by decide +kernel
theorem dX10_becomes_23 : decode cX10_becomes 23 = .ok (.iload_n 2, 1) := by decide +kernel
theorem dX10_becomes_24 : decode cX10_becomes 24 = .ok (.laload, 1) := by decide +kernel
theorem dX10_becomes_25 : decode cX10_becomes 25 = .ok (.lastore, 1) := by decide +kernel
theorem dX10_becomes_26 : decode cX10_becomes 26 = .ok (.aload_n 0, 1) := by decide +kernel
theorem dX10_becomes_27 : decode cX10_becomes 27 = .ok (.getfield 7, 3) := by decide +kernel
theorem dX10_becomes_30 : decode cX10_becomes 30 = .ok (.iconst 2, 1) := by decide +kernel
theorem dX10_becomes_31 : decode cX10_becomes 31 = .ok (.iconst 2, 1) := by decide +kernel
theorem dX10_becomes_32 : decode cX10_becomes 32 = .ok (.iload_n 2, 1) := by decide +kernel
theorem dX10_becomes_33 : decode cX10_becomes 33 = .ok (.imul, 1) := by decide +kernel
theorem dX10_becomes_34 : decode cX10_becomes 34 = .ok (.iadd, 1) := by decide +kernel
theorem dX10_becomes_35 : decode cX10_becomes 35 = .ok (.aload_n 0, 1) := by decide +kernel
theorem dX10_becomes_36 : decode cX10_becomes 36 = .ok (.getfield 114, 3) := by decide +kernel
theorem dX10_becomes_39 : decode cX10_becomes 39 = .ok (.iload_n 2, 1) := by decide +kernel
theorem dX10_becomes_40 : decode cX10_becomes 40 = .ok (.laload, 1) := by decide +kernel
theorem dX10_becomes_41 : decode cX10_becomes 41 = .ok (.lastore, 1) := by decide +kernel
theorem dX10_becomes_42 : decode cX10_becomes 42 = .ok (.iload_n 1, 1) := by decide +kernel
theorem dX10_becomes_43 : decode cX10_becomes 43 = .ok (.aload_n 0, 1) := by decide +kernel
theorem dX10_becomes_44 : decode cX10_becomes 44 = .ok (.getfield 111, 3) := by decide +kernel
theorem dX10_becomes_47 : decode cX10_becomes 47 = .ok (.iload_n 2, 1) := by decide +kernel
theorem dX10_becomes_48 : decode cX10_becomes 48 = .ok (.laload, 1) := by decide +kernel
theorem dX10_becomes_49 : decode cX10_becomes 49 = .ok (.lconst 0, 1) := by decide +kernel
theorem dX10_becomes_50 : decode cX10_becomes 50 = .ok (.lcmp, 1) := by decide +kernel
theorem dX10_becomes_51 : decode cX10_becomes 51 = .ok (.ifCond .ne 7, 3) := by decide +kernel
theorem dX10_becomes_54 : decode cX10_becomes 54 = .ok (.iconst 0, 1) := by decide +kernel
theorem dX10_becomes_55 : decode cX10_becomes 55 = .ok (.goto 4, 3) := by decide +kernel
theorem dX10_becomes_58 : decode cX10_becomes 58 = .ok (.iconst 1, 1) := by decide +kernel
theorem dX10_becomes_59 : decode cX10_becomes 59 = .ok (.iadd, 1) := by decide +kernel
theorem dX10_becomes_60 : decode cX10_becomes 60 = .ok (.istore_n 1, 1) := by decide +kernel
theorem dX10_becomes_61 : decode cX10_becomes 61 = .ok (.iinc 2 1, 3) := by decide +kernel
theorem dX10_becomes_64 : decode cX10_becomes 64 = .ok (.goto (-60), 3) := by decide +kernel
theorem dX10_becomes_67 : decode cX10_becomes 67 = .ok (.iload_n 1, 1) := by decide +kernel
theorem dX10_becomes_68 : decode cX10_becomes 68 = .ok (.ireturn, 1) := by decide +kernel
theorem kcX10_becomes : Cond.code yX10_becomes cX10_becomes 3 (some .int) ∈ tb := tq q_1117 rfl
theorem knX10_becomes : Cond.initialized yX10_becomes.cls ∈ tb := (tq q_10 rfl)
theorem kdX10_becomes : yX10_becomes.cls ≠ "java/lang/invoke/MethodHandle" ∧ yX10_becomes.cls ≠ "java/lang/invoke/VarHandle" ∧ (parseMethodDescriptor yX10_becomes.desc).map (fun d => d.parameters.length) = some 0 := ⟨by decide +kernel, by decide +kernel, by decide +kernel⟩
theorem kiX10_becomes : Cond.instanceMethod yX10_becomes ∈ tb := (tq q_1116 rfl)
theorem ksX10_becomes : Cond.selects yX10_becomes.cls yX10_becomes yX10_becomes ∈ tb := (tq z_74 rfl)
theorem tgX10_becomes {x0 : Nat} {h : PH} {r : Int32 × PH} (hf : (fX10_becomes x0).1 h = some r) : ∃ n x, nth h x0 = some (9, n, x) := by
  obtain ⟨_, _, e, _⟩ := pb_some hf
  exact (chk_some e).2
set_option maxHeartbeats 4000000 in
set_option maxRecDepth 100000 in
theorem wX10_becomes_B4 {p : Program} {l : Launch} {e : Env} {s : State} {m : MethodId} {args : Array Value} {below : List Frame} {meth : Method} {c : Code} {G : GG} {ρ : Nat → Nat} {h0 hE hB : PH} {Q : State → Prop} {x0 : Nat} (C : Cx G "PairSymbolsModel" cX10_becomes 3 (some .int) "becomes" p s m args meth c) {x1 : Int32} {x2 : Int32} {h : PH} {H : Heap} {locs : List Loc} {cells slots : Nat} {ls : Array Slot} {r : (Int32 × Int32) ⊕ (Int32)} (hf : (fX10_becomes_b4 x0 x1 x2).1 h = some (r, hB)) (hX : Ext hB hE) (hW : Wd G ρ h0.length (sl h0) s.heap h H locs cells slots) (hl : lv_has ls 3 [(0, .ref (ρ x0)), (1, .int x1), (2, .int x2)]) (kc : ∀ y : Int32 × Int32, r = .inl y → ∀ (H : Heap) (locs : List Loc) (c1 s1 : Nat) (ls : Array Slot), Wd G ρ h0.length (sl h0) s.heap hB H locs c1 s1 → lv_has ls 3 [(0, .ref (ρ x0)), (1, .int y.1), (2, .int y.2)] → W p l e (RM 0 0 h0 hE) s m args below meth c H locs c1 s1 Q (F0 m 4 ls [])) (ke : ∀ z : Int32, r = .inr z → ∀ (H : Heap) (locs : List Loc) (c1 s1 : Nat) (ls : Array Slot), Wd G ρ h0.length (sl h0) s.heap hB H locs c1 s1 → lv_has ls 3 [(1, .int z)] → W p l e (RM 0 0 h0 hE) s m args below meth c H locs c1 s1 Q (F0 m 67 ls [])) : W p l e (RM 0 0 h0 hE) s m args below meth c H locs cells slots Q (F0 m 4 ls []) := by
  have hx := C.1
  have hb := C.2.1
  unfold fX10_becomes_b4 at hf
  refine lv_iload_n hx hb dX10_becomes_4 rfl (lv_at hl 2 rfl) ?_
  refine lv_bipush (v := 16) hx hb dX10_becomes_5 (by decide) ?_
  refine lv_icmp_ge (tgt := 67) hx hb dX10_becomes_7 (by decide) (fun c1 => ?_) (fun c1 => ?_)
  · rw [if_pos c1] at hf
    obtain ⟨rfl, rfl⟩ := pp_some hf
    exact ke _ rfl _ _ _ _ _ hW (lv_sub hl [1] rfl)
  · rw [if_neg c1] at hf
    refine lv_aload_n hx hb dX10_becomes_10 rfl (lv_at hl 0 rfl) ?_
    obtain ⟨v2, e2, hf⟩ := pb_rd (rd_gA _ _ _) hf
    refine r_gA C hW e2 flX10_7 rfl dX10_becomes_11 ?_
    refine lv_iconst (v := 1) hx hb dX10_becomes_14 (by decide) ?_
    refine lv_iconst (v := 2) hx hb dX10_becomes_15 (by decide) ?_
    refine lv_iload_n hx hb dX10_becomes_16 rfl (lv_at hl 2 rfl) ?_
    refine lv_imul hx hb dX10_becomes_17 ?_
    refine lv_iadd hx hb dX10_becomes_18 ?_
    refine lv_aload_n hx hb dX10_becomes_19 rfl (lv_at hl 0 rfl) ?_
    obtain ⟨v3, e3, hf⟩ := pb_rd (rd_gA _ _ _) hf
    refine r_gA C hW e3 flX10_111 rfl dX10_becomes_20 ?_
    refine lv_iload_n hx hb dX10_becomes_23 rfl (lv_at hl 2 rfl) ?_
    obtain ⟨v4, e4, hf⟩ := pb_rd (rd_lJ _ _ _) hf
    refine r_lald C hW e4 dX10_becomes_24 ?_
    obtain ⟨_, h5, e5, hf⟩ := pb_some hf
    refine r_last C hW e5 dX10_becomes_25 (fun H locs hW => ?_)
    refine lv_aload_n hx hb dX10_becomes_26 rfl (lv_at hl 0 rfl) ?_
    obtain ⟨v6, e6, hf⟩ := pb_rd (rd_gA _ _ _) hf
    refine r_gA C hW e6 flX10_7 rfl dX10_becomes_27 ?_
    refine lv_iconst (v := 2) hx hb dX10_becomes_30 (by decide) ?_
    refine lv_iconst (v := 2) hx hb dX10_becomes_31 (by decide) ?_
    refine lv_iload_n hx hb dX10_becomes_32 rfl (lv_at hl 2 rfl) ?_
    refine lv_imul hx hb dX10_becomes_33 ?_
    refine lv_iadd hx hb dX10_becomes_34 ?_
    refine lv_aload_n hx hb dX10_becomes_35 rfl (lv_at hl 0 rfl) ?_
    obtain ⟨v7, e7, hf⟩ := pb_rd (rd_gA _ _ _) hf
    refine r_gA C hW e7 flX10_114 rfl dX10_becomes_36 ?_
    refine lv_iload_n hx hb dX10_becomes_39 rfl (lv_at hl 2 rfl) ?_
    obtain ⟨v8, e8, hf⟩ := pb_rd (rd_lJ _ _ _) hf
    refine r_lald C hW e8 dX10_becomes_40 ?_
    obtain ⟨_, h9, e9, hf⟩ := pb_some hf
    refine r_last C hW e9 dX10_becomes_41 (fun H locs hW => ?_)
    refine lv_iload_n hx hb dX10_becomes_42 rfl (lv_at hl 1 rfl) ?_
    refine lv_aload_n hx hb dX10_becomes_43 rfl (lv_at hl 0 rfl) ?_
    obtain ⟨v10, e10, hf⟩ := pb_rd (rd_gA _ _ _) hf
    refine r_gA C hW e10 flX10_111 rfl dX10_becomes_44 ?_
    refine lv_iload_n hx hb dX10_becomes_47 rfl (lv_at hl 2 rfl) ?_
    obtain ⟨v11, e11, hf⟩ := pb_rd (rd_lJ _ _ _) hf
    refine r_lald C hW e11 dX10_becomes_48 ?_
    refine lv_lconst (v := 0) hx hb dX10_becomes_49 (by decide) ?_
    refine W.lcmp hx hb dX10_becomes_50 ?_
    refine lv_if_ne (tgt := 58) hx hb dX10_becomes_51 (by decide) (fun c12 => ?_) (fun c12 => ?_)
    · rw [if_neg c12] at hf
      refine lv_iconst (v := 1) hx hb dX10_becomes_58 (by decide) ?_
      refine lv_iadd hx hb dX10_becomes_59 ?_
      refine lv_istore_n (lv' := [(1, .int (x1 + (1 : Int32))), (0, .ref (ρ x0)), (2, .int x2)]) hx hb dX10_becomes_60 rfl hl (by decide) rfl (fun ls hl => ?_)
      refine lv_iinc (v := (x2 + 1)) (lv' := [(2, .int (x2 + 1)), (1, .int (x1 + (1 : Int32))), (0, .ref (ρ x0))]) hx hb dX10_becomes_61 hl (k := 2) rfl rfl (by decide) rfl (fun ls hl => ?_)
      refine lv_goto (tgt := 4) hx hb dX10_becomes_64 (by decide) ?_
      obtain ⟨rfl, rfl⟩ := pp_some hf
      exact kc _ rfl _ _ _ _ _ hW (lv_sub hl [2, 1, 0] rfl)
    · rw [if_pos c12] at hf
      refine lv_iconst (v := 0) hx hb dX10_becomes_54 (by decide) ?_
      refine lv_goto (tgt := 59) hx hb dX10_becomes_55 (by decide) ?_
      refine lv_iadd hx hb dX10_becomes_59 ?_
      refine lv_istore_n (lv' := [(1, .int (x1 + (0 : Int32))), (0, .ref (ρ x0)), (2, .int x2)]) hx hb dX10_becomes_60 rfl hl (by decide) rfl (fun ls hl => ?_)
      refine lv_iinc (v := (x2 + 1)) (lv' := [(2, .int (x2 + 1)), (1, .int (x1 + (0 : Int32))), (0, .ref (ρ x0))]) hx hb dX10_becomes_61 hl (k := 2) rfl rfl (by decide) rfl (fun ls hl => ?_)
      refine lv_goto (tgt := 4) hx hb dX10_becomes_64 (by decide) ?_
      obtain ⟨rfl, rfl⟩ := pp_some hf
      exact kc _ rfl _ _ _ _ _ hW (lv_sub hl [2, 1, 0] rfl)
set_option maxHeartbeats 4000000 in
theorem wX10_becomes_L4 {p : Program} {l : Launch} {e : Env} {s : State} {m : MethodId} {args : Array Value} {below : List Frame} {meth : Method} {c : Code} {G : GG} {ρ : Nat → Nat} {h0 hE hB : PH} {Q : State → Prop} {x0 : Nat} (C : Cx G "PairSymbolsModel" cX10_becomes 3 (some .int) "becomes" p s m args meth c) {z : (Int32)} (n : Nat) : ∀ (x : Int32 × Int32) {h : PH} {H : Heap} {locs : List Loc} {cells slots : Nat} {ls : Array Slot}, (plo (fX10_becomes_B4 x0) n x).1 h = some (z, hB) → Ext hB hE → Wd G ρ h0.length (sl h0) s.heap h H locs cells slots → lv_has ls 3 [(0, .ref (ρ x0)), (1, .int x.1), (2, .int x.2)] → (ke : ∀ (H : Heap) (locs : List Loc) (c1 s1 : Nat) (ls : Array Slot), Wd G ρ h0.length (sl h0) s.heap hB H locs c1 s1 → lv_has ls 3 [(1, .int z)] → W p l e (RM 0 0 h0 hE) s m args below meth c H locs c1 s1 Q (F0 m 67 ls [])) → W p l e (RM 0 0 h0 hE) s m args below meth c H locs cells slots Q (F0 m 4 ls []) := by
  induction n with
  | zero =>
    intro x h H locs cells slots ls hf
    rw [plo_0] at hf
    exact (pf_no hf).elim
  | succ n ih =>
    intro x h H locs cells slots ls hf hX hW hl ke
    rw [plo_s] at hf
    obtain ⟨r, h1, e1, hf⟩ := pb_some hf
    unfold fX10_becomes_B4 at e1
    rw [frI_eq, frI_eq] at e1
    refine wX10_becomes_B4 C e1 ((pext hf).tr hX) hW hl (fun y hr H locs c1 s1 ls hW hl => ?_) (fun y hr H locs c1 s1 ls hW hl => ?_)
    · subst hr
      exact ih y hf hX hW hl ke
    · subst hr
      obtain ⟨rfl, rfl⟩ := pp_some hf
      exact ke H locs c1 s1 ls hW hl
set_option maxHeartbeats 4000000 in
set_option maxRecDepth 100000 in
theorem metX10_becomes (l : Launch) (G : GG) (ρ : Nat → Nat) {z : Nat} {x0 : Nat} {h hE : PH} {v : Int32} (hf : (fX10_becomes x0).1 h = some (v, hE)) : Met l yX10_becomes (wsY yX10_becomes cX10_becomes 3 (some .int)) (RM 0 0 h hE) (va_Pc [.ref (ρ x0)] (PcB G ρ h z)) (QI G ρ v hE h.length z) (DC h hE) (DS h hE) (Af ρ h.length z) := by
  refine met_start (by decide) (Nat.le_of_ble_eq_true rfl) ?_
  intro p e s m below meth c ls hz C hW hl
  subst hz
  have C : Cx G "PairSymbolsModel" cX10_becomes 3 (some .int) "becomes" p s m _ meth c := C
  have hx := C.1
  have hb := C.2.1
  have hX : Ext hE hE := Ext.rf hE
  have hl : lv_has ls 3 [(0, .ref (ρ x0))] := hl
  have hW : Wd G ρ h.length (sl h) s.heap h s.heap [] 0 0 := hW
  unfold fX10_becomes at hf
  obtain ⟨_, e0, hf⟩ := pb_rd (rd_chk _ _) hf
  refine lv_iconst (v := 0) hx hb dX10_becomes_0 (by decide) ?_
  refine lv_istore_n (lv' := [(1, .int (0 : Int32)), (0, .ref (ρ x0))]) hx hb dX10_becomes_1 rfl hl (by decide) rfl (fun ls hl => ?_)
  refine lv_iconst (v := 0) hx hb dX10_becomes_2 (by decide) ?_
  refine lv_istore_n (lv' := [(2, .int (0 : Int32)), (1, .int (0 : Int32)), (0, .ref (ρ x0))]) hx hb dX10_becomes_3 rfl hl (by decide) rfl (fun ls hl => ?_)
  obtain ⟨z13, h13, e13, hf⟩ := pb_some hf
  refine wX10_becomes_L4 C fu _ e13 ((pext hf).tr hX) hW (lv_sub hl [2, 1, 0] rfl) (fun H locs c1 s1 ls hW hl => ?_)
  refine lv_iload_n hx hb dX10_becomes_67 rfl (lv_at hl 0 rfl) ?_
  obtain ⟨rfl, rfl⟩ := pp_some hf
  exact r_iret C hW dX10_becomes_68

theorem dX10_canAdd_0 : decode cX10_canAdd 0 = .ok (.aload_n 0, 1) := by decide +kernel
theorem dX10_canAdd_1 : decode cX10_canAdd 1 = .ok (.iload_n 1, 1) := by decide +kernel
theorem dX10_canAdd_2 : decode cX10_canAdd 2 = .ok (.invokevirtual 252, 3) := by decide +kernel
theorem dX10_canAdd_5 : decode cX10_canAdd 5 = .ok (.ifCond .eq 17, 3) := by decide +kernel
theorem dX10_canAdd_8 : decode cX10_canAdd 8 = .ok (.iload_n 2, 1) := by decide +kernel
theorem dX10_canAdd_9 : decode cX10_canAdd 9 = .ok (.i2l, 1) := by decide +kernel
theorem dX10_canAdd_10 : decode cX10_canAdd 10 = .ok (.ldc2_w 360, 3) := by decide +kernel
theorem dX10_canAdd_13 : decode cX10_canAdd 13 = .ok (.ldc2_w 362, 3) := by decide +kernel
theorem dX10_canAdd_16 : decode cX10_canAdd 16 = .ok (.invokestatic 236, 3) := by decide +kernel
theorem dX10_canAdd_19 : decode cX10_canAdd 19 = .ok (.ifCond .ne 6, 3) := by decide +kernel
theorem dX10_canAdd_22 : decode cX10_canAdd 22 = .ok (.bipush (-2), 2) := by decide +kernel
theorem dX10_canAdd_24 : decode cX10_canAdd 24 = .ok (.ireturn, 1) := by decide +kernel
theorem dX10_canAdd_25 : decode cX10_canAdd 25 = .ok (.aload_n 0, 1) := by decide +kernel
theorem dX10_canAdd_26 : decode cX10_canAdd 26 = .ok (.invokevirtual 364, 3) := by decide +kernel
theorem dX10_canAdd_29 : decode cX10_canAdd 29 = .ok (.aload_n 0, 1) := by decide +kernel
theorem dX10_canAdd_30 : decode cX10_canAdd 30 = .ok (.iload_n 1, 1) := by decide +kernel
theorem dX10_canAdd_31 : decode cX10_canAdd 31 = .ok (.iload_n 2, 1) := by decide +kernel
theorem dX10_canAdd_32 : decode cX10_canAdd 32 = .ok (.i2l, 1) := by decide +kernel
theorem dX10_canAdd_33 : decode cX10_canAdd 33 = .ok (.invokevirtual 367, 3) := by decide +kernel
theorem dX10_canAdd_36 : decode cX10_canAdd 36 = .ok (.aload_n 0, 1) := by decide +kernel
theorem dX10_canAdd_37 : decode cX10_canAdd 37 = .ok (.invokevirtual 371, 3) := by decide +kernel
theorem dX10_canAdd_40 : decode cX10_canAdd 40 = .ok (.ireturn, 1) := by decide +kernel
theorem kcX10_canAdd : Cond.code yX10_canAdd cX10_canAdd 3 (some .int) ∈ tb := tq q_1097 rfl
theorem knX10_canAdd : Cond.initialized yX10_canAdd.cls ∈ tb := (tq q_10 rfl)
theorem kdX10_canAdd : yX10_canAdd.cls ≠ "java/lang/invoke/MethodHandle" ∧ yX10_canAdd.cls ≠ "java/lang/invoke/VarHandle" ∧ (parseMethodDescriptor yX10_canAdd.desc).map (fun d => d.parameters.length) = some 2 := ⟨by decide +kernel, by decide +kernel, by decide +kernel⟩
theorem kiX10_canAdd : Cond.instanceMethod yX10_canAdd ∈ tb := (tq q_1096 rfl)
theorem ksX10_canAdd : Cond.selects yX10_canAdd.cls yX10_canAdd yX10_canAdd ∈ tb := (tq z_70 rfl)
theorem tgX10_canAdd {x0 : Nat} {x1 : Int32} {x2 : Int32} {h : PH} {r : Int32 × PH} (hf : (fX10_canAdd x0 x1 x2).1 h = some r) : ∃ n x, nth h x0 = some (9, n, x) := by
  obtain ⟨_, _, e, _⟩ := pb_some hf
  exact (chk_some e).2
set_option maxHeartbeats 4000000 in
set_option maxRecDepth 100000 in
theorem metX10_canAdd (l : Launch) (G : GG) (ρ : Nat → Nat) {z : Nat} {x0 : Nat} {x1 : Int32} {x2 : Int32} {h hE : PH} {v : Int32} (hf : (fX10_canAdd x0 x1 x2).1 h = some (v, hE)) : Met l yX10_canAdd (wsY yX10_canAdd cX10_canAdd 3 (some .int)) (RM 9 228 h hE) (va_Pc [.ref (ρ x0), .int x1, .int x2] (PcB G ρ h z)) (QI G ρ v hE h.length z) (DC h hE) (DS h hE) (Af ρ h.length z) := by
  refine met_start (by decide) (Nat.le_of_ble_eq_true rfl) ?_
  intro p e s m below meth c ls hz C hW hl
  subst hz
  have C : Cx G "PairSymbolsModel" cX10_canAdd 3 (some .int) "canAdd" p s m _ meth c := C
  have hx := C.1
  have hb := C.2.1
  have hX : Ext hE hE := Ext.rf hE
  have hl : lv_has ls 3 [(0, .ref (ρ x0)), (1, .int x1), (2, .int x2)] := hl
  have hW : Wd G ρ h.length (sl h) s.heap h s.heap [] 0 0 := hW
  unfold fX10_canAdd at hf
  obtain ⟨_, e0, hf⟩ := pb_rd (rd_chk _ _) hf
  refine lv_aload_n hx hb dX10_canAdd_0 rfl (lv_at hl 0 rfl) ?_
  refine lv_iload_n hx hb dX10_canAdd_1 rfl (lv_at hl 1 rfl) ?_
  obtain ⟨v1, h1, e1, hf⟩ := pb_some hf
  obtain ⟨_, _, t2⟩ := tgX10_isSymbol e1
  refine r_calli hW (pext e1) (run_V (b := x0) (As := [.int x1]) (rest := []) C hW (metX10_isSymbol l G ρ e1) ⟨rfl, rfl⟩ kcX10_isSymbol (tq q_935 rfl) kiX10_isSymbol ksX10_isSymbol knX10_isSymbol kdX10_isSymbol t2 rfl rfl ⟨Nat.le_of_ble_eq_true rfl, Nat.le_of_ble_eq_true rfl⟩ hl.1 (Nat.le_of_ble_eq_true rfl) (room_of hW (pext e1) ((pext hf).tr hX)) dX10_canAdd_2 rfl) (fun H locs c1 s1 hW => ?_)
  refine lv_if_eq (tgt := 22) hx hb dX10_canAdd_5 (by decide) (fun c3 => ?_) (fun c3 => ?_)
  · rw [if_pos c3] at hf
    refine lv_bipush (v := -2) hx hb dX10_canAdd_22 (by decide) ?_
    obtain ⟨rfl, rfl⟩ := pp_some hf
    exact r_iret C hW dX10_canAdd_24
  · rw [if_neg c3] at hf
    refine lv_iload_n hx hb dX10_canAdd_8 rfl (lv_at hl 2 rfl) ?_
    refine lv_i2l (v := x2.toInt64) hx hb dX10_canAdd_9 rfl ?_
    refine r_ldc2 (v := -999) C (tq q_1098 rfl) dX10_canAdd_10 ?_
    refine r_ldc2 (v := 999) C (tq q_1099 rfl) dX10_canAdd_13 ?_
    obtain ⟨v4, h4, e4, hf⟩ := pb_some hf
    refine r_calli hW (pext e4) (run_S (As := [.long x2.toInt64, .long (-999 : Int64), .long (999 : Int64)]) (rest := []) C hW (metX10_in l G ρ e4) ⟨rfl, rfl⟩ kcX10_in (tq q_834 rfl) kiX10_in knX10_in kdX10_in ⟨Nat.le_of_ble_eq_true rfl, Nat.le_of_ble_eq_true rfl⟩ hl.1 (Nat.le_of_ble_eq_true rfl) (room_of hW (pext e4) ((pext hf).tr hX)) dX10_canAdd_16 rfl) (fun H locs c1 s1 hW => ?_)
    refine lv_if_ne (tgt := 25) hx hb dX10_canAdd_19 (by decide) (fun c5 => ?_) (fun c5 => ?_)
    · rw [if_neg c5] at hf
      refine lv_aload_n hx hb dX10_canAdd_25 rfl (lv_at hl 0 rfl) ?_
      obtain ⟨_, h6, e6, hf⟩ := pb_some hf
      obtain ⟨_, _, t7⟩ := tgX10_laysSum e6
      refine r_callv hW (pext e6) (run_V (b := x0) (As := []) (rest := []) C hW (metX10_laysSum l G ρ e6) ⟨rfl, rfl⟩ kcX10_laysSum (tq q_1100 rfl) kiX10_laysSum ksX10_laysSum knX10_laysSum kdX10_laysSum t7 rfl rfl ⟨Nat.le_of_ble_eq_true rfl, Nat.le_of_ble_eq_true rfl⟩ hl.1 (Nat.le_of_ble_eq_true rfl) (room_of hW (pext e6) ((pext hf).tr hX)) dX10_canAdd_26 rfl) (fun H locs c1 s1 hW => ?_)
      refine lv_aload_n hx hb dX10_canAdd_29 rfl (lv_at hl 0 rfl) ?_
      refine lv_iload_n hx hb dX10_canAdd_30 rfl (lv_at hl 1 rfl) ?_
      refine lv_iload_n hx hb dX10_canAdd_31 rfl (lv_at hl 2 rfl) ?_
      refine lv_i2l (v := x2.toInt64) hx hb dX10_canAdd_32 rfl ?_
      obtain ⟨_, h8, e8, hf⟩ := pb_some hf
      obtain ⟨_, _, t9⟩ := tgX10_addsTo e8
      refine r_callv hW (pext e8) (run_V (b := x0) (As := [.int x1, .long x2.toInt64]) (rest := []) C hW (metX10_addsTo l G ρ e8) ⟨rfl, rfl⟩ kcX10_addsTo (tq q_1104 rfl) kiX10_addsTo ksX10_addsTo knX10_addsTo kdX10_addsTo t9 rfl rfl ⟨Nat.le_of_ble_eq_true rfl, Nat.le_of_ble_eq_true rfl⟩ hl.1 (Nat.le_of_ble_eq_true rfl) (room_of hW (pext e8) ((pext hf).tr hX)) dX10_canAdd_33 rfl) (fun H locs c1 s1 hW => ?_)
      refine lv_aload_n hx hb dX10_canAdd_36 rfl (lv_at hl 0 rfl) ?_
      obtain ⟨v10, h10, e10, hf⟩ := pb_some hf
      obtain ⟨_, _, t11⟩ := tgX10_canBe e10
      refine r_calli hW (pext e10) (run_V (b := x0) (As := []) (rest := []) C hW (metX10_canBe l G ρ e10) ⟨rfl, rfl⟩ kcX10_canBe (tq q_1108 rfl) kiX10_canBe ksX10_canBe knX10_canBe kdX10_canBe t11 rfl rfl ⟨Nat.le_of_ble_eq_true rfl, Nat.le_of_ble_eq_true rfl⟩ hl.1 (Nat.le_of_ble_eq_true rfl) (room_of hW (pext e10) ((pext hf).tr hX)) dX10_canAdd_37 rfl) (fun H locs c1 s1 hW => ?_)
      obtain ⟨rfl, rfl⟩ := pp_some hf
      exact r_iret C hW dX10_canAdd_40
    · rw [if_pos c5] at hf
      refine lv_bipush (v := -2) hx hb dX10_canAdd_22 (by decide) ?_
      obtain ⟨rfl, rfl⟩ := pp_some hf
      exact r_iret C hW dX10_canAdd_24

theorem dX10_adds_0 : decode cX10_adds 0 = .ok (.aload_n 0, 1) := by decide +kernel
theorem dX10_adds_1 : decode cX10_adds 1 = .ok (.iload_n 1, 1) := by decide +kernel
theorem dX10_adds_2 : decode cX10_adds 2 = .ok (.iload_n 2, 1) := by decide +kernel
theorem dX10_adds_3 : decode cX10_adds 3 = .ok (.invokevirtual 374, 3) := by decide +kernel
theorem dX10_adds_6 : decode cX10_adds 6 = .ok (.istore_n 3, 1) := by decide +kernel
theorem dX10_adds_7 : decode cX10_adds 7 = .ok (.iload_n 3, 1) := by decide +kernel
theorem dX10_adds_8 : decode cX10_adds 8 = .ok (.ifCond .ge 9, 3) := by decide +kernel
theorem dX10_adds_11 : decode cX10_adds 11 = .ok (.aload_n 0, 1) := by decide +kernel
theorem dX10_adds_12 : decode cX10_adds 12 = .ok (.iload_n 3, 1) := by decide +kernel
theorem dX10_adds_13 : decode cX10_adds 13 = .ok (.invokevirtual 240, 3) := by decide +kernel
theorem dX10_adds_16 : decode cX10_adds 16 = .ok (.ireturn, 1) := by decide +kernel
theorem dX10_adds_17 : decode cX10_adds 17 = .ok (.aload_n 0, 1) := by decide +kernel
theorem dX10_adds_18 : decode cX10_adds 18 = .ok (.invokevirtual 243, 3) := by decide +kernel
theorem dX10_adds_21 : decode cX10_adds 21 = .ok (.aload_n 0, 1) := by decide +kernel
theorem dX10_adds_22 : decode cX10_adds 22 = .ok (.invokevirtual 377, 3) := by decide +kernel
theorem dX10_adds_25 : decode cX10_adds 25 = .ok (.ireturn, 1) := by decide +kernel
theorem kcX10_adds : Cond.code yX10_adds cX10_adds 4 (some .int) ∈ tb := tq q_1093 rfl
theorem knX10_adds : Cond.initialized yX10_adds.cls ∈ tb := (tq q_10 rfl)
theorem kdX10_adds : yX10_adds.cls ≠ "java/lang/invoke/MethodHandle" ∧ yX10_adds.cls ≠ "java/lang/invoke/VarHandle" ∧ (parseMethodDescriptor yX10_adds.desc).map (fun d => d.parameters.length) = some 2 := ⟨by decide +kernel, by decide +kernel, by decide +kernel⟩
theorem kiX10_adds : Cond.instanceMethod yX10_adds ∈ tb := (tq q_1091 rfl)
theorem ksX10_adds : Cond.selects yX10_adds.cls yX10_adds yX10_adds ∈ tb := (tq q_1092 rfl)
theorem tgX10_adds {x0 : Nat} {x1 : Int32} {x2 : Int32} {h : PH} {r : Int32 × PH} (hf : (fX10_adds x0 x1 x2).1 h = some r) : ∃ n x, nth h x0 = some (9, n, x) := by
  obtain ⟨_, _, e, _⟩ := pb_some hf
  exact (chk_some e).2
set_option maxHeartbeats 4000000 in
set_option maxRecDepth 100000 in
theorem metX10_adds (l : Launch) (G : GG) (ρ : Nat → Nat) {z : Nat} {x0 : Nat} {x1 : Int32} {x2 : Int32} {h hE : PH} {v : Int32} (hf : (fX10_adds x0 x1 x2).1 h = some (v, hE)) : Met l yX10_adds (wsY yX10_adds cX10_adds 4 (some .int)) (RM 10 250 h hE) (va_Pc [.ref (ρ x0), .int x1, .int x2] (PcB G ρ h z)) (QI G ρ v hE h.length z) (DC h hE) (DS h hE) (Af ρ h.length z) := by
  refine met_start (by decide) (Nat.le_of_ble_eq_true rfl) ?_
  intro p e s m below meth c ls hz C hW hl
  subst hz
  have C : Cx G "PairSymbolsModel" cX10_adds 4 (some .int) "adds" p s m _ meth c := C
  have hx := C.1
  have hb := C.2.1
  have hX : Ext hE hE := Ext.rf hE
  have hl : lv_has ls 4 [(0, .ref (ρ x0)), (1, .int x1), (2, .int x2)] := hl
  have hW : Wd G ρ h.length (sl h) s.heap h s.heap [] 0 0 := hW
  unfold fX10_adds at hf
  obtain ⟨_, e0, hf⟩ := pb_rd (rd_chk _ _) hf
  refine lv_aload_n hx hb dX10_adds_0 rfl (lv_at hl 0 rfl) ?_
  refine lv_iload_n hx hb dX10_adds_1 rfl (lv_at hl 1 rfl) ?_
  refine lv_iload_n hx hb dX10_adds_2 rfl (lv_at hl 2 rfl) ?_
  obtain ⟨v1, h1, e1, hf⟩ := pb_some hf
  obtain ⟨_, _, t2⟩ := tgX10_canAdd e1
  refine r_calli hW (pext e1) (run_V (b := x0) (As := [.int x1, .int x2]) (rest := []) C hW (metX10_canAdd l G ρ e1) ⟨rfl, rfl⟩ kcX10_canAdd (tq q_1094 rfl) kiX10_canAdd ksX10_canAdd knX10_canAdd kdX10_canAdd t2 rfl rfl ⟨Nat.le_of_ble_eq_true rfl, Nat.le_of_ble_eq_true rfl⟩ hl.1 (Nat.le_of_ble_eq_true rfl) (room_of hW (pext e1) ((pext hf).tr hX)) dX10_adds_3 rfl) (fun H locs c1 s1 hW => ?_)
  refine lv_istore_n (lv' := [(3, .int v1), (0, .ref (ρ x0)), (1, .int x1), (2, .int x2)]) hx hb dX10_adds_6 rfl hl (by decide) rfl (fun ls hl => ?_)
  refine lv_iload_n hx hb dX10_adds_7 rfl (lv_at hl 0 rfl) ?_
  refine lv_if_ge (tgt := 17) hx hb dX10_adds_8 (by decide) (fun c3 => ?_) (fun c3 => ?_)
  · rw [if_pos c3] at hf
    refine lv_aload_n hx hb dX10_adds_17 rfl (lv_at hl 1 rfl) ?_
    obtain ⟨_, h4, e4, hf⟩ := pb_some hf
    obtain ⟨_, _, t5⟩ := tgX10_keep e4
    refine r_callv hW (pext e4) (run_V (b := x0) (As := []) (rest := []) C hW (metX10_keep l G ρ e4) ⟨rfl, rfl⟩ kcX10_keep (tq q_841 rfl) kiX10_keep ksX10_keep knX10_keep kdX10_keep t5 rfl rfl ⟨Nat.le_of_ble_eq_true rfl, Nat.le_of_ble_eq_true rfl⟩ hl.1 (Nat.le_of_ble_eq_true rfl) (room_of hW (pext e4) ((pext hf).tr hX)) dX10_adds_18 rfl) (fun H locs c1 s1 hW => ?_)
    refine lv_aload_n hx hb dX10_adds_21 rfl (lv_at hl 1 rfl) ?_
    obtain ⟨v6, h6, e6, hf⟩ := pb_some hf
    obtain ⟨_, _, t7⟩ := tgX10_becomes e6
    refine r_calli hW (pext e6) (run_V (b := x0) (As := []) (rest := []) C hW (metX10_becomes l G ρ e6) ⟨rfl, rfl⟩ kcX10_becomes (tq q_1114 rfl) kiX10_becomes ksX10_becomes knX10_becomes kdX10_becomes t7 rfl rfl ⟨Nat.le_of_ble_eq_true rfl, Nat.le_of_ble_eq_true rfl⟩ hl.1 (Nat.le_of_ble_eq_true rfl) (room_of hW (pext e6) ((pext hf).tr hX)) dX10_adds_22 rfl) (fun H locs c1 s1 hW => ?_)
    obtain ⟨rfl, rfl⟩ := pp_some hf
    exact r_iret C hW dX10_adds_25
  · rw [if_neg c3] at hf
    refine lv_aload_n hx hb dX10_adds_11 rfl (lv_at hl 1 rfl) ?_
    refine lv_iload_n hx hb dX10_adds_12 rfl (lv_at hl 0 rfl) ?_
    obtain ⟨v8, h8, e8, hf⟩ := pb_some hf
    obtain ⟨_, _, t9⟩ := tgX10_refuses e8
    refine r_calli hW (pext e8) (run_V (b := x0) (As := [.int v1]) (rest := []) C hW (metX10_refuses l G ρ e8) ⟨rfl, rfl⟩ kcX10_refuses (tq q_837 rfl) kiX10_refuses ksX10_refuses knX10_refuses kdX10_refuses t9 rfl rfl ⟨Nat.le_of_ble_eq_true rfl, Nat.le_of_ble_eq_true rfl⟩ hl.1 (Nat.le_of_ble_eq_true rfl) (room_of hW (pext e8) ((pext hf).tr hX)) dX10_adds_13 rfl) (fun H locs c1 s1 hW => ?_)
    obtain ⟨rfl, rfl⟩ := pp_some hf
    exact r_iret C hW dX10_adds_16

theorem dX10_canApply_0 : decode cX10_canApply 0 = .ok (.aload_n 0, 1) := by decide +kernel
theorem dX10_canApply_1 : decode cX10_canApply 1 = .ok (.iload_n 1, 1) := by decide +kernel
theorem dX10_canApply_2 : decode cX10_canApply 2 = .ok (.invokevirtual 287, 3) := by decide +kernel
theorem dX10_canApply_5 : decode cX10_canApply 5 = .ok (.istore_n 2, 1) := by decide +kernel
theorem dX10_canApply_6 : decode cX10_canApply 6 = .ok (.iload_n 2, 1) := by decide +kernel
theorem dX10_canApply_7 : decode cX10_canApply 7 = .ok (.ifCond .ge 5, 3) := by decide +kernel
theorem dX10_canApply_10 : decode cX10_canApply 10 = .ok (.iload_n 2, 1) := by decide +kernel
theorem dX10_canApply_11 : decode cX10_canApply 11 = .ok (.ireturn, 1) := by decide +kernel
theorem dX10_canApply_12 : decode cX10_canApply 12 = .ok (.aload_n 0, 1) := by decide +kernel
theorem dX10_canApply_13 : decode cX10_canApply 13 = .ok (.iload_n 1, 1) := by decide +kernel
theorem dX10_canApply_14 : decode cX10_canApply 14 = .ok (.invokevirtual 290, 3) := by decide +kernel
theorem dX10_canApply_17 : decode cX10_canApply 17 = .ok (.aload_n 0, 1) := by decide +kernel
theorem dX10_canApply_18 : decode cX10_canApply 18 = .ok (.invokevirtual 364, 3) := by decide +kernel
theorem dX10_canApply_21 : decode cX10_canApply 21 = .ok (.iconst 0, 1) := by decide +kernel
theorem dX10_canApply_22 : decode cX10_canApply 22 = .ok (.istore_n 3, 1) := by decide +kernel
theorem dX10_canApply_23 : decode cX10_canApply 23 = .ok (.iload_n 3, 1) := by decide +kernel
theorem dX10_canApply_24 : decode cX10_canApply 24 = .ok (.aload_n 0, 1) := by decide +kernel
theorem dX10_canApply_25 : decode cX10_canApply 25 = .ok (.getfield 192, 3) := by decide +kernel
theorem dX10_canApply_28 : decode cX10_canApply 28 = .ok (.if_icmp .ge 115, 3) := by decide +kernel
theorem dX10_canApply_31 : decode cX10_canApply 31 = .ok (.lconst 0, 1) := by decide +kernel
theorem dX10_canApply_32 : decode cX10_canApply 32 = .ok (.lstore 4, 2) := by decide +kernel
theorem dX10_canApply_34 : decode cX10_canApply 34 = .ok (.lconst 1, 1) := by decide +kernel
theorem dX10_canApply_35 : decode cX10_canApply 35 = .ok (.lstore 6, 2) := by decide +kernel
theorem dX10_canApply_37 : decode cX10_canApply 37 = .ok (.iconst 0, 1) := by decide +kernel
theorem dX10_canApply_38 : decode cX10_canApply 38 = .ok (.istore 8, 2) := by decide +kernel
theorem dX10_canApply_40 : decode cX10_canApply 40 = .ok (.iload 8, 2) := by decide +kernel
theorem dX10_canApply_42 : decode cX10_canApply 42 = .ok (.aload_n 0, 1) := by decide +kernel
theorem dX10_canApply_43 : decode cX10_canApply 43 = .ok (.getfield 192, 3) := by decide +kernel
theorem dX10_canApply_46 : decode cX10_canApply 46 = .ok (.if_icmp .ge 75, 3) := by decide +kernel
theorem dX10_canApply_49 : decode cX10_canApply 49 = .ok (.aload_n 0, 1) := by decide +kernel
theorem dX10_canApply_50 : decode cX10_canApply 50 = .ok (.lload 4, 2) := by decide +kernel
theorem dX10_canApply_52 : decode cX10_canApply 52 = .ok (.lload 6, 2) := by decide +kernel
theorem dX10_canApply_54 : decode cX10_canApply 54 = .ok (.aload_n 0, 1) := by decide +kernel
theorem dX10_canApply_55 : decode cX10_canApply 55 = .ok (.getfield 87, 3) := by decide +kernel
theorem dX10_canApply_58 : decode cX10_canApply 58 = .ok (.bipush 16, 2) := by decide +kernel
theorem dX10_canApply_60 : decode cX10_canApply 60 = .ok (.iload_n 3, 1) := by decide +kernel
theorem dX10_canApply_61 : decode cX10_canApply 61 = .ok (.imul, 1) := by decide +kernel
theorem dX10_canApply_62 : decode cX10_canApply 62 = .ok (.iload 8, 2) := by decide +kernel
theorem dX10_canApply_64 : decode cX10_canApply 64 = .ok (.iadd, 1) := by decide +kernel
theorem dX10_canApply_65 : decode cX10_canApply 65 = .ok (.laload, 1) := by decide +kernel
theorem dX10_canApply_66 : decode cX10_canApply 66 = .ok (.aload_n 0, 1) := by decide +kernel
theorem dX10_canApply_67 : decode cX10_canApply 67 = .ok (.getfield 90, 3) := by decide +kernel
theorem dX10_canApply_70 : decode cX10_canApply 70 = .ok (.bipush 16, 2) := by decide +kernel
theorem dX10_canApply_72 : decode cX10_canApply 72 = .ok (.iload_n 3, 1) := by decide +kernel
theorem dX10_canApply_73 : decode cX10_canApply 73 = .ok (.imul, 1) := by decide +kernel
theorem dX10_canApply_74 : decode cX10_canApply 74 = .ok (.iload 8, 2) := by decide +kernel
theorem dX10_canApply_76 : decode cX10_canApply 76 = .ok (.iadd, 1) := by decide +kernel
theorem dX10_canApply_77 : decode cX10_canApply 77 = .ok (.laload, 1) := by decide +kernel
theorem dX10_canApply_78 : decode cX10_canApply 78 = .ok (.aload_n 0, 1) := by decide +kernel
theorem dX10_canApply_79 : decode cX10_canApply 79 = .ok (.getfield 7, 3) := by decide +kernel
theorem dX10_canApply_82 : decode cX10_canApply 82 = .ok (.iconst 1, 1) := by decide +kernel
theorem dX10_canApply_83 : decode cX10_canApply 83 = .ok (.iconst 2, 1) := by decide +kernel
theorem dX10_canApply_84 : decode cX10_canApply 84 = .ok (.iload 8, 2) := by decide +kernel
theorem dX10_canApply_86 : decode cX10_canApply 86 = .ok (.imul, 1) := by decide +kernel
theorem dX10_canApply_87 : decode cX10_canApply 87 = .ok (.iadd, 1) := by decide +kernel
theorem dX10_canApply_88 : decode cX10_canApply 88 = .ok (.laload, 1) := by decide +kernel
theorem dX10_canApply_89 : decode cX10_canApply 89 = .ok (.aload_n 0, 1) := by decide +kernel
theorem dX10_canApply_90 : decode cX10_canApply 90 = .ok (.getfield 7, 3) := by decide +kernel
theorem dX10_canApply_93 : decode cX10_canApply 93 = .ok (.iconst 2, 1) := by decide +kernel
theorem dX10_canApply_94 : decode cX10_canApply 94 = .ok (.iconst 2, 1) := by decide +kernel
theorem dX10_canApply_95 : decode cX10_canApply 95 = .ok (.iload 8, 2) := by decide +kernel
theorem dX10_canApply_97 : decode cX10_canApply 97 = .ok (.imul, 1) := by decide +kernel
theorem dX10_canApply_98 : decode cX10_canApply 98 = .ok (.iadd, 1) := by decide +kernel
theorem dX10_canApply_99 : decode cX10_canApply 99 = .ok (.laload, 1) := by decide +kernel
theorem dX10_canApply_100 : decode cX10_canApply 100 = .ok (.invokevirtual 169, 3) := by decide +kernel
theorem dX10_canApply_103 : decode cX10_canApply 103 = .ok (.aload_n 0, 1) := by decide +kernel
theorem dX10_canApply_104 : decode cX10_canApply 104 = .ok (.getfield 133, 3) := by decide +kernel
theorem dX10_canApply_107 : decode cX10_canApply 107 = .ok (.lstore 4, 2) := by decide +kernel
theorem dX10_canApply_109 : decode cX10_canApply 109 = .ok (.aload_n 0, 1) := by decide +kernel
theorem dX10_canApply_110 : decode cX10_canApply 110 = .ok (.getfield 137, 3) := by decide +kernel
theorem dX10_canApply_113 : decode cX10_canApply 113 = .ok (.lstore 6, 2) := by decide +kernel
theorem dX10_canApply_115 : decode cX10_canApply 115 = .ok (.iinc 8 1, 3) := by decide +kernel
theorem dX10_canApply_118 : decode cX10_canApply 118 = .ok (.goto (-78), 3) := by decide +kernel
theorem dX10_canApply_121 : decode cX10_canApply 121 = .ok (.aload_n 0, 1) := by decide +kernel
theorem dX10_canApply_122 : decode cX10_canApply 122 = .ok (.getfield 111, 3) := by decide +kernel
theorem dX10_canApply_125 : decode cX10_canApply 125 = .ok (.iload_n 3, 1) := by decide +kernel
theorem dX10_canApply_126 : decode cX10_canApply 126 = .ok (.lload 4, 2) := by decide +kernel
theorem dX10_canApply_128 : decode cX10_canApply 128 = .ok (.lastore, 1) := by decide +kernel
theorem dX10_canApply_129 : decode cX10_canApply 129 = .ok (.aload_n 0, 1) := by decide +kernel
theorem dX10_canApply_130 : decode cX10_canApply 130 = .ok (.getfield 114, 3) := by decide +kernel
theorem dX10_canApply_133 : decode cX10_canApply 133 = .ok (.iload_n 3, 1) := by decide +kernel
theorem dX10_canApply_134 : decode cX10_canApply 134 = .ok (.lload 6, 2) := by decide +kernel
theorem dX10_canApply_136 : decode cX10_canApply 136 = .ok (.lastore, 1) := by decide +kernel
theorem dX10_canApply_137 : decode cX10_canApply 137 = .ok (.iinc 3 1, 3) := by decide +kernel
theorem dX10_canApply_140 : decode cX10_canApply 140 = .ok (.goto (-117), 3) := by decide +kernel
theorem dX10_canApply_143 : decode cX10_canApply 143 = .ok (.aload_n 0, 1) := by decide +kernel
theorem dX10_canApply_144 : decode cX10_canApply 144 = .ok (.invokevirtual 371, 3) := by decide +kernel
theorem dX10_canApply_147 : decode cX10_canApply 147 = .ok (.ireturn, 1) := by decide +kernel
theorem kcX10_canApply : Cond.code yX10_canApply cX10_canApply 9 (some .int) ∈ tb := tq q_1125 rfl
theorem knX10_canApply : Cond.initialized yX10_canApply.cls ∈ tb := (tq q_10 rfl)
theorem kdX10_canApply : yX10_canApply.cls ≠ "java/lang/invoke/MethodHandle" ∧ yX10_canApply.cls ≠ "java/lang/invoke/VarHandle" ∧ (parseMethodDescriptor yX10_canApply.desc).map (fun d => d.parameters.length) = some 1 := ⟨by decide +kernel, by decide +kernel, by decide +kernel⟩
theorem kiX10_canApply : Cond.instanceMethod yX10_canApply ∈ tb := (tq q_1124 rfl)
theorem ksX10_canApply : Cond.selects yX10_canApply.cls yX10_canApply yX10_canApply ∈ tb := (tq z_75 rfl)
theorem tgX10_canApply {x0 : Nat} {x1 : Int32} {h : PH} {r : Int32 × PH} (hf : (fX10_canApply x0 x1).1 h = some r) : ∃ n x, nth h x0 = some (9, n, x) := by
  obtain ⟨_, _, e, _⟩ := pb_some hf
  exact (chk_some e).2
set_option maxHeartbeats 4000000 in
set_option maxRecDepth 100000 in
theorem wX10_canApply_B40 {p : Program} {l : Launch} {e : Env} {s : State} {m : MethodId} {args : Array Value} {below : List Frame} {meth : Method} {c : Code} {G : GG} {ρ : Nat → Nat} {h0 hE hB : PH} {Q : State → Prop} {x0 : Nat} {x3 : Int32} (C : Cx G "PairSymbolsModel" cX10_canApply 9 (some .int) "canApply" p s m args meth c) {x4 : Int64} {x6 : Int64} {x8 : Int32} {h : PH} {H : Heap} {locs : List Loc} {cells slots : Nat} {ls : Array Slot} {r : (Int64 × Int64 × Int32) ⊕ (Int64 × Int64)} (hf : (fX10_canApply_b40 x0 x3 x4 x6 x8).1 h = some (r, hB)) (hX : Ext hB hE) (hW : Wd G ρ h0.length (sl h0) s.heap h H locs cells slots) (hl : lv_has ls 9 [(0, .ref (ρ x0)), (3, .int x3), (4, .long x4), (6, .long x6), (8, .int x8)]) (kc : ∀ y : Int64 × Int64 × Int32, r = .inl y → ∀ (H : Heap) (locs : List Loc) (c1 s1 : Nat) (ls : Array Slot), Wd G ρ h0.length (sl h0) s.heap hB H locs c1 s1 → lv_has ls 9 [(0, .ref (ρ x0)), (3, .int x3), (4, .long y.1), (6, .long y.2.1), (8, .int y.2.2)] → W p l e (RM 9 230 h0 hE) s m args below meth c H locs c1 s1 Q (F0 m 40 ls [])) (ke : ∀ z : Int64 × Int64, r = .inr z → ∀ (H : Heap) (locs : List Loc) (c1 s1 : Nat) (ls : Array Slot), Wd G ρ h0.length (sl h0) s.heap hB H locs c1 s1 → lv_has ls 9 [(0, .ref (ρ x0)), (3, .int x3), (4, .long z.1), (6, .long z.2)] → W p l e (RM 9 230 h0 hE) s m args below meth c H locs c1 s1 Q (F0 m 121 ls [])) : W p l e (RM 9 230 h0 hE) s m args below meth c H locs cells slots Q (F0 m 40 ls []) := by
  have hx := C.1
  have hb := C.2.1
  unfold fX10_canApply_b40 at hf
  refine lv_iload hx hb dX10_canApply_40 (lv_at hl 4 rfl) ?_
  refine lv_aload_n hx hb dX10_canApply_42 rfl (lv_at hl 0 rfl) ?_
  obtain ⟨v10, e10, hf⟩ := pb_rd (rd_gI _ _ _) hf
  refine r_gI C hW e10 flX10_192 rfl dX10_canApply_43 ?_
  refine lv_icmp_ge (tgt := 121) hx hb dX10_canApply_46 (by decide) (fun c11 => ?_) (fun c11 => ?_)
  · rw [if_pos c11] at hf
    obtain ⟨rfl, rfl⟩ := pp_some hf
    exact ke _ rfl _ _ _ _ _ hW (lv_sub hl [0, 1, 2, 3] rfl)
  · rw [if_neg c11] at hf
    refine lv_aload_n hx hb dX10_canApply_49 rfl (lv_at hl 0 rfl) ?_
    refine lv_lload hx hb dX10_canApply_50 (lv_at hl 2 rfl) ?_
    refine lv_lload hx hb dX10_canApply_52 (lv_at hl 3 rfl) ?_
    refine lv_aload_n hx hb dX10_canApply_54 rfl (lv_at hl 0 rfl) ?_
    obtain ⟨v12, e12, hf⟩ := pb_rd (rd_gA _ _ _) hf
    refine r_gA C hW e12 flX10_87 rfl dX10_canApply_55 ?_
    refine lv_bipush (v := 16) hx hb dX10_canApply_58 (by decide) ?_
    refine lv_iload_n hx hb dX10_canApply_60 rfl (lv_at hl 1 rfl) ?_
    refine lv_imul hx hb dX10_canApply_61 ?_
    refine lv_iload hx hb dX10_canApply_62 (lv_at hl 4 rfl) ?_
    refine lv_iadd hx hb dX10_canApply_64 ?_
    obtain ⟨v13, e13, hf⟩ := pb_rd (rd_lJ _ _ _) hf
    refine r_lald C hW e13 dX10_canApply_65 ?_
    refine lv_aload_n hx hb dX10_canApply_66 rfl (lv_at hl 0 rfl) ?_
    obtain ⟨v14, e14, hf⟩ := pb_rd (rd_gA _ _ _) hf
    refine r_gA C hW e14 flX10_90 rfl dX10_canApply_67 ?_
    refine lv_bipush (v := 16) hx hb dX10_canApply_70 (by decide) ?_
    refine lv_iload_n hx hb dX10_canApply_72 rfl (lv_at hl 1 rfl) ?_
    refine lv_imul hx hb dX10_canApply_73 ?_
    refine lv_iload hx hb dX10_canApply_74 (lv_at hl 4 rfl) ?_
    refine lv_iadd hx hb dX10_canApply_76 ?_
    obtain ⟨v15, e15, hf⟩ := pb_rd (rd_lJ _ _ _) hf
    refine r_lald C hW e15 dX10_canApply_77 ?_
    refine lv_aload_n hx hb dX10_canApply_78 rfl (lv_at hl 0 rfl) ?_
    obtain ⟨v16, e16, hf⟩ := pb_rd (rd_gA _ _ _) hf
    refine r_gA C hW e16 flX10_7 rfl dX10_canApply_79 ?_
    refine lv_iconst (v := 1) hx hb dX10_canApply_82 (by decide) ?_
    refine lv_iconst (v := 2) hx hb dX10_canApply_83 (by decide) ?_
    refine lv_iload hx hb dX10_canApply_84 (lv_at hl 4 rfl) ?_
    refine lv_imul hx hb dX10_canApply_86 ?_
    refine lv_iadd hx hb dX10_canApply_87 ?_
    obtain ⟨v17, e17, hf⟩ := pb_rd (rd_lJ _ _ _) hf
    refine r_lald C hW e17 dX10_canApply_88 ?_
    refine lv_aload_n hx hb dX10_canApply_89 rfl (lv_at hl 0 rfl) ?_
    obtain ⟨v18, e18, hf⟩ := pb_rd (rd_gA _ _ _) hf
    refine r_gA C hW e18 flX10_7 rfl dX10_canApply_90 ?_
    refine lv_iconst (v := 2) hx hb dX10_canApply_93 (by decide) ?_
    refine lv_iconst (v := 2) hx hb dX10_canApply_94 (by decide) ?_
    refine lv_iload hx hb dX10_canApply_95 (lv_at hl 4 rfl) ?_
    refine lv_imul hx hb dX10_canApply_97 ?_
    refine lv_iadd hx hb dX10_canApply_98 ?_
    obtain ⟨v19, e19, hf⟩ := pb_rd (rd_lJ _ _ _) hf
    refine r_lald C hW e19 dX10_canApply_99 ?_
    obtain ⟨_, h20, e20, hf⟩ := pb_some hf
    obtain ⟨_, _, t21⟩ := tgX10_more e20
    refine r_callv hW (pext e20) (run_V (b := x0) (As := [.long x4, .long x6, .long v13, .long v15, .long v17, .long v19]) (rest := []) C hW (metX10_more l G ρ e20) ⟨rfl, rfl⟩ kcX10_more (tq q_919 rfl) kiX10_more ksX10_more knX10_more kdX10_more t21 rfl rfl ⟨Nat.le_of_ble_eq_true rfl, Nat.le_of_ble_eq_true rfl⟩ hl.1 (Nat.le_of_ble_eq_true rfl) (room_of hW (pext e20) ((pext hf).tr hX)) dX10_canApply_100 rfl) (fun H locs c1 s1 hW => ?_)
    refine lv_aload_n hx hb dX10_canApply_103 rfl (lv_at hl 0 rfl) ?_
    obtain ⟨v22, e22, hf⟩ := pb_rd (rd_gJ _ _ _) hf
    refine r_gJ C hW e22 flX10_133 rfl dX10_canApply_104 ?_
    refine lv_lstore (lv' := [(4, .long v22), (0, .ref (ρ x0)), (3, .int x3), (6, .long x6), (8, .int x8)]) hx hb dX10_canApply_107 hl (by decide) rfl (fun ls hl => ?_)
    refine lv_aload_n hx hb dX10_canApply_109 rfl (lv_at hl 1 rfl) ?_
    obtain ⟨v23, e23, hf⟩ := pb_rd (rd_gJ _ _ _) hf
    refine r_gJ C hW e23 flX10_137 rfl dX10_canApply_110 ?_
    refine lv_lstore (lv' := [(6, .long v23), (4, .long v22), (0, .ref (ρ x0)), (3, .int x3), (8, .int x8)]) hx hb dX10_canApply_113 hl (by decide) rfl (fun ls hl => ?_)
    refine lv_iinc (v := (x8 + 1)) (lv' := [(8, .int (x8 + 1)), (6, .long v23), (4, .long v22), (0, .ref (ρ x0)), (3, .int x3)]) hx hb dX10_canApply_115 hl (k := 4) rfl rfl (by decide) rfl (fun ls hl => ?_)
    refine lv_goto (tgt := 40) hx hb dX10_canApply_118 (by decide) ?_
    obtain ⟨rfl, rfl⟩ := pp_some hf
    exact kc _ rfl _ _ _ _ _ hW (lv_sub hl [3, 4, 2, 1, 0] rfl)
set_option maxHeartbeats 4000000 in
theorem wX10_canApply_L40 {p : Program} {l : Launch} {e : Env} {s : State} {m : MethodId} {args : Array Value} {below : List Frame} {meth : Method} {c : Code} {G : GG} {ρ : Nat → Nat} {h0 hE hB : PH} {Q : State → Prop} {x0 : Nat} {x3 : Int32} (C : Cx G "PairSymbolsModel" cX10_canApply 9 (some .int) "canApply" p s m args meth c) {z : (Int64 × Int64)} (n : Nat) : ∀ (x : Int64 × Int64 × Int32) {h : PH} {H : Heap} {locs : List Loc} {cells slots : Nat} {ls : Array Slot}, (plo (fX10_canApply_B40 x0 x3) n x).1 h = some (z, hB) → Ext hB hE → Wd G ρ h0.length (sl h0) s.heap h H locs cells slots → lv_has ls 9 [(0, .ref (ρ x0)), (3, .int x3), (4, .long x.1), (6, .long x.2.1), (8, .int x.2.2)] → (ke : ∀ (H : Heap) (locs : List Loc) (c1 s1 : Nat) (ls : Array Slot), Wd G ρ h0.length (sl h0) s.heap hB H locs c1 s1 → lv_has ls 9 [(0, .ref (ρ x0)), (3, .int x3), (4, .long z.1), (6, .long z.2)] → W p l e (RM 9 230 h0 hE) s m args below meth c H locs c1 s1 Q (F0 m 121 ls [])) → W p l e (RM 9 230 h0 hE) s m args below meth c H locs cells slots Q (F0 m 40 ls []) := by
  induction n with
  | zero =>
    intro x h H locs cells slots ls hf
    rw [plo_0] at hf
    exact (pf_no hf).elim
  | succ n ih =>
    intro x h H locs cells slots ls hf hX hW hl ke
    rw [plo_s] at hf
    obtain ⟨r, h1, e1, hf⟩ := pb_some hf
    unfold fX10_canApply_B40 at e1
    rw [frJ_eq, frJ_eq, frI_eq] at e1
    refine wX10_canApply_B40 C e1 ((pext hf).tr hX) hW hl (fun y hr H locs c1 s1 ls hW hl => ?_) (fun y hr H locs c1 s1 ls hW hl => ?_)
    · subst hr
      exact ih y hf hX hW hl ke
    · subst hr
      obtain ⟨rfl, rfl⟩ := pp_some hf
      exact ke H locs c1 s1 ls hW hl
set_option maxHeartbeats 4000000 in
set_option maxRecDepth 100000 in
theorem wX10_canApply_B23 {p : Program} {l : Launch} {e : Env} {s : State} {m : MethodId} {args : Array Value} {below : List Frame} {meth : Method} {c : Code} {G : GG} {ρ : Nat → Nat} {h0 hE hB : PH} {Q : State → Prop} {x0 : Nat} (C : Cx G "PairSymbolsModel" cX10_canApply 9 (some .int) "canApply" p s m args meth c) {x3 : Int32} {h : PH} {H : Heap} {locs : List Loc} {cells slots : Nat} {ls : Array Slot} {r : (Int32) ⊕ (Unit)} (hf : (fX10_canApply_b23 x0 x3).1 h = some (r, hB)) (hX : Ext hB hE) (hW : Wd G ρ h0.length (sl h0) s.heap h H locs cells slots) (hl : lv_has ls 9 [(0, .ref (ρ x0)), (3, .int x3)]) (kc : ∀ y : Int32, r = .inl y → ∀ (H : Heap) (locs : List Loc) (c1 s1 : Nat) (ls : Array Slot), Wd G ρ h0.length (sl h0) s.heap hB H locs c1 s1 → lv_has ls 9 [(0, .ref (ρ x0)), (3, .int y)] → W p l e (RM 9 230 h0 hE) s m args below meth c H locs c1 s1 Q (F0 m 23 ls [])) (ke : ∀ z : Unit, r = .inr z → ∀ (H : Heap) (locs : List Loc) (c1 s1 : Nat) (ls : Array Slot), Wd G ρ h0.length (sl h0) s.heap hB H locs c1 s1 → lv_has ls 9 [(0, .ref (ρ x0))] → W p l e (RM 9 230 h0 hE) s m args below meth c H locs c1 s1 Q (F0 m 143 ls [])) : W p l e (RM 9 230 h0 hE) s m args below meth c H locs cells slots Q (F0 m 23 ls []) := by
  have hx := C.1
  have hb := C.2.1
  unfold fX10_canApply_b23 at hf
  refine lv_iload_n hx hb dX10_canApply_23 rfl (lv_at hl 1 rfl) ?_
  refine lv_aload_n hx hb dX10_canApply_24 rfl (lv_at hl 0 rfl) ?_
  obtain ⟨v8, e8, hf⟩ := pb_rd (rd_gI _ _ _) hf
  refine r_gI C hW e8 flX10_192 rfl dX10_canApply_25 ?_
  refine lv_icmp_ge (tgt := 143) hx hb dX10_canApply_28 (by decide) (fun c9 => ?_) (fun c9 => ?_)
  · rw [if_pos c9] at hf
    obtain ⟨rfl, rfl⟩ := pp_some hf
    exact ke _ rfl _ _ _ _ _ hW (lv_sub hl [0] rfl)
  · rw [if_neg c9] at hf
    refine lv_lconst (v := 0) hx hb dX10_canApply_31 (by decide) ?_
    refine lv_lstore (lv' := [(4, .long (0 : Int64)), (0, .ref (ρ x0)), (3, .int x3)]) hx hb dX10_canApply_32 hl (by decide) rfl (fun ls hl => ?_)
    refine lv_lconst (v := 1) hx hb dX10_canApply_34 (by decide) ?_
    refine lv_lstore (lv' := [(6, .long (1 : Int64)), (4, .long (0 : Int64)), (0, .ref (ρ x0)), (3, .int x3)]) hx hb dX10_canApply_35 hl (by decide) rfl (fun ls hl => ?_)
    refine lv_iconst (v := 0) hx hb dX10_canApply_37 (by decide) ?_
    refine lv_istore (lv' := [(8, .int (0 : Int32)), (6, .long (1 : Int64)), (4, .long (0 : Int64)), (0, .ref (ρ x0)), (3, .int x3)]) hx hb dX10_canApply_38 hl (by decide) rfl (fun ls hl => ?_)
    obtain ⟨z24, h24, e24, hf⟩ := pb_some hf
    refine wX10_canApply_L40 C fu _ e24 ((pext hf).tr hX) hW (lv_sub hl [3, 4, 2, 1, 0] rfl) (fun H locs c1 s1 ls hW hl => ?_)
    refine lv_aload_n hx hb dX10_canApply_121 rfl (lv_at hl 0 rfl) ?_
    obtain ⟨v25, e25, hf⟩ := pb_rd (rd_gA _ _ _) hf
    refine r_gA C hW e25 flX10_111 rfl dX10_canApply_122 ?_
    refine lv_iload_n hx hb dX10_canApply_125 rfl (lv_at hl 1 rfl) ?_
    refine lv_lload hx hb dX10_canApply_126 (lv_at hl 2 rfl) ?_
    obtain ⟨_, h26, e26, hf⟩ := pb_some hf
    refine r_last C hW e26 dX10_canApply_128 (fun H locs hW => ?_)
    refine lv_aload_n hx hb dX10_canApply_129 rfl (lv_at hl 0 rfl) ?_
    obtain ⟨v27, e27, hf⟩ := pb_rd (rd_gA _ _ _) hf
    refine r_gA C hW e27 flX10_114 rfl dX10_canApply_130 ?_
    refine lv_iload_n hx hb dX10_canApply_133 rfl (lv_at hl 1 rfl) ?_
    refine lv_lload hx hb dX10_canApply_134 (lv_at hl 3 rfl) ?_
    obtain ⟨_, h28, e28, hf⟩ := pb_some hf
    refine r_last C hW e28 dX10_canApply_136 (fun H locs hW => ?_)
    refine lv_iinc (v := (x3 + 1)) (lv' := [(3, .int (x3 + 1)), (0, .ref (ρ x0)), (4, .long z24.1), (6, .long z24.2)]) hx hb dX10_canApply_137 hl (k := 1) rfl rfl (by decide) rfl (fun ls hl => ?_)
    refine lv_goto (tgt := 23) hx hb dX10_canApply_140 (by decide) ?_
    obtain ⟨rfl, rfl⟩ := pp_some hf
    exact kc _ rfl _ _ _ _ _ hW (lv_sub hl [1, 0] rfl)
set_option maxHeartbeats 4000000 in
theorem wX10_canApply_L23 {p : Program} {l : Launch} {e : Env} {s : State} {m : MethodId} {args : Array Value} {below : List Frame} {meth : Method} {c : Code} {G : GG} {ρ : Nat → Nat} {h0 hE hB : PH} {Q : State → Prop} {x0 : Nat} (C : Cx G "PairSymbolsModel" cX10_canApply 9 (some .int) "canApply" p s m args meth c) {z : (Unit)} (n : Nat) : ∀ (x : Int32) {h : PH} {H : Heap} {locs : List Loc} {cells slots : Nat} {ls : Array Slot}, (plo (fX10_canApply_B23 x0) n x).1 h = some (z, hB) → Ext hB hE → Wd G ρ h0.length (sl h0) s.heap h H locs cells slots → lv_has ls 9 [(0, .ref (ρ x0)), (3, .int x)] → (ke : ∀ (H : Heap) (locs : List Loc) (c1 s1 : Nat) (ls : Array Slot), Wd G ρ h0.length (sl h0) s.heap hB H locs c1 s1 → lv_has ls 9 [(0, .ref (ρ x0))] → W p l e (RM 9 230 h0 hE) s m args below meth c H locs c1 s1 Q (F0 m 143 ls [])) → W p l e (RM 9 230 h0 hE) s m args below meth c H locs cells slots Q (F0 m 23 ls []) := by
  induction n with
  | zero =>
    intro x h H locs cells slots ls hf
    rw [plo_0] at hf
    exact (pf_no hf).elim
  | succ n ih =>
    intro x h H locs cells slots ls hf hX hW hl ke
    rw [plo_s] at hf
    obtain ⟨r, h1, e1, hf⟩ := pb_some hf
    unfold fX10_canApply_B23 at e1
    rw [frI_eq] at e1
    refine wX10_canApply_B23 C e1 ((pext hf).tr hX) hW hl (fun y hr H locs c1 s1 ls hW hl => ?_) (fun y hr H locs c1 s1 ls hW hl => ?_)
    · subst hr
      exact ih y hf hX hW hl ke
    · subst hr
      obtain ⟨rfl, rfl⟩ := pp_some hf
      exact ke H locs c1 s1 ls hW hl
set_option maxHeartbeats 4000000 in
set_option maxRecDepth 100000 in
theorem metX10_canApply (l : Launch) (G : GG) (ρ : Nat → Nat) {z : Nat} {x0 : Nat} {x1 : Int32} {h hE : PH} {v : Int32} (hf : (fX10_canApply x0 x1).1 h = some (v, hE)) : Met l yX10_canApply (wsY yX10_canApply cX10_canApply 9 (some .int)) (RM 9 230 h hE) (va_Pc [.ref (ρ x0), .int x1] (PcB G ρ h z)) (QI G ρ v hE h.length z) (DC h hE) (DS h hE) (Af ρ h.length z) := by
  refine met_start (by decide) (Nat.le_of_ble_eq_true rfl) ?_
  intro p e s m below meth c ls hz C hW hl
  subst hz
  have C : Cx G "PairSymbolsModel" cX10_canApply 9 (some .int) "canApply" p s m _ meth c := C
  have hx := C.1
  have hb := C.2.1
  have hX : Ext hE hE := Ext.rf hE
  have hl : lv_has ls 9 [(0, .ref (ρ x0)), (1, .int x1)] := hl
  have hW : Wd G ρ h.length (sl h) s.heap h s.heap [] 0 0 := hW
  unfold fX10_canApply at hf
  obtain ⟨_, e0, hf⟩ := pb_rd (rd_chk _ _) hf
  refine lv_aload_n hx hb dX10_canApply_0 rfl (lv_at hl 0 rfl) ?_
  refine lv_iload_n hx hb dX10_canApply_1 rfl (lv_at hl 1 rfl) ?_
  obtain ⟨v1, h1, e1, hf⟩ := pb_some hf
  obtain ⟨_, _, t2⟩ := tgX10_canOperate e1
  refine r_calli hW (pext e1) (run_V (b := x0) (As := [.int x1]) (rest := []) C hW (metX10_canOperate l G ρ e1) ⟨rfl, rfl⟩ kcX10_canOperate (tq q_999 rfl) kiX10_canOperate ksX10_canOperate knX10_canOperate kdX10_canOperate t2 rfl rfl ⟨Nat.le_of_ble_eq_true rfl, Nat.le_of_ble_eq_true rfl⟩ hl.1 (Nat.le_of_ble_eq_true rfl) (room_of hW (pext e1) ((pext hf).tr hX)) dX10_canApply_2 rfl) (fun H locs c1 s1 hW => ?_)
  refine lv_istore_n (lv' := [(2, .int v1), (0, .ref (ρ x0)), (1, .int x1)]) hx hb dX10_canApply_5 rfl hl (by decide) rfl (fun ls hl => ?_)
  refine lv_iload_n hx hb dX10_canApply_6 rfl (lv_at hl 0 rfl) ?_
  refine lv_if_ge (tgt := 12) hx hb dX10_canApply_7 (by decide) (fun c3 => ?_) (fun c3 => ?_)
  · rw [if_pos c3] at hf
    refine lv_aload_n hx hb dX10_canApply_12 rfl (lv_at hl 1 rfl) ?_
    refine lv_iload_n hx hb dX10_canApply_13 rfl (lv_at hl 2 rfl) ?_
    obtain ⟨_, h4, e4, hf⟩ := pb_some hf
    obtain ⟨_, _, t5⟩ := tgX10_laysOperator e4
    refine r_callv hW (pext e4) (run_V (b := x0) (As := [.int x1]) (rest := []) C hW (metX10_laysOperator l G ρ e4) ⟨rfl, rfl⟩ kcX10_laysOperator (tq q_1004 rfl) kiX10_laysOperator ksX10_laysOperator knX10_laysOperator kdX10_laysOperator t5 rfl rfl ⟨Nat.le_of_ble_eq_true rfl, Nat.le_of_ble_eq_true rfl⟩ hl.1 (Nat.le_of_ble_eq_true rfl) (room_of hW (pext e4) ((pext hf).tr hX)) dX10_canApply_14 rfl) (fun H locs c1 s1 hW => ?_)
    refine lv_aload_n hx hb dX10_canApply_17 rfl (lv_at hl 1 rfl) ?_
    obtain ⟨_, h6, e6, hf⟩ := pb_some hf
    obtain ⟨_, _, t7⟩ := tgX10_laysSum e6
    refine r_callv hW (pext e6) (run_V (b := x0) (As := []) (rest := []) C hW (metX10_laysSum l G ρ e6) ⟨rfl, rfl⟩ kcX10_laysSum (tq q_1100 rfl) kiX10_laysSum ksX10_laysSum knX10_laysSum kdX10_laysSum t7 rfl rfl ⟨Nat.le_of_ble_eq_true rfl, Nat.le_of_ble_eq_true rfl⟩ hl.1 (Nat.le_of_ble_eq_true rfl) (room_of hW (pext e6) ((pext hf).tr hX)) dX10_canApply_18 rfl) (fun H locs c1 s1 hW => ?_)
    refine lv_iconst (v := 0) hx hb dX10_canApply_21 (by decide) ?_
    refine lv_istore_n (lv' := [(3, .int (0 : Int32)), (2, .int v1), (0, .ref (ρ x0)), (1, .int x1)]) hx hb dX10_canApply_22 rfl hl (by decide) rfl (fun ls hl => ?_)
    obtain ⟨z29, h29, e29, hf⟩ := pb_some hf
    refine wX10_canApply_L23 C fu _ e29 ((pext hf).tr hX) hW (lv_sub hl [2, 0] rfl) (fun H locs c1 s1 ls hW hl => ?_)
    refine lv_aload_n hx hb dX10_canApply_143 rfl (lv_at hl 0 rfl) ?_
    obtain ⟨v30, h30, e30, hf⟩ := pb_some hf
    obtain ⟨_, _, t31⟩ := tgX10_canBe e30
    refine r_calli hW (pext e30) (run_V (b := x0) (As := []) (rest := []) C hW (metX10_canBe l G ρ e30) ⟨rfl, rfl⟩ kcX10_canBe (tq q_1108 rfl) kiX10_canBe ksX10_canBe knX10_canBe kdX10_canBe t31 rfl rfl ⟨Nat.le_of_ble_eq_true rfl, Nat.le_of_ble_eq_true rfl⟩ hl.1 (Nat.le_of_ble_eq_true rfl) (room_of hW (pext e30) ((pext hf).tr hX)) dX10_canApply_144 rfl) (fun H locs c1 s1 hW => ?_)
    obtain ⟨rfl, rfl⟩ := pp_some hf
    exact r_iret C hW dX10_canApply_147
  · rw [if_neg c3] at hf
    refine lv_iload_n hx hb dX10_canApply_10 rfl (lv_at hl 0 rfl) ?_
    obtain ⟨rfl, rfl⟩ := pp_some hf
    exact r_iret C hW dX10_canApply_11

theorem dX10_applies_0 : decode cX10_applies 0 = .ok (.aload_n 0, 1) := by decide +kernel
theorem dX10_applies_1 : decode cX10_applies 1 = .ok (.iload_n 1, 1) := by decide +kernel
theorem dX10_applies_2 : decode cX10_applies 2 = .ok (.invokevirtual 380, 3) := by decide +kernel
theorem dX10_applies_5 : decode cX10_applies 5 = .ok (.istore_n 2, 1) := by decide +kernel
theorem dX10_applies_6 : decode cX10_applies 6 = .ok (.iload_n 2, 1) := by decide +kernel
theorem dX10_applies_7 : decode cX10_applies 7 = .ok (.ifCond .ge 9, 3) := by decide +kernel
theorem dX10_applies_10 : decode cX10_applies 10 = .ok (.aload_n 0, 1) := by decide +kernel
theorem dX10_applies_11 : decode cX10_applies 11 = .ok (.iload_n 2, 1) := by decide +kernel
theorem dX10_applies_12 : decode cX10_applies 12 = .ok (.invokevirtual 240, 3) := by decide +kernel
theorem dX10_applies_15 : decode cX10_applies 15 = .ok (.ireturn, 1) := by decide +kernel
theorem dX10_applies_16 : decode cX10_applies 16 = .ok (.aload_n 0, 1) := by decide +kernel
theorem dX10_applies_17 : decode cX10_applies 17 = .ok (.invokevirtual 243, 3) := by decide +kernel
theorem dX10_applies_20 : decode cX10_applies 20 = .ok (.aload_n 0, 1) := by decide +kernel
theorem dX10_applies_21 : decode cX10_applies 21 = .ok (.invokevirtual 377, 3) := by decide +kernel
theorem dX10_applies_24 : decode cX10_applies 24 = .ok (.ireturn, 1) := by decide +kernel
theorem kcX10_applies : Cond.code yX10_applies cX10_applies 3 (some .int) ∈ tb := tq q_1121 rfl
theorem knX10_applies : Cond.initialized yX10_applies.cls ∈ tb := (tq q_10 rfl)
theorem kdX10_applies : yX10_applies.cls ≠ "java/lang/invoke/MethodHandle" ∧ yX10_applies.cls ≠ "java/lang/invoke/VarHandle" ∧ (parseMethodDescriptor yX10_applies.desc).map (fun d => d.parameters.length) = some 1 := ⟨by decide +kernel, by decide +kernel, by decide +kernel⟩
theorem kiX10_applies : Cond.instanceMethod yX10_applies ∈ tb := (tq q_1119 rfl)
theorem ksX10_applies : Cond.selects yX10_applies.cls yX10_applies yX10_applies ∈ tb := (tq q_1120 rfl)
theorem tgX10_applies {x0 : Nat} {x1 : Int32} {h : PH} {r : Int32 × PH} (hf : (fX10_applies x0 x1).1 h = some r) : ∃ n x, nth h x0 = some (9, n, x) := by
  obtain ⟨_, _, e, _⟩ := pb_some hf
  exact (chk_some e).2
set_option maxHeartbeats 4000000 in
set_option maxRecDepth 100000 in
theorem metX10_applies (l : Launch) (G : GG) (ρ : Nat → Nat) {z : Nat} {x0 : Nat} {x1 : Int32} {h hE : PH} {v : Int32} (hf : (fX10_applies x0 x1).1 h = some (v, hE)) : Met l yX10_applies (wsY yX10_applies cX10_applies 3 (some .int)) (RM 10 258 h hE) (va_Pc [.ref (ρ x0), .int x1] (PcB G ρ h z)) (QI G ρ v hE h.length z) (DC h hE) (DS h hE) (Af ρ h.length z) := by
  refine met_start (by decide) (Nat.le_of_ble_eq_true rfl) ?_
  intro p e s m below meth c ls hz C hW hl
  subst hz
  have C : Cx G "PairSymbolsModel" cX10_applies 3 (some .int) "applies" p s m _ meth c := C
  have hx := C.1
  have hb := C.2.1
  have hX : Ext hE hE := Ext.rf hE
  have hl : lv_has ls 3 [(0, .ref (ρ x0)), (1, .int x1)] := hl
  have hW : Wd G ρ h.length (sl h) s.heap h s.heap [] 0 0 := hW
  unfold fX10_applies at hf
  obtain ⟨_, e0, hf⟩ := pb_rd (rd_chk _ _) hf
  refine lv_aload_n hx hb dX10_applies_0 rfl (lv_at hl 0 rfl) ?_
  refine lv_iload_n hx hb dX10_applies_1 rfl (lv_at hl 1 rfl) ?_
  obtain ⟨v1, h1, e1, hf⟩ := pb_some hf
  obtain ⟨_, _, t2⟩ := tgX10_canApply e1
  refine r_calli hW (pext e1) (run_V (b := x0) (As := [.int x1]) (rest := []) C hW (metX10_canApply l G ρ e1) ⟨rfl, rfl⟩ kcX10_canApply (tq q_1122 rfl) kiX10_canApply ksX10_canApply knX10_canApply kdX10_canApply t2 rfl rfl ⟨Nat.le_of_ble_eq_true rfl, Nat.le_of_ble_eq_true rfl⟩ hl.1 (Nat.le_of_ble_eq_true rfl) (room_of hW (pext e1) ((pext hf).tr hX)) dX10_applies_2 rfl) (fun H locs c1 s1 hW => ?_)
  refine lv_istore_n (lv' := [(2, .int v1), (0, .ref (ρ x0)), (1, .int x1)]) hx hb dX10_applies_5 rfl hl (by decide) rfl (fun ls hl => ?_)
  refine lv_iload_n hx hb dX10_applies_6 rfl (lv_at hl 0 rfl) ?_
  refine lv_if_ge (tgt := 16) hx hb dX10_applies_7 (by decide) (fun c3 => ?_) (fun c3 => ?_)
  · rw [if_pos c3] at hf
    refine lv_aload_n hx hb dX10_applies_16 rfl (lv_at hl 1 rfl) ?_
    obtain ⟨_, h4, e4, hf⟩ := pb_some hf
    obtain ⟨_, _, t5⟩ := tgX10_keep e4
    refine r_callv hW (pext e4) (run_V (b := x0) (As := []) (rest := []) C hW (metX10_keep l G ρ e4) ⟨rfl, rfl⟩ kcX10_keep (tq q_841 rfl) kiX10_keep ksX10_keep knX10_keep kdX10_keep t5 rfl rfl ⟨Nat.le_of_ble_eq_true rfl, Nat.le_of_ble_eq_true rfl⟩ hl.1 (Nat.le_of_ble_eq_true rfl) (room_of hW (pext e4) ((pext hf).tr hX)) dX10_applies_17 rfl) (fun H locs c1 s1 hW => ?_)
    refine lv_aload_n hx hb dX10_applies_20 rfl (lv_at hl 1 rfl) ?_
    obtain ⟨v6, h6, e6, hf⟩ := pb_some hf
    obtain ⟨_, _, t7⟩ := tgX10_becomes e6
    refine r_calli hW (pext e6) (run_V (b := x0) (As := []) (rest := []) C hW (metX10_becomes l G ρ e6) ⟨rfl, rfl⟩ kcX10_becomes (tq q_1114 rfl) kiX10_becomes ksX10_becomes knX10_becomes kdX10_becomes t7 rfl rfl ⟨Nat.le_of_ble_eq_true rfl, Nat.le_of_ble_eq_true rfl⟩ hl.1 (Nat.le_of_ble_eq_true rfl) (room_of hW (pext e6) ((pext hf).tr hX)) dX10_applies_21 rfl) (fun H locs c1 s1 hW => ?_)
    obtain ⟨rfl, rfl⟩ := pp_some hf
    exact r_iret C hW dX10_applies_24
  · rw [if_neg c3] at hf
    refine lv_aload_n hx hb dX10_applies_10 rfl (lv_at hl 1 rfl) ?_
    refine lv_iload_n hx hb dX10_applies_11 rfl (lv_at hl 0 rfl) ?_
    obtain ⟨v8, h8, e8, hf⟩ := pb_some hf
    obtain ⟨_, _, t9⟩ := tgX10_refuses e8
    refine r_calli hW (pext e8) (run_V (b := x0) (As := [.int v1]) (rest := []) C hW (metX10_refuses l G ρ e8) ⟨rfl, rfl⟩ kcX10_refuses (tq q_837 rfl) kiX10_refuses ksX10_refuses knX10_refuses kdX10_refuses t9 rfl rfl ⟨Nat.le_of_ble_eq_true rfl, Nat.le_of_ble_eq_true rfl⟩ hl.1 (Nat.le_of_ble_eq_true rfl) (room_of hW (pext e8) ((pext hf).tr hX)) dX10_applies_12 rfl) (fun H locs c1 s1 hW => ?_)
    obtain ⟨rfl, rfl⟩ := pp_some hf
    exact r_iret C hW dX10_applies_15

theorem dX10_canWalk_0 : decode cX10_canWalk 0 = .ok (.iload_n 1, 1) := by decide +kernel
theorem dX10_canWalk_1 : decode cX10_canWalk 1 = .ok (.i2l, 1) := by decide +kernel
theorem dX10_canWalk_2 : decode cX10_canWalk 2 = .ok (.lconst 0, 1) := by decide +kernel
theorem dX10_canWalk_3 : decode cX10_canWalk 3 = .ok (.ldc2_w 383, 3) := by decide +kernel
theorem dX10_canWalk_6 : decode cX10_canWalk 6 = .ok (.invokestatic 236, 3) := by decide +kernel
theorem dX10_canWalk_9 : decode cX10_canWalk 9 = .ok (.ifCond .eq 15, 3) := by decide +kernel
theorem dX10_canWalk_12 : decode cX10_canWalk 12 = .ok (.iload_n 2, 1) := by decide +kernel
theorem dX10_canWalk_13 : decode cX10_canWalk 13 = .ok (.i2l, 1) := by decide +kernel
theorem dX10_canWalk_14 : decode cX10_canWalk 14 = .ok (.lconst 1, 1) := by decide +kernel
theorem dX10_canWalk_15 : decode cX10_canWalk 15 = .ok (.ldc2_w 383, 3) := by decide +kernel
theorem dX10_canWalk_18 : decode cX10_canWalk 18 = .ok (.invokestatic 236, 3) := by decide +kernel
theorem dX10_canWalk_21 : decode cX10_canWalk 21 = .ok (.ifCond .ne 6, 3) := by decide +kernel
theorem dX10_canWalk_24 : decode cX10_canWalk 24 = .ok (.bipush (-2), 2) := by decide +kernel
theorem dX10_canWalk_26 : decode cX10_canWalk 26 = .ok (.ireturn, 1) := by decide +kernel
theorem dX10_canWalk_27 : decode cX10_canWalk 27 = .ok (.aload_n 0, 1) := by decide +kernel
theorem dX10_canWalk_28 : decode cX10_canWalk 28 = .ok (.invokevirtual 249, 3) := by decide +kernel
theorem dX10_canWalk_31 : decode cX10_canWalk 31 = .ok (.aload_n 0, 1) := by decide +kernel
theorem dX10_canWalk_32 : decode cX10_canWalk 32 = .ok (.invokevirtual 364, 3) := by decide +kernel
theorem dX10_canWalk_35 : decode cX10_canWalk 35 = .ok (.iconst 0, 1) := by decide +kernel
theorem dX10_canWalk_36 : decode cX10_canWalk 36 = .ok (.istore_n 3, 1) := by decide +kernel
theorem dX10_canWalk_37 : decode cX10_canWalk 37 = .ok (.iconst 1, 1) := by decide +kernel
theorem dX10_canWalk_38 : decode cX10_canWalk 38 = .ok (.istore 4, 2) := by decide +kernel
theorem dX10_canWalk_40 : decode cX10_canWalk 40 = .ok (.aload_n 0, 1) := by decide +kernel
theorem dX10_canWalk_41 : decode cX10_canWalk 41 = .ok (.aload_n 0, 1) := by decide +kernel
theorem dX10_canWalk_42 : decode cX10_canWalk 42 = .ok (.iload_n 3, 1) := by decide +kernel
theorem dX10_canWalk_43 : decode cX10_canWalk 43 = .ok (.iload 4, 2) := by decide +kernel
theorem dX10_canWalk_45 : decode cX10_canWalk 45 = .ok (.invokevirtual 159, 3) := by decide +kernel
theorem dX10_canWalk_48 : decode cX10_canWalk 48 = .ok (.lconst 1, 1) := by decide +kernel
theorem dX10_canWalk_49 : decode cX10_canWalk 49 = .ok (.invokevirtual 367, 3) := by decide +kernel
theorem dX10_canWalk_52 : decode cX10_canWalk 52 = .ok (.iload_n 1, 1) := by decide +kernel
theorem dX10_canWalk_53 : decode cX10_canWalk 53 = .ok (.istore 5, 2) := by decide +kernel
theorem dX10_canWalk_55 : decode cX10_canWalk 55 = .ok (.iload_n 2, 1) := by decide +kernel
theorem dX10_canWalk_56 : decode cX10_canWalk 56 = .ok (.istore 6, 2) := by decide +kernel
theorem dX10_canWalk_58 : decode cX10_canWalk 58 = .ok (.iconst 0, 1) := by decide +kernel
theorem dX10_canWalk_59 : decode cX10_canWalk 59 = .ok (.istore 7, 2) := by decide +kernel
theorem dX10_canWalk_61 : decode cX10_canWalk 61 = .ok (.iload 6, 2) := by decide +kernel
theorem dX10_canWalk_63 : decode cX10_canWalk 63 = .ok (.ifCond .eq 95, 3) := by decide +kernel
theorem dX10_canWalk_66 : decode cX10_canWalk 66 = .ok (.iload 5, 2) := by decide +kernel
theorem dX10_canWalk_68 : decode cX10_canWalk 68 = .ok (.iload 6, 2) := by decide +kernel
theorem dX10_canWalk_70 : decode cX10_canWalk 70 = .ok (.idiv, 1) := by decide +kernel
theorem dX10_canWalk_71 : decode cX10_canWalk 71 = .ok (.istore 8, 2) := by decide +kernel
theorem dX10_canWalk_73 : decode cX10_canWalk 73 = .ok (.iload 5, 2) := by decide +kernel
theorem dX10_canWalk_75 : decode cX10_canWalk 75 = .ok (.iload 6, 2) := by decide +kernel
theorem dX10_canWalk_77 : decode cX10_canWalk 77 = .ok (.irem, 1) := by decide +kernel
theorem dX10_canWalk_78 : decode cX10_canWalk 78 = .ok (.istore 9, 2) := by decide +kernel
theorem dX10_canWalk_80 : decode cX10_canWalk 80 = .ok (.iload_n 3, 1) := by decide +kernel
theorem dX10_canWalk_81 : decode cX10_canWalk 81 = .ok (.istore 10, 2) := by decide +kernel
theorem dX10_canWalk_83 : decode cX10_canWalk 83 = .ok (.iload 7, 2) := by decide +kernel
theorem dX10_canWalk_85 : decode cX10_canWalk 85 = .ok (.ifCond .ne 7, 3) := by decide +kernel
theorem dX10_canWalk_88 : decode cX10_canWalk 88 = .ok (.iconst 1, 1) := by decide +kernel
theorem dX10_canWalk_89 : decode cX10_canWalk 89 = .ok (.goto 10, 3) := by decide +kernel
theorem dX10_canWalk_92 : decode cX10_canWalk 92 = .ok (.iload 8, 2) := by decide +kernel
theorem dX10_canWalk_94 : decode cX10_canWalk 94 = .ok (.iload_n 3, 1) := by decide +kernel
theorem dX10_canWalk_95 : decode cX10_canWalk 95 = .ok (.imul, 1) := by decide +kernel
theorem dX10_canWalk_96 : decode cX10_canWalk 96 = .ok (.iload 4, 2) := by decide +kernel
theorem dX10_canWalk_98 : decode cX10_canWalk 98 = .ok (.iadd, 1) := by decide +kernel
theorem dX10_canWalk_99 : decode cX10_canWalk 99 = .ok (.istore_n 3, 1) := by decide +kernel
theorem dX10_canWalk_100 : decode cX10_canWalk 100 = .ok (.iload 7, 2) := by decide +kernel
theorem dX10_canWalk_102 : decode cX10_canWalk 102 = .ok (.ifCond .ne 7, 3) := by decide +kernel
theorem dX10_canWalk_105 : decode cX10_canWalk 105 = .ok (.iconst 0, 1) := by decide +kernel
theorem dX10_canWalk_106 : decode cX10_canWalk 106 = .ok (.goto 5, 3) := by decide +kernel
theorem dX10_canWalk_109 : decode cX10_canWalk 109 = .ok (.iload 10, 2) := by decide +kernel
theorem dX10_canWalk_111 : decode cX10_canWalk 111 = .ok (.istore 4, 2) := by decide +kernel
theorem dX10_canWalk_113 : decode cX10_canWalk 113 = .ok (.aload_n 0, 1) := by decide +kernel
theorem dX10_canWalk_114 : decode cX10_canWalk 114 = .ok (.iload 7, 2) := by decide +kernel
theorem dX10_canWalk_116 : decode cX10_canWalk 116 = .ok (.iconst 2, 1) := by decide +kernel
theorem dX10_canWalk_117 : decode cX10_canWalk 117 = .ok (.irem, 1) := by decide +kernel
theorem dX10_canWalk_118 : decode cX10_canWalk 118 = .ok (.iconst 1, 1) := by decide +kernel
theorem dX10_canWalk_119 : decode cX10_canWalk 119 = .ok (.if_icmp .ne 13, 3) := by decide +kernel
theorem dX10_canWalk_122 : decode cX10_canWalk 122 = .ok (.aload_n 0, 1) := by decide +kernel
theorem dX10_canWalk_123 : decode cX10_canWalk 123 = .ok (.iload_n 3, 1) := by decide +kernel
theorem dX10_canWalk_124 : decode cX10_canWalk 124 = .ok (.iload 4, 2) := by decide +kernel
theorem dX10_canWalk_126 : decode cX10_canWalk 126 = .ok (.invokevirtual 159, 3) := by decide +kernel
theorem dX10_canWalk_129 : decode cX10_canWalk 129 = .ok (.goto 11, 3) := by decide +kernel
theorem dX10_canWalk_132 : decode cX10_canWalk 132 = .ok (.aload_n 0, 1) := by decide +kernel
theorem dX10_canWalk_133 : decode cX10_canWalk 133 = .ok (.iload_n 3, 1) := by decide +kernel
theorem dX10_canWalk_134 : decode cX10_canWalk 134 = .ok (.ineg, 1) := by decide +kernel
theorem dX10_canWalk_135 : decode cX10_canWalk 135 = .ok (.iload 4, 2) := by decide +kernel
theorem dX10_canWalk_137 : decode cX10_canWalk 137 = .ok (.invokevirtual 159, 3) := by decide +kernel
theorem dX10_canWalk_140 : decode cX10_canWalk 140 = .ok (.lconst 1, 1) := by decide +kernel
theorem dX10_canWalk_141 : decode cX10_canWalk 141 = .ok (.invokevirtual 367, 3) := by decide +kernel
theorem dX10_canWalk_144 : decode cX10_canWalk 144 = .ok (.iload 6, 2) := by decide +kernel
theorem dX10_canWalk_146 : decode cX10_canWalk 146 = .ok (.istore 5, 2) := by decide +kernel
theorem dX10_canWalk_148 : decode cX10_canWalk 148 = .ok (.iload 9, 2) := by decide +kernel
theorem dX10_canWalk_150 : decode cX10_canWalk 150 = .ok (.istore 6, 2) := by decide +kernel
theorem dX10_canWalk_152 : decode cX10_canWalk 152 = .ok (.iinc 7 1, 3) := by decide +kernel
theorem dX10_canWalk_155 : decode cX10_canWalk 155 = .ok (.goto (-94), 3) := by decide +kernel
theorem dX10_canWalk_158 : decode cX10_canWalk 158 = .ok (.aload_n 0, 1) := by decide +kernel
theorem dX10_canWalk_159 : decode cX10_canWalk 159 = .ok (.invokevirtual 371, 3) := by decide +kernel
theorem dX10_canWalk_162 : decode cX10_canWalk 162 = .ok (.ireturn, 1) := by decide +kernel
theorem kcX10_canWalk : Cond.code yX10_canWalk cX10_canWalk 11 (some .int) ∈ tb := tq q_1133 rfl
theorem knX10_canWalk : Cond.initialized yX10_canWalk.cls ∈ tb := (tq q_10 rfl)
theorem kdX10_canWalk : yX10_canWalk.cls ≠ "java/lang/invoke/MethodHandle" ∧ yX10_canWalk.cls ≠ "java/lang/invoke/VarHandle" ∧ (parseMethodDescriptor yX10_canWalk.desc).map (fun d => d.parameters.length) = some 2 := ⟨by decide +kernel, by decide +kernel, by decide +kernel⟩
theorem kiX10_canWalk : Cond.instanceMethod yX10_canWalk ∈ tb := (tq q_1132 rfl)
theorem ksX10_canWalk : Cond.selects yX10_canWalk.cls yX10_canWalk yX10_canWalk ∈ tb := (tq z_76 rfl)
theorem tgX10_canWalk {x0 : Nat} {x1 : Int32} {x2 : Int32} {h : PH} {r : Int32 × PH} (hf : (fX10_canWalk x0 x1 x2).1 h = some r) : ∃ n x, nth h x0 = some (9, n, x) := by
  obtain ⟨_, _, e, _⟩ := pb_some hf
  exact (chk_some e).2
set_option maxHeartbeats 4000000 in
set_option maxRecDepth 100000 in
theorem wX10_canWalk_B61 {p : Program} {l : Launch} {e : Env} {s : State} {m : MethodId} {args : Array Value} {below : List Frame} {meth : Method} {c : Code} {G : GG} {ρ : Nat → Nat} {h0 hE hB : PH} {Q : State → Prop} {x0 : Nat} (C : Cx G "PairSymbolsModel" cX10_canWalk 11 (some .int) "canWalk" p s m args meth c) {x3 : Int32} {x4 : Int32} {x5 : Int32} {x6 : Int32} {x7 : Int32} {h : PH} {H : Heap} {locs : List Loc} {cells slots : Nat} {ls : Array Slot} {r : (Int32 × Int32 × Int32 × Int32 × Int32) ⊕ (Unit)} (hf : (fX10_canWalk_b61 x0 x3 x4 x5 x6 x7).1 h = some (r, hB)) (hX : Ext hB hE) (hW : Wd G ρ h0.length (sl h0) s.heap h H locs cells slots) (hl : lv_has ls 11 [(0, .ref (ρ x0)), (3, .int x3), (4, .int x4), (5, .int x5), (6, .int x6), (7, .int x7)]) (kc : ∀ y : Int32 × Int32 × Int32 × Int32 × Int32, r = .inl y → ∀ (H : Heap) (locs : List Loc) (c1 s1 : Nat) (ls : Array Slot), Wd G ρ h0.length (sl h0) s.heap hB H locs c1 s1 → lv_has ls 11 [(0, .ref (ρ x0)), (3, .int y.1), (4, .int y.2.1), (5, .int y.2.2.1), (6, .int y.2.2.2.1), (7, .int y.2.2.2.2)] → W p l e (RM 8 207 h0 hE) s m args below meth c H locs c1 s1 Q (F0 m 61 ls [])) (ke : ∀ z : Unit, r = .inr z → ∀ (H : Heap) (locs : List Loc) (c1 s1 : Nat) (ls : Array Slot), Wd G ρ h0.length (sl h0) s.heap hB H locs c1 s1 → lv_has ls 11 [(0, .ref (ρ x0))] → W p l e (RM 8 207 h0 hE) s m args below meth c H locs c1 s1 Q (F0 m 158 ls [])) : W p l e (RM 8 207 h0 hE) s m args below meth c H locs cells slots Q (F0 m 61 ls []) := by
  have hx := C.1
  have hb := C.2.1
  unfold fX10_canWalk_b61 at hf
  refine lv_iload hx hb dX10_canWalk_61 (lv_at hl 4 rfl) ?_
  refine lv_if_eq (tgt := 158) hx hb dX10_canWalk_63 (by decide) (fun c13 => ?_) (fun c13 => ?_)
  · rw [if_pos c13] at hf
    obtain ⟨rfl, rfl⟩ := pp_some hf
    exact ke _ rfl _ _ _ _ _ hW (lv_sub hl [0] rfl)
  · rw [if_neg c13] at hf
    refine lv_iload hx hb dX10_canWalk_66 (lv_at hl 3 rfl) ?_
    refine lv_iload hx hb dX10_canWalk_68 (lv_at hl 4 rfl) ?_
    by_cases c14 : x6 = 0
    · rw [if_pos c14] at hf
      exact (pf_no hf).elim
    rw [if_neg c14] at hf
    refine lv_idiv hx hb dX10_canWalk_70 c14 ?_
    refine lv_istore (lv' := [(8, .int (x5 / x6)), (0, .ref (ρ x0)), (3, .int x3), (4, .int x4), (5, .int x5), (6, .int x6), (7, .int x7)]) hx hb dX10_canWalk_71 hl (by decide) rfl (fun ls hl => ?_)
    refine lv_iload hx hb dX10_canWalk_73 (lv_at hl 4 rfl) ?_
    refine lv_iload hx hb dX10_canWalk_75 (lv_at hl 5 rfl) ?_
    by_cases c15 : x6 = 0
    · rw [if_pos c15] at hf
      exact (pf_no hf).elim
    rw [if_neg c15] at hf
    refine lv_irem hx hb dX10_canWalk_77 c15 ?_
    refine lv_istore (lv' := [(9, .int (x5 - x5 / x6 * x6)), (8, .int (x5 / x6)), (0, .ref (ρ x0)), (3, .int x3), (4, .int x4), (5, .int x5), (6, .int x6), (7, .int x7)]) hx hb dX10_canWalk_78 hl (by decide) rfl (fun ls hl => ?_)
    refine lv_iload_n hx hb dX10_canWalk_80 rfl (lv_at hl 3 rfl) ?_
    refine lv_istore (lv' := [(10, .int x3), (9, .int (x5 - x5 / x6 * x6)), (8, .int (x5 / x6)), (0, .ref (ρ x0)), (3, .int x3), (4, .int x4), (5, .int x5), (6, .int x6), (7, .int x7)]) hx hb dX10_canWalk_81 hl (by decide) rfl (fun ls hl => ?_)
    refine lv_iload hx hb dX10_canWalk_83 (lv_at hl 8 rfl) ?_
    refine lv_if_ne (tgt := 92) hx hb dX10_canWalk_85 (by decide) (fun c16 => ?_) (fun c16 => ?_)
    · rw [if_neg c16] at hf
      refine lv_iload hx hb dX10_canWalk_92 (lv_at hl 2 rfl) ?_
      refine lv_iload_n hx hb dX10_canWalk_94 rfl (lv_at hl 4 rfl) ?_
      refine lv_imul hx hb dX10_canWalk_95 ?_
      refine lv_iload hx hb dX10_canWalk_96 (lv_at hl 5 rfl) ?_
      refine lv_iadd hx hb dX10_canWalk_98 ?_
      refine lv_istore_n (lv' := [(3, .int (((x5 / x6) * x3) + x4)), (10, .int x3), (9, .int (x5 - x5 / x6 * x6)), (8, .int (x5 / x6)), (0, .ref (ρ x0)), (4, .int x4), (5, .int x5), (6, .int x6), (7, .int x7)]) hx hb dX10_canWalk_99 rfl hl (by decide) rfl (fun ls hl => ?_)
      refine lv_iload hx hb dX10_canWalk_100 (lv_at hl 8 rfl) ?_
      refine lv_if_ne (tgt := 109) hx hb dX10_canWalk_102 (by decide) (fun c17 => ?_) (fun c17 => ?_)
      · rw [if_neg c17] at hf
        refine lv_iload hx hb dX10_canWalk_109 (lv_at hl 1 rfl) ?_
        refine lv_istore (lv' := [(4, .int x3), (3, .int (((x5 / x6) * x3) + x4)), (10, .int x3), (9, .int (x5 - x5 / x6 * x6)), (8, .int (x5 / x6)), (0, .ref (ρ x0)), (5, .int x5), (6, .int x6), (7, .int x7)]) hx hb dX10_canWalk_111 hl (by decide) rfl (fun ls hl => ?_)
        refine lv_aload_n hx hb dX10_canWalk_113 rfl (lv_at hl 5 rfl) ?_
        refine lv_iload hx hb dX10_canWalk_114 (lv_at hl 8 rfl) ?_
        refine lv_iconst (v := 2) hx hb dX10_canWalk_116 (by decide) ?_
        refine lv_irem hx hb dX10_canWalk_117 (by decide) ?_
        refine lv_iconst (v := 1) hx hb dX10_canWalk_118 (by decide) ?_
        refine lv_icmp_ne (tgt := 132) hx hb dX10_canWalk_119 (by decide) (fun c18 => ?_) (fun c18 => ?_)
        · rw [if_neg c18] at hf
          refine lv_aload_n hx hb dX10_canWalk_132 rfl (lv_at hl 5 rfl) ?_
          refine lv_iload_n hx hb dX10_canWalk_133 rfl (lv_at hl 1 rfl) ?_
          refine lv_ineg hx hb dX10_canWalk_134 ?_
          refine lv_iload hx hb dX10_canWalk_135 (lv_at hl 0 rfl) ?_
          obtain ⟨v19, h19, e19, hf⟩ := pb_some hf
          obtain ⟨_, _, t20⟩ := tgX10_of e19
          refine r_calli hW (pext e19) (run_V (b := x0) (As := [.int (-(((x5 / x6) * x3) + x4)), .int x3]) (rest := [.ref (ρ x0)]) C hW (metX10_of l G ρ e19) ⟨rfl, rfl⟩ kcX10_of (tq q_868 rfl) kiX10_of ksX10_of knX10_of kdX10_of t20 rfl rfl ⟨Nat.le_of_ble_eq_true rfl, Nat.le_of_ble_eq_true rfl⟩ hl.1 (Nat.le_of_ble_eq_true rfl) (room_of hW (pext e19) ((pext hf).tr hX)) dX10_canWalk_137 rfl) (fun H locs c1 s1 hW => ?_)
          refine lv_lconst (v := 1) hx hb dX10_canWalk_140 (by decide) ?_
          obtain ⟨_, h21, e21, hf⟩ := pb_some hf
          obtain ⟨_, _, t22⟩ := tgX10_addsTo e21
          refine r_callv hW (pext e21) (run_V (b := x0) (As := [.int v19, .long (1 : Int64)]) (rest := []) C hW (metX10_addsTo l G ρ e21) ⟨rfl, rfl⟩ kcX10_addsTo (tq q_1104 rfl) kiX10_addsTo ksX10_addsTo knX10_addsTo kdX10_addsTo t22 rfl rfl ⟨Nat.le_of_ble_eq_true rfl, Nat.le_of_ble_eq_true rfl⟩ hl.1 (Nat.le_of_ble_eq_true rfl) (room_of hW (pext e21) ((pext hf).tr hX)) dX10_canWalk_141 rfl) (fun H locs c1 s1 hW => ?_)
          refine lv_iload hx hb dX10_canWalk_144 (lv_at hl 7 rfl) ?_
          refine lv_istore (lv' := [(5, .int x6), (4, .int x3), (3, .int (((x5 / x6) * x3) + x4)), (10, .int x3), (9, .int (x5 - x5 / x6 * x6)), (8, .int (x5 / x6)), (0, .ref (ρ x0)), (6, .int x6), (7, .int x7)]) hx hb dX10_canWalk_146 hl (by decide) rfl (fun ls hl => ?_)
          refine lv_iload hx hb dX10_canWalk_148 (lv_at hl 4 rfl) ?_
          refine lv_istore (lv' := [(6, .int (x5 - x5 / x6 * x6)), (5, .int x6), (4, .int x3), (3, .int (((x5 / x6) * x3) + x4)), (10, .int x3), (9, .int (x5 - x5 / x6 * x6)), (8, .int (x5 / x6)), (0, .ref (ρ x0)), (7, .int x7)]) hx hb dX10_canWalk_150 hl (by decide) rfl (fun ls hl => ?_)
          refine lv_iinc (v := (x7 + 1)) (lv' := [(7, .int (x7 + 1)), (6, .int (x5 - x5 / x6 * x6)), (5, .int x6), (4, .int x3), (3, .int (((x5 / x6) * x3) + x4)), (10, .int x3), (9, .int (x5 - x5 / x6 * x6)), (8, .int (x5 / x6)), (0, .ref (ρ x0))]) hx hb dX10_canWalk_152 hl (k := 8) rfl rfl (by decide) rfl (fun ls hl => ?_)
          refine lv_goto (tgt := 61) hx hb dX10_canWalk_155 (by decide) ?_
          obtain ⟨rfl, rfl⟩ := pp_some hf
          exact kc _ rfl _ _ _ _ _ hW (lv_sub hl [8, 4, 3, 2, 1, 0] rfl)
        · rw [if_pos c18] at hf
          refine lv_aload_n hx hb dX10_canWalk_122 rfl (lv_at hl 5 rfl) ?_
          refine lv_iload_n hx hb dX10_canWalk_123 rfl (lv_at hl 1 rfl) ?_
          refine lv_iload hx hb dX10_canWalk_124 (lv_at hl 0 rfl) ?_
          obtain ⟨v23, h23, e23, hf⟩ := pb_some hf
          obtain ⟨_, _, t24⟩ := tgX10_of e23
          refine r_calli hW (pext e23) (run_V (b := x0) (As := [.int (((x5 / x6) * x3) + x4), .int x3]) (rest := [.ref (ρ x0)]) C hW (metX10_of l G ρ e23) ⟨rfl, rfl⟩ kcX10_of (tq q_868 rfl) kiX10_of ksX10_of knX10_of kdX10_of t24 rfl rfl ⟨Nat.le_of_ble_eq_true rfl, Nat.le_of_ble_eq_true rfl⟩ hl.1 (Nat.le_of_ble_eq_true rfl) (room_of hW (pext e23) ((pext hf).tr hX)) dX10_canWalk_126 rfl) (fun H locs c1 s1 hW => ?_)
          refine lv_goto (tgt := 140) hx hb dX10_canWalk_129 (by decide) ?_
          refine lv_lconst (v := 1) hx hb dX10_canWalk_140 (by decide) ?_
          obtain ⟨_, h25, e25, hf⟩ := pb_some hf
          obtain ⟨_, _, t26⟩ := tgX10_addsTo e25
          refine r_callv hW (pext e25) (run_V (b := x0) (As := [.int v23, .long (1 : Int64)]) (rest := []) C hW (metX10_addsTo l G ρ e25) ⟨rfl, rfl⟩ kcX10_addsTo (tq q_1104 rfl) kiX10_addsTo ksX10_addsTo knX10_addsTo kdX10_addsTo t26 rfl rfl ⟨Nat.le_of_ble_eq_true rfl, Nat.le_of_ble_eq_true rfl⟩ hl.1 (Nat.le_of_ble_eq_true rfl) (room_of hW (pext e25) ((pext hf).tr hX)) dX10_canWalk_141 rfl) (fun H locs c1 s1 hW => ?_)
          refine lv_iload hx hb dX10_canWalk_144 (lv_at hl 7 rfl) ?_
          refine lv_istore (lv' := [(5, .int x6), (4, .int x3), (3, .int (((x5 / x6) * x3) + x4)), (10, .int x3), (9, .int (x5 - x5 / x6 * x6)), (8, .int (x5 / x6)), (0, .ref (ρ x0)), (6, .int x6), (7, .int x7)]) hx hb dX10_canWalk_146 hl (by decide) rfl (fun ls hl => ?_)
          refine lv_iload hx hb dX10_canWalk_148 (lv_at hl 4 rfl) ?_
          refine lv_istore (lv' := [(6, .int (x5 - x5 / x6 * x6)), (5, .int x6), (4, .int x3), (3, .int (((x5 / x6) * x3) + x4)), (10, .int x3), (9, .int (x5 - x5 / x6 * x6)), (8, .int (x5 / x6)), (0, .ref (ρ x0)), (7, .int x7)]) hx hb dX10_canWalk_150 hl (by decide) rfl (fun ls hl => ?_)
          refine lv_iinc (v := (x7 + 1)) (lv' := [(7, .int (x7 + 1)), (6, .int (x5 - x5 / x6 * x6)), (5, .int x6), (4, .int x3), (3, .int (((x5 / x6) * x3) + x4)), (10, .int x3), (9, .int (x5 - x5 / x6 * x6)), (8, .int (x5 / x6)), (0, .ref (ρ x0))]) hx hb dX10_canWalk_152 hl (k := 8) rfl rfl (by decide) rfl (fun ls hl => ?_)
          refine lv_goto (tgt := 61) hx hb dX10_canWalk_155 (by decide) ?_
          obtain ⟨rfl, rfl⟩ := pp_some hf
          exact kc _ rfl _ _ _ _ _ hW (lv_sub hl [8, 4, 3, 2, 1, 0] rfl)
      · rw [if_pos c17] at hf
        refine lv_iconst (v := 0) hx hb dX10_canWalk_105 (by decide) ?_
        refine lv_goto (tgt := 111) hx hb dX10_canWalk_106 (by decide) ?_
        refine lv_istore (lv' := [(4, .int (0 : Int32)), (3, .int (((x5 / x6) * x3) + x4)), (10, .int x3), (9, .int (x5 - x5 / x6 * x6)), (8, .int (x5 / x6)), (0, .ref (ρ x0)), (5, .int x5), (6, .int x6), (7, .int x7)]) hx hb dX10_canWalk_111 hl (by decide) rfl (fun ls hl => ?_)
        refine lv_aload_n hx hb dX10_canWalk_113 rfl (lv_at hl 5 rfl) ?_
        refine lv_iload hx hb dX10_canWalk_114 (lv_at hl 8 rfl) ?_
        refine lv_iconst (v := 2) hx hb dX10_canWalk_116 (by decide) ?_
        refine lv_irem hx hb dX10_canWalk_117 (by decide) ?_
        refine lv_iconst (v := 1) hx hb dX10_canWalk_118 (by decide) ?_
        refine lv_icmp_ne (tgt := 132) hx hb dX10_canWalk_119 (by decide) (fun c27 => ?_) (fun c27 => ?_)
        · rw [if_neg c27] at hf
          refine lv_aload_n hx hb dX10_canWalk_132 rfl (lv_at hl 5 rfl) ?_
          refine lv_iload_n hx hb dX10_canWalk_133 rfl (lv_at hl 1 rfl) ?_
          refine lv_ineg hx hb dX10_canWalk_134 ?_
          refine lv_iload hx hb dX10_canWalk_135 (lv_at hl 0 rfl) ?_
          obtain ⟨v28, h28, e28, hf⟩ := pb_some hf
          obtain ⟨_, _, t29⟩ := tgX10_of e28
          refine r_calli hW (pext e28) (run_V (b := x0) (As := [.int (-(((x5 / x6) * x3) + x4)), .int (0 : Int32)]) (rest := [.ref (ρ x0)]) C hW (metX10_of l G ρ e28) ⟨rfl, rfl⟩ kcX10_of (tq q_868 rfl) kiX10_of ksX10_of knX10_of kdX10_of t29 rfl rfl ⟨Nat.le_of_ble_eq_true rfl, Nat.le_of_ble_eq_true rfl⟩ hl.1 (Nat.le_of_ble_eq_true rfl) (room_of hW (pext e28) ((pext hf).tr hX)) dX10_canWalk_137 rfl) (fun H locs c1 s1 hW => ?_)
          refine lv_lconst (v := 1) hx hb dX10_canWalk_140 (by decide) ?_
          obtain ⟨_, h30, e30, hf⟩ := pb_some hf
          obtain ⟨_, _, t31⟩ := tgX10_addsTo e30
          refine r_callv hW (pext e30) (run_V (b := x0) (As := [.int v28, .long (1 : Int64)]) (rest := []) C hW (metX10_addsTo l G ρ e30) ⟨rfl, rfl⟩ kcX10_addsTo (tq q_1104 rfl) kiX10_addsTo ksX10_addsTo knX10_addsTo kdX10_addsTo t31 rfl rfl ⟨Nat.le_of_ble_eq_true rfl, Nat.le_of_ble_eq_true rfl⟩ hl.1 (Nat.le_of_ble_eq_true rfl) (room_of hW (pext e30) ((pext hf).tr hX)) dX10_canWalk_141 rfl) (fun H locs c1 s1 hW => ?_)
          refine lv_iload hx hb dX10_canWalk_144 (lv_at hl 7 rfl) ?_
          refine lv_istore (lv' := [(5, .int x6), (4, .int (0 : Int32)), (3, .int (((x5 / x6) * x3) + x4)), (10, .int x3), (9, .int (x5 - x5 / x6 * x6)), (8, .int (x5 / x6)), (0, .ref (ρ x0)), (6, .int x6), (7, .int x7)]) hx hb dX10_canWalk_146 hl (by decide) rfl (fun ls hl => ?_)
          refine lv_iload hx hb dX10_canWalk_148 (lv_at hl 4 rfl) ?_
          refine lv_istore (lv' := [(6, .int (x5 - x5 / x6 * x6)), (5, .int x6), (4, .int (0 : Int32)), (3, .int (((x5 / x6) * x3) + x4)), (10, .int x3), (9, .int (x5 - x5 / x6 * x6)), (8, .int (x5 / x6)), (0, .ref (ρ x0)), (7, .int x7)]) hx hb dX10_canWalk_150 hl (by decide) rfl (fun ls hl => ?_)
          refine lv_iinc (v := (x7 + 1)) (lv' := [(7, .int (x7 + 1)), (6, .int (x5 - x5 / x6 * x6)), (5, .int x6), (4, .int (0 : Int32)), (3, .int (((x5 / x6) * x3) + x4)), (10, .int x3), (9, .int (x5 - x5 / x6 * x6)), (8, .int (x5 / x6)), (0, .ref (ρ x0))]) hx hb dX10_canWalk_152 hl (k := 8) rfl rfl (by decide) rfl (fun ls hl => ?_)
          refine lv_goto (tgt := 61) hx hb dX10_canWalk_155 (by decide) ?_
          obtain ⟨rfl, rfl⟩ := pp_some hf
          exact kc _ rfl _ _ _ _ _ hW (lv_sub hl [8, 4, 3, 2, 1, 0] rfl)
        · rw [if_pos c27] at hf
          refine lv_aload_n hx hb dX10_canWalk_122 rfl (lv_at hl 5 rfl) ?_
          refine lv_iload_n hx hb dX10_canWalk_123 rfl (lv_at hl 1 rfl) ?_
          refine lv_iload hx hb dX10_canWalk_124 (lv_at hl 0 rfl) ?_
          obtain ⟨v32, h32, e32, hf⟩ := pb_some hf
          obtain ⟨_, _, t33⟩ := tgX10_of e32
          refine r_calli hW (pext e32) (run_V (b := x0) (As := [.int (((x5 / x6) * x3) + x4), .int (0 : Int32)]) (rest := [.ref (ρ x0)]) C hW (metX10_of l G ρ e32) ⟨rfl, rfl⟩ kcX10_of (tq q_868 rfl) kiX10_of ksX10_of knX10_of kdX10_of t33 rfl rfl ⟨Nat.le_of_ble_eq_true rfl, Nat.le_of_ble_eq_true rfl⟩ hl.1 (Nat.le_of_ble_eq_true rfl) (room_of hW (pext e32) ((pext hf).tr hX)) dX10_canWalk_126 rfl) (fun H locs c1 s1 hW => ?_)
          refine lv_goto (tgt := 140) hx hb dX10_canWalk_129 (by decide) ?_
          refine lv_lconst (v := 1) hx hb dX10_canWalk_140 (by decide) ?_
          obtain ⟨_, h34, e34, hf⟩ := pb_some hf
          obtain ⟨_, _, t35⟩ := tgX10_addsTo e34
          refine r_callv hW (pext e34) (run_V (b := x0) (As := [.int v32, .long (1 : Int64)]) (rest := []) C hW (metX10_addsTo l G ρ e34) ⟨rfl, rfl⟩ kcX10_addsTo (tq q_1104 rfl) kiX10_addsTo ksX10_addsTo knX10_addsTo kdX10_addsTo t35 rfl rfl ⟨Nat.le_of_ble_eq_true rfl, Nat.le_of_ble_eq_true rfl⟩ hl.1 (Nat.le_of_ble_eq_true rfl) (room_of hW (pext e34) ((pext hf).tr hX)) dX10_canWalk_141 rfl) (fun H locs c1 s1 hW => ?_)
          refine lv_iload hx hb dX10_canWalk_144 (lv_at hl 7 rfl) ?_
          refine lv_istore (lv' := [(5, .int x6), (4, .int (0 : Int32)), (3, .int (((x5 / x6) * x3) + x4)), (10, .int x3), (9, .int (x5 - x5 / x6 * x6)), (8, .int (x5 / x6)), (0, .ref (ρ x0)), (6, .int x6), (7, .int x7)]) hx hb dX10_canWalk_146 hl (by decide) rfl (fun ls hl => ?_)
          refine lv_iload hx hb dX10_canWalk_148 (lv_at hl 4 rfl) ?_
          refine lv_istore (lv' := [(6, .int (x5 - x5 / x6 * x6)), (5, .int x6), (4, .int (0 : Int32)), (3, .int (((x5 / x6) * x3) + x4)), (10, .int x3), (9, .int (x5 - x5 / x6 * x6)), (8, .int (x5 / x6)), (0, .ref (ρ x0)), (7, .int x7)]) hx hb dX10_canWalk_150 hl (by decide) rfl (fun ls hl => ?_)
          refine lv_iinc (v := (x7 + 1)) (lv' := [(7, .int (x7 + 1)), (6, .int (x5 - x5 / x6 * x6)), (5, .int x6), (4, .int (0 : Int32)), (3, .int (((x5 / x6) * x3) + x4)), (10, .int x3), (9, .int (x5 - x5 / x6 * x6)), (8, .int (x5 / x6)), (0, .ref (ρ x0))]) hx hb dX10_canWalk_152 hl (k := 8) rfl rfl (by decide) rfl (fun ls hl => ?_)
          refine lv_goto (tgt := 61) hx hb dX10_canWalk_155 (by decide) ?_
          obtain ⟨rfl, rfl⟩ := pp_some hf
          exact kc _ rfl _ _ _ _ _ hW (lv_sub hl [8, 4, 3, 2, 1, 0] rfl)
    · rw [if_pos c16] at hf
      refine lv_iconst (v := 1) hx hb dX10_canWalk_88 (by decide) ?_
      refine lv_goto (tgt := 99) hx hb dX10_canWalk_89 (by decide) ?_
      refine lv_istore_n (lv' := [(3, .int (1 : Int32)), (10, .int x3), (9, .int (x5 - x5 / x6 * x6)), (8, .int (x5 / x6)), (0, .ref (ρ x0)), (4, .int x4), (5, .int x5), (6, .int x6), (7, .int x7)]) hx hb dX10_canWalk_99 rfl hl (by decide) rfl (fun ls hl => ?_)
      refine lv_iload hx hb dX10_canWalk_100 (lv_at hl 8 rfl) ?_
      refine lv_if_ne (tgt := 109) hx hb dX10_canWalk_102 (by decide) (fun c36 => ?_) (fun c36 => ?_)
      · rw [if_neg c36] at hf
        refine lv_iload hx hb dX10_canWalk_109 (lv_at hl 1 rfl) ?_
        refine lv_istore (lv' := [(4, .int x3), (3, .int (1 : Int32)), (10, .int x3), (9, .int (x5 - x5 / x6 * x6)), (8, .int (x5 / x6)), (0, .ref (ρ x0)), (5, .int x5), (6, .int x6), (7, .int x7)]) hx hb dX10_canWalk_111 hl (by decide) rfl (fun ls hl => ?_)
        refine lv_aload_n hx hb dX10_canWalk_113 rfl (lv_at hl 5 rfl) ?_
        refine lv_iload hx hb dX10_canWalk_114 (lv_at hl 8 rfl) ?_
        refine lv_iconst (v := 2) hx hb dX10_canWalk_116 (by decide) ?_
        refine lv_irem hx hb dX10_canWalk_117 (by decide) ?_
        refine lv_iconst (v := 1) hx hb dX10_canWalk_118 (by decide) ?_
        refine lv_icmp_ne (tgt := 132) hx hb dX10_canWalk_119 (by decide) (fun c37 => ?_) (fun c37 => ?_)
        · rw [if_neg c37] at hf
          refine lv_aload_n hx hb dX10_canWalk_132 rfl (lv_at hl 5 rfl) ?_
          refine lv_iload_n hx hb dX10_canWalk_133 rfl (lv_at hl 1 rfl) ?_
          refine lv_ineg hx hb dX10_canWalk_134 ?_
          refine lv_iload hx hb dX10_canWalk_135 (lv_at hl 0 rfl) ?_
          obtain ⟨v38, h38, e38, hf⟩ := pb_some hf
          obtain ⟨_, _, t39⟩ := tgX10_of e38
          refine r_calli hW (pext e38) (run_V (b := x0) (As := [.int (-(1 : Int32)), .int x3]) (rest := [.ref (ρ x0)]) C hW (metX10_of l G ρ e38) ⟨rfl, rfl⟩ kcX10_of (tq q_868 rfl) kiX10_of ksX10_of knX10_of kdX10_of t39 rfl rfl ⟨Nat.le_of_ble_eq_true rfl, Nat.le_of_ble_eq_true rfl⟩ hl.1 (Nat.le_of_ble_eq_true rfl) (room_of hW (pext e38) ((pext hf).tr hX)) dX10_canWalk_137 rfl) (fun H locs c1 s1 hW => ?_)
          refine lv_lconst (v := 1) hx hb dX10_canWalk_140 (by decide) ?_
          obtain ⟨_, h40, e40, hf⟩ := pb_some hf
          obtain ⟨_, _, t41⟩ := tgX10_addsTo e40
          refine r_callv hW (pext e40) (run_V (b := x0) (As := [.int v38, .long (1 : Int64)]) (rest := []) C hW (metX10_addsTo l G ρ e40) ⟨rfl, rfl⟩ kcX10_addsTo (tq q_1104 rfl) kiX10_addsTo ksX10_addsTo knX10_addsTo kdX10_addsTo t41 rfl rfl ⟨Nat.le_of_ble_eq_true rfl, Nat.le_of_ble_eq_true rfl⟩ hl.1 (Nat.le_of_ble_eq_true rfl) (room_of hW (pext e40) ((pext hf).tr hX)) dX10_canWalk_141 rfl) (fun H locs c1 s1 hW => ?_)
          refine lv_iload hx hb dX10_canWalk_144 (lv_at hl 7 rfl) ?_
          refine lv_istore (lv' := [(5, .int x6), (4, .int x3), (3, .int (1 : Int32)), (10, .int x3), (9, .int (x5 - x5 / x6 * x6)), (8, .int (x5 / x6)), (0, .ref (ρ x0)), (6, .int x6), (7, .int x7)]) hx hb dX10_canWalk_146 hl (by decide) rfl (fun ls hl => ?_)
          refine lv_iload hx hb dX10_canWalk_148 (lv_at hl 4 rfl) ?_
          refine lv_istore (lv' := [(6, .int (x5 - x5 / x6 * x6)), (5, .int x6), (4, .int x3), (3, .int (1 : Int32)), (10, .int x3), (9, .int (x5 - x5 / x6 * x6)), (8, .int (x5 / x6)), (0, .ref (ρ x0)), (7, .int x7)]) hx hb dX10_canWalk_150 hl (by decide) rfl (fun ls hl => ?_)
          refine lv_iinc (v := (x7 + 1)) (lv' := [(7, .int (x7 + 1)), (6, .int (x5 - x5 / x6 * x6)), (5, .int x6), (4, .int x3), (3, .int (1 : Int32)), (10, .int x3), (9, .int (x5 - x5 / x6 * x6)), (8, .int (x5 / x6)), (0, .ref (ρ x0))]) hx hb dX10_canWalk_152 hl (k := 8) rfl rfl (by decide) rfl (fun ls hl => ?_)
          refine lv_goto (tgt := 61) hx hb dX10_canWalk_155 (by decide) ?_
          obtain ⟨rfl, rfl⟩ := pp_some hf
          exact kc _ rfl _ _ _ _ _ hW (lv_sub hl [8, 4, 3, 2, 1, 0] rfl)
        · rw [if_pos c37] at hf
          refine lv_aload_n hx hb dX10_canWalk_122 rfl (lv_at hl 5 rfl) ?_
          refine lv_iload_n hx hb dX10_canWalk_123 rfl (lv_at hl 1 rfl) ?_
          refine lv_iload hx hb dX10_canWalk_124 (lv_at hl 0 rfl) ?_
          obtain ⟨v42, h42, e42, hf⟩ := pb_some hf
          obtain ⟨_, _, t43⟩ := tgX10_of e42
          refine r_calli hW (pext e42) (run_V (b := x0) (As := [.int (1 : Int32), .int x3]) (rest := [.ref (ρ x0)]) C hW (metX10_of l G ρ e42) ⟨rfl, rfl⟩ kcX10_of (tq q_868 rfl) kiX10_of ksX10_of knX10_of kdX10_of t43 rfl rfl ⟨Nat.le_of_ble_eq_true rfl, Nat.le_of_ble_eq_true rfl⟩ hl.1 (Nat.le_of_ble_eq_true rfl) (room_of hW (pext e42) ((pext hf).tr hX)) dX10_canWalk_126 rfl) (fun H locs c1 s1 hW => ?_)
          refine lv_goto (tgt := 140) hx hb dX10_canWalk_129 (by decide) ?_
          refine lv_lconst (v := 1) hx hb dX10_canWalk_140 (by decide) ?_
          obtain ⟨_, h44, e44, hf⟩ := pb_some hf
          obtain ⟨_, _, t45⟩ := tgX10_addsTo e44
          refine r_callv hW (pext e44) (run_V (b := x0) (As := [.int v42, .long (1 : Int64)]) (rest := []) C hW (metX10_addsTo l G ρ e44) ⟨rfl, rfl⟩ kcX10_addsTo (tq q_1104 rfl) kiX10_addsTo ksX10_addsTo knX10_addsTo kdX10_addsTo t45 rfl rfl ⟨Nat.le_of_ble_eq_true rfl, Nat.le_of_ble_eq_true rfl⟩ hl.1 (Nat.le_of_ble_eq_true rfl) (room_of hW (pext e44) ((pext hf).tr hX)) dX10_canWalk_141 rfl) (fun H locs c1 s1 hW => ?_)
          refine lv_iload hx hb dX10_canWalk_144 (lv_at hl 7 rfl) ?_
          refine lv_istore (lv' := [(5, .int x6), (4, .int x3), (3, .int (1 : Int32)), (10, .int x3), (9, .int (x5 - x5 / x6 * x6)), (8, .int (x5 / x6)), (0, .ref (ρ x0)), (6, .int x6), (7, .int x7)]) hx hb dX10_canWalk_146 hl (by decide) rfl (fun ls hl => ?_)
          refine lv_iload hx hb dX10_canWalk_148 (lv_at hl 4 rfl) ?_
          refine lv_istore (lv' := [(6, .int (x5 - x5 / x6 * x6)), (5, .int x6), (4, .int x3), (3, .int (1 : Int32)), (10, .int x3), (9, .int (x5 - x5 / x6 * x6)), (8, .int (x5 / x6)), (0, .ref (ρ x0)), (7, .int x7)]) hx hb dX10_canWalk_150 hl (by decide) rfl (fun ls hl => ?_)
          refine lv_iinc (v := (x7 + 1)) (lv' := [(7, .int (x7 + 1)), (6, .int (x5 - x5 / x6 * x6)), (5, .int x6), (4, .int x3), (3, .int (1 : Int32)), (10, .int x3), (9, .int (x5 - x5 / x6 * x6)), (8, .int (x5 / x6)), (0, .ref (ρ x0))]) hx hb dX10_canWalk_152 hl (k := 8) rfl rfl (by decide) rfl (fun ls hl => ?_)
          refine lv_goto (tgt := 61) hx hb dX10_canWalk_155 (by decide) ?_
          obtain ⟨rfl, rfl⟩ := pp_some hf
          exact kc _ rfl _ _ _ _ _ hW (lv_sub hl [8, 4, 3, 2, 1, 0] rfl)
      · rw [if_pos c36] at hf
        refine lv_iconst (v := 0) hx hb dX10_canWalk_105 (by decide) ?_
        refine lv_goto (tgt := 111) hx hb dX10_canWalk_106 (by decide) ?_
        refine lv_istore (lv' := [(4, .int (0 : Int32)), (3, .int (1 : Int32)), (10, .int x3), (9, .int (x5 - x5 / x6 * x6)), (8, .int (x5 / x6)), (0, .ref (ρ x0)), (5, .int x5), (6, .int x6), (7, .int x7)]) hx hb dX10_canWalk_111 hl (by decide) rfl (fun ls hl => ?_)
        refine lv_aload_n hx hb dX10_canWalk_113 rfl (lv_at hl 5 rfl) ?_
        refine lv_iload hx hb dX10_canWalk_114 (lv_at hl 8 rfl) ?_
        refine lv_iconst (v := 2) hx hb dX10_canWalk_116 (by decide) ?_
        refine lv_irem hx hb dX10_canWalk_117 (by decide) ?_
        refine lv_iconst (v := 1) hx hb dX10_canWalk_118 (by decide) ?_
        refine lv_icmp_ne (tgt := 132) hx hb dX10_canWalk_119 (by decide) (fun c46 => ?_) (fun c46 => ?_)
        · rw [if_neg c46] at hf
          refine lv_aload_n hx hb dX10_canWalk_132 rfl (lv_at hl 5 rfl) ?_
          refine lv_iload_n hx hb dX10_canWalk_133 rfl (lv_at hl 1 rfl) ?_
          refine lv_ineg hx hb dX10_canWalk_134 ?_
          refine lv_iload hx hb dX10_canWalk_135 (lv_at hl 0 rfl) ?_
          obtain ⟨v47, h47, e47, hf⟩ := pb_some hf
          obtain ⟨_, _, t48⟩ := tgX10_of e47
          refine r_calli hW (pext e47) (run_V (b := x0) (As := [.int (-(1 : Int32)), .int (0 : Int32)]) (rest := [.ref (ρ x0)]) C hW (metX10_of l G ρ e47) ⟨rfl, rfl⟩ kcX10_of (tq q_868 rfl) kiX10_of ksX10_of knX10_of kdX10_of t48 rfl rfl ⟨Nat.le_of_ble_eq_true rfl, Nat.le_of_ble_eq_true rfl⟩ hl.1 (Nat.le_of_ble_eq_true rfl) (room_of hW (pext e47) ((pext hf).tr hX)) dX10_canWalk_137 rfl) (fun H locs c1 s1 hW => ?_)
          refine lv_lconst (v := 1) hx hb dX10_canWalk_140 (by decide) ?_
          obtain ⟨_, h49, e49, hf⟩ := pb_some hf
          obtain ⟨_, _, t50⟩ := tgX10_addsTo e49
          refine r_callv hW (pext e49) (run_V (b := x0) (As := [.int v47, .long (1 : Int64)]) (rest := []) C hW (metX10_addsTo l G ρ e49) ⟨rfl, rfl⟩ kcX10_addsTo (tq q_1104 rfl) kiX10_addsTo ksX10_addsTo knX10_addsTo kdX10_addsTo t50 rfl rfl ⟨Nat.le_of_ble_eq_true rfl, Nat.le_of_ble_eq_true rfl⟩ hl.1 (Nat.le_of_ble_eq_true rfl) (room_of hW (pext e49) ((pext hf).tr hX)) dX10_canWalk_141 rfl) (fun H locs c1 s1 hW => ?_)
          refine lv_iload hx hb dX10_canWalk_144 (lv_at hl 7 rfl) ?_
          refine lv_istore (lv' := [(5, .int x6), (4, .int (0 : Int32)), (3, .int (1 : Int32)), (10, .int x3), (9, .int (x5 - x5 / x6 * x6)), (8, .int (x5 / x6)), (0, .ref (ρ x0)), (6, .int x6), (7, .int x7)]) hx hb dX10_canWalk_146 hl (by decide) rfl (fun ls hl => ?_)
          refine lv_iload hx hb dX10_canWalk_148 (lv_at hl 4 rfl) ?_
          refine lv_istore (lv' := [(6, .int (x5 - x5 / x6 * x6)), (5, .int x6), (4, .int (0 : Int32)), (3, .int (1 : Int32)), (10, .int x3), (9, .int (x5 - x5 / x6 * x6)), (8, .int (x5 / x6)), (0, .ref (ρ x0)), (7, .int x7)]) hx hb dX10_canWalk_150 hl (by decide) rfl (fun ls hl => ?_)
          refine lv_iinc (v := (x7 + 1)) (lv' := [(7, .int (x7 + 1)), (6, .int (x5 - x5 / x6 * x6)), (5, .int x6), (4, .int (0 : Int32)), (3, .int (1 : Int32)), (10, .int x3), (9, .int (x5 - x5 / x6 * x6)), (8, .int (x5 / x6)), (0, .ref (ρ x0))]) hx hb dX10_canWalk_152 hl (k := 8) rfl rfl (by decide) rfl (fun ls hl => ?_)
          refine lv_goto (tgt := 61) hx hb dX10_canWalk_155 (by decide) ?_
          obtain ⟨rfl, rfl⟩ := pp_some hf
          exact kc _ rfl _ _ _ _ _ hW (lv_sub hl [8, 4, 3, 2, 1, 0] rfl)
        · rw [if_pos c46] at hf
          refine lv_aload_n hx hb dX10_canWalk_122 rfl (lv_at hl 5 rfl) ?_
          refine lv_iload_n hx hb dX10_canWalk_123 rfl (lv_at hl 1 rfl) ?_
          refine lv_iload hx hb dX10_canWalk_124 (lv_at hl 0 rfl) ?_
          obtain ⟨v51, h51, e51, hf⟩ := pb_some hf
          obtain ⟨_, _, t52⟩ := tgX10_of e51
          refine r_calli hW (pext e51) (run_V (b := x0) (As := [.int (1 : Int32), .int (0 : Int32)]) (rest := [.ref (ρ x0)]) C hW (metX10_of l G ρ e51) ⟨rfl, rfl⟩ kcX10_of (tq q_868 rfl) kiX10_of ksX10_of knX10_of kdX10_of t52 rfl rfl ⟨Nat.le_of_ble_eq_true rfl, Nat.le_of_ble_eq_true rfl⟩ hl.1 (Nat.le_of_ble_eq_true rfl) (room_of hW (pext e51) ((pext hf).tr hX)) dX10_canWalk_126 rfl) (fun H locs c1 s1 hW => ?_)
          refine lv_goto (tgt := 140) hx hb dX10_canWalk_129 (by decide) ?_
          refine lv_lconst (v := 1) hx hb dX10_canWalk_140 (by decide) ?_
          obtain ⟨_, h53, e53, hf⟩ := pb_some hf
          obtain ⟨_, _, t54⟩ := tgX10_addsTo e53
          refine r_callv hW (pext e53) (run_V (b := x0) (As := [.int v51, .long (1 : Int64)]) (rest := []) C hW (metX10_addsTo l G ρ e53) ⟨rfl, rfl⟩ kcX10_addsTo (tq q_1104 rfl) kiX10_addsTo ksX10_addsTo knX10_addsTo kdX10_addsTo t54 rfl rfl ⟨Nat.le_of_ble_eq_true rfl, Nat.le_of_ble_eq_true rfl⟩ hl.1 (Nat.le_of_ble_eq_true rfl) (room_of hW (pext e53) ((pext hf).tr hX)) dX10_canWalk_141 rfl) (fun H locs c1 s1 hW => ?_)
          refine lv_iload hx hb dX10_canWalk_144 (lv_at hl 7 rfl) ?_
          refine lv_istore (lv' := [(5, .int x6), (4, .int (0 : Int32)), (3, .int (1 : Int32)), (10, .int x3), (9, .int (x5 - x5 / x6 * x6)), (8, .int (x5 / x6)), (0, .ref (ρ x0)), (6, .int x6), (7, .int x7)]) hx hb dX10_canWalk_146 hl (by decide) rfl (fun ls hl => ?_)
          refine lv_iload hx hb dX10_canWalk_148 (lv_at hl 4 rfl) ?_
          refine lv_istore (lv' := [(6, .int (x5 - x5 / x6 * x6)), (5, .int x6), (4, .int (0 : Int32)), (3, .int (1 : Int32)), (10, .int x3), (9, .int (x5 - x5 / x6 * x6)), (8, .int (x5 / x6)), (0, .ref (ρ x0)), (7, .int x7)]) hx hb dX10_canWalk_150 hl (by decide) rfl (fun ls hl => ?_)
          refine lv_iinc (v := (x7 + 1)) (lv' := [(7, .int (x7 + 1)), (6, .int (x5 - x5 / x6 * x6)), (5, .int x6), (4, .int (0 : Int32)), (3, .int (1 : Int32)), (10, .int x3), (9, .int (x5 - x5 / x6 * x6)), (8, .int (x5 / x6)), (0, .ref (ρ x0))]) hx hb dX10_canWalk_152 hl (k := 8) rfl rfl (by decide) rfl (fun ls hl => ?_)
          refine lv_goto (tgt := 61) hx hb dX10_canWalk_155 (by decide) ?_
          obtain ⟨rfl, rfl⟩ := pp_some hf
          exact kc _ rfl _ _ _ _ _ hW (lv_sub hl [8, 4, 3, 2, 1, 0] rfl)
set_option maxHeartbeats 4000000 in
theorem wX10_canWalk_L61 {p : Program} {l : Launch} {e : Env} {s : State} {m : MethodId} {args : Array Value} {below : List Frame} {meth : Method} {c : Code} {G : GG} {ρ : Nat → Nat} {h0 hE hB : PH} {Q : State → Prop} {x0 : Nat} (C : Cx G "PairSymbolsModel" cX10_canWalk 11 (some .int) "canWalk" p s m args meth c) {z : (Unit)} (n : Nat) : ∀ (x : Int32 × Int32 × Int32 × Int32 × Int32) {h : PH} {H : Heap} {locs : List Loc} {cells slots : Nat} {ls : Array Slot}, (plo (fX10_canWalk_B61 x0) n x).1 h = some (z, hB) → Ext hB hE → Wd G ρ h0.length (sl h0) s.heap h H locs cells slots → lv_has ls 11 [(0, .ref (ρ x0)), (3, .int x.1), (4, .int x.2.1), (5, .int x.2.2.1), (6, .int x.2.2.2.1), (7, .int x.2.2.2.2)] → (ke : ∀ (H : Heap) (locs : List Loc) (c1 s1 : Nat) (ls : Array Slot), Wd G ρ h0.length (sl h0) s.heap hB H locs c1 s1 → lv_has ls 11 [(0, .ref (ρ x0))] → W p l e (RM 8 207 h0 hE) s m args below meth c H locs c1 s1 Q (F0 m 158 ls [])) → W p l e (RM 8 207 h0 hE) s m args below meth c H locs cells slots Q (F0 m 61 ls []) := by
  induction n with
  | zero =>
    intro x h H locs cells slots ls hf
    rw [plo_0] at hf
    exact (pf_no hf).elim
  | succ n ih =>
    intro x h H locs cells slots ls hf hX hW hl ke
    rw [plo_s] at hf
    obtain ⟨r, h1, e1, hf⟩ := pb_some hf
    unfold fX10_canWalk_B61 at e1
    rw [frI_eq, frI_eq, frI_eq, frI_eq, frI_eq] at e1
    refine wX10_canWalk_B61 C e1 ((pext hf).tr hX) hW hl (fun y hr H locs c1 s1 ls hW hl => ?_) (fun y hr H locs c1 s1 ls hW hl => ?_)
    · subst hr
      exact ih y hf hX hW hl ke
    · subst hr
      obtain ⟨rfl, rfl⟩ := pp_some hf
      exact ke H locs c1 s1 ls hW hl
set_option maxHeartbeats 4000000 in
set_option maxRecDepth 100000 in
theorem metX10_canWalk (l : Launch) (G : GG) (ρ : Nat → Nat) {z : Nat} {x0 : Nat} {x1 : Int32} {x2 : Int32} {h hE : PH} {v : Int32} (hf : (fX10_canWalk x0 x1 x2).1 h = some (v, hE)) : Met l yX10_canWalk (wsY yX10_canWalk cX10_canWalk 11 (some .int)) (RM 8 207 h hE) (va_Pc [.ref (ρ x0), .int x1, .int x2] (PcB G ρ h z)) (QI G ρ v hE h.length z) (DC h hE) (DS h hE) (Af ρ h.length z) := by
  refine met_start (by decide) (Nat.le_of_ble_eq_true rfl) ?_
  intro p e s m below meth c ls hz C hW hl
  subst hz
  have C : Cx G "PairSymbolsModel" cX10_canWalk 11 (some .int) "canWalk" p s m _ meth c := C
  have hx := C.1
  have hb := C.2.1
  have hX : Ext hE hE := Ext.rf hE
  have hl : lv_has ls 11 [(0, .ref (ρ x0)), (1, .int x1), (2, .int x2)] := hl
  have hW : Wd G ρ h.length (sl h) s.heap h s.heap [] 0 0 := hW
  unfold fX10_canWalk at hf
  obtain ⟨_, e0, hf⟩ := pb_rd (rd_chk _ _) hf
  refine lv_iload_n hx hb dX10_canWalk_0 rfl (lv_at hl 1 rfl) ?_
  refine lv_i2l (v := x1.toInt64) hx hb dX10_canWalk_1 rfl ?_
  refine lv_lconst (v := 0) hx hb dX10_canWalk_2 (by decide) ?_
  refine r_ldc2 (v := 99) C (tq q_1134 rfl) dX10_canWalk_3 ?_
  obtain ⟨v1, h1, e1, hf⟩ := pb_some hf
  refine r_calli hW (pext e1) (run_S (As := [.long x1.toInt64, .long (0 : Int64), .long (99 : Int64)]) (rest := []) C hW (metX10_in l G ρ e1) ⟨rfl, rfl⟩ kcX10_in (tq q_834 rfl) kiX10_in knX10_in kdX10_in ⟨Nat.le_of_ble_eq_true rfl, Nat.le_of_ble_eq_true rfl⟩ hl.1 (Nat.le_of_ble_eq_true rfl) (room_of hW (pext e1) ((pext hf).tr hX)) dX10_canWalk_6 rfl) (fun H locs c1 s1 hW => ?_)
  refine lv_if_eq (tgt := 24) hx hb dX10_canWalk_9 (by decide) (fun c2 => ?_) (fun c2 => ?_)
  · rw [if_pos c2] at hf
    refine lv_bipush (v := -2) hx hb dX10_canWalk_24 (by decide) ?_
    obtain ⟨rfl, rfl⟩ := pp_some hf
    exact r_iret C hW dX10_canWalk_26
  · rw [if_neg c2] at hf
    refine lv_iload_n hx hb dX10_canWalk_12 rfl (lv_at hl 2 rfl) ?_
    refine lv_i2l (v := x2.toInt64) hx hb dX10_canWalk_13 rfl ?_
    refine lv_lconst (v := 1) hx hb dX10_canWalk_14 (by decide) ?_
    refine r_ldc2 (v := 99) C (tq q_1134 rfl) dX10_canWalk_15 ?_
    obtain ⟨v3, h3, e3, hf⟩ := pb_some hf
    refine r_calli hW (pext e3) (run_S (As := [.long x2.toInt64, .long (1 : Int64), .long (99 : Int64)]) (rest := []) C hW (metX10_in l G ρ e3) ⟨rfl, rfl⟩ kcX10_in (tq q_834 rfl) kiX10_in knX10_in kdX10_in ⟨Nat.le_of_ble_eq_true rfl, Nat.le_of_ble_eq_true rfl⟩ hl.1 (Nat.le_of_ble_eq_true rfl) (room_of hW (pext e3) ((pext hf).tr hX)) dX10_canWalk_18 rfl) (fun H locs c1 s1 hW => ?_)
    refine lv_if_ne (tgt := 27) hx hb dX10_canWalk_21 (by decide) (fun c4 => ?_) (fun c4 => ?_)
    · rw [if_neg c4] at hf
      refine lv_aload_n hx hb dX10_canWalk_27 rfl (lv_at hl 0 rfl) ?_
      obtain ⟨_, h5, e5, hf⟩ := pb_some hf
      obtain ⟨_, _, t6⟩ := tgX10_lays e5
      refine r_callv hW (pext e5) (run_V (b := x0) (As := []) (rest := []) C hW (metX10_lays l G ρ e5) ⟨rfl, rfl⟩ kcX10_lays (tq q_857 rfl) kiX10_lays ksX10_lays knX10_lays kdX10_lays t6 rfl rfl ⟨Nat.le_of_ble_eq_true rfl, Nat.le_of_ble_eq_true rfl⟩ hl.1 (Nat.le_of_ble_eq_true rfl) (room_of hW (pext e5) ((pext hf).tr hX)) dX10_canWalk_28 rfl) (fun H locs c1 s1 hW => ?_)
      refine lv_aload_n hx hb dX10_canWalk_31 rfl (lv_at hl 0 rfl) ?_
      obtain ⟨_, h7, e7, hf⟩ := pb_some hf
      obtain ⟨_, _, t8⟩ := tgX10_laysSum e7
      refine r_callv hW (pext e7) (run_V (b := x0) (As := []) (rest := []) C hW (metX10_laysSum l G ρ e7) ⟨rfl, rfl⟩ kcX10_laysSum (tq q_1100 rfl) kiX10_laysSum ksX10_laysSum knX10_laysSum kdX10_laysSum t8 rfl rfl ⟨Nat.le_of_ble_eq_true rfl, Nat.le_of_ble_eq_true rfl⟩ hl.1 (Nat.le_of_ble_eq_true rfl) (room_of hW (pext e7) ((pext hf).tr hX)) dX10_canWalk_32 rfl) (fun H locs c1 s1 hW => ?_)
      refine lv_iconst (v := 0) hx hb dX10_canWalk_35 (by decide) ?_
      refine lv_istore_n (lv' := [(3, .int (0 : Int32)), (0, .ref (ρ x0)), (1, .int x1), (2, .int x2)]) hx hb dX10_canWalk_36 rfl hl (by decide) rfl (fun ls hl => ?_)
      refine lv_iconst (v := 1) hx hb dX10_canWalk_37 (by decide) ?_
      refine lv_istore (lv' := [(4, .int (1 : Int32)), (3, .int (0 : Int32)), (0, .ref (ρ x0)), (1, .int x1), (2, .int x2)]) hx hb dX10_canWalk_38 hl (by decide) rfl (fun ls hl => ?_)
      refine lv_aload_n hx hb dX10_canWalk_40 rfl (lv_at hl 2 rfl) ?_
      refine lv_aload_n hx hb dX10_canWalk_41 rfl (lv_at hl 2 rfl) ?_
      refine lv_iload_n hx hb dX10_canWalk_42 rfl (lv_at hl 1 rfl) ?_
      refine lv_iload hx hb dX10_canWalk_43 (lv_at hl 0 rfl) ?_
      obtain ⟨v9, h9, e9, hf⟩ := pb_some hf
      obtain ⟨_, _, t10⟩ := tgX10_of e9
      refine r_calli hW (pext e9) (run_V (b := x0) (As := [.int (0 : Int32), .int (1 : Int32)]) (rest := [.ref (ρ x0)]) C hW (metX10_of l G ρ e9) ⟨rfl, rfl⟩ kcX10_of (tq q_868 rfl) kiX10_of ksX10_of knX10_of kdX10_of t10 rfl rfl ⟨Nat.le_of_ble_eq_true rfl, Nat.le_of_ble_eq_true rfl⟩ hl.1 (Nat.le_of_ble_eq_true rfl) (room_of hW (pext e9) ((pext hf).tr hX)) dX10_canWalk_45 rfl) (fun H locs c1 s1 hW => ?_)
      refine lv_lconst (v := 1) hx hb dX10_canWalk_48 (by decide) ?_
      obtain ⟨_, h11, e11, hf⟩ := pb_some hf
      obtain ⟨_, _, t12⟩ := tgX10_addsTo e11
      refine r_callv hW (pext e11) (run_V (b := x0) (As := [.int v9, .long (1 : Int64)]) (rest := []) C hW (metX10_addsTo l G ρ e11) ⟨rfl, rfl⟩ kcX10_addsTo (tq q_1104 rfl) kiX10_addsTo ksX10_addsTo knX10_addsTo kdX10_addsTo t12 rfl rfl ⟨Nat.le_of_ble_eq_true rfl, Nat.le_of_ble_eq_true rfl⟩ hl.1 (Nat.le_of_ble_eq_true rfl) (room_of hW (pext e11) ((pext hf).tr hX)) dX10_canWalk_49 rfl) (fun H locs c1 s1 hW => ?_)
      refine lv_iload_n hx hb dX10_canWalk_52 rfl (lv_at hl 3 rfl) ?_
      refine lv_istore (lv' := [(5, .int x1), (4, .int (1 : Int32)), (3, .int (0 : Int32)), (0, .ref (ρ x0)), (1, .int x1), (2, .int x2)]) hx hb dX10_canWalk_53 hl (by decide) rfl (fun ls hl => ?_)
      refine lv_iload_n hx hb dX10_canWalk_55 rfl (lv_at hl 5 rfl) ?_
      refine lv_istore (lv' := [(6, .int x2), (5, .int x1), (4, .int (1 : Int32)), (3, .int (0 : Int32)), (0, .ref (ρ x0)), (1, .int x1), (2, .int x2)]) hx hb dX10_canWalk_56 hl (by decide) rfl (fun ls hl => ?_)
      refine lv_iconst (v := 0) hx hb dX10_canWalk_58 (by decide) ?_
      refine lv_istore (lv' := [(7, .int (0 : Int32)), (6, .int x2), (5, .int x1), (4, .int (1 : Int32)), (3, .int (0 : Int32)), (0, .ref (ρ x0)), (1, .int x1), (2, .int x2)]) hx hb dX10_canWalk_59 hl (by decide) rfl (fun ls hl => ?_)
      obtain ⟨z55, h55, e55, hf⟩ := pb_some hf
      refine wX10_canWalk_L61 C fu _ e55 ((pext hf).tr hX) hW (lv_sub hl [5, 4, 3, 2, 1, 0] rfl) (fun H locs c1 s1 ls hW hl => ?_)
      refine lv_aload_n hx hb dX10_canWalk_158 rfl (lv_at hl 0 rfl) ?_
      obtain ⟨v56, h56, e56, hf⟩ := pb_some hf
      obtain ⟨_, _, t57⟩ := tgX10_canBe e56
      refine r_calli hW (pext e56) (run_V (b := x0) (As := []) (rest := []) C hW (metX10_canBe l G ρ e56) ⟨rfl, rfl⟩ kcX10_canBe (tq q_1108 rfl) kiX10_canBe ksX10_canBe knX10_canBe kdX10_canBe t57 rfl rfl ⟨Nat.le_of_ble_eq_true rfl, Nat.le_of_ble_eq_true rfl⟩ hl.1 (Nat.le_of_ble_eq_true rfl) (room_of hW (pext e56) ((pext hf).tr hX)) dX10_canWalk_159 rfl) (fun H locs c1 s1 hW => ?_)
      obtain ⟨rfl, rfl⟩ := pp_some hf
      exact r_iret C hW dX10_canWalk_162
    · rw [if_pos c4] at hf
      refine lv_bipush (v := -2) hx hb dX10_canWalk_24 (by decide) ?_
      obtain ⟨rfl, rfl⟩ := pp_some hf
      exact r_iret C hW dX10_canWalk_26

theorem dX10_walks_0 : decode cX10_walks 0 = .ok (.aload_n 0, 1) := by decide +kernel
theorem dX10_walks_1 : decode cX10_walks 1 = .ok (.iload_n 1, 1) := by decide +kernel
theorem dX10_walks_2 : decode cX10_walks 2 = .ok (.iload_n 2, 1) := by decide +kernel
theorem dX10_walks_3 : decode cX10_walks 3 = .ok (.invokevirtual 385, 3) := by decide +kernel
theorem dX10_walks_6 : decode cX10_walks 6 = .ok (.istore_n 3, 1) := by decide +kernel
theorem dX10_walks_7 : decode cX10_walks 7 = .ok (.iload_n 3, 1) := by decide +kernel
theorem dX10_walks_8 : decode cX10_walks 8 = .ok (.ifCond .ge 9, 3) := by decide +kernel
theorem dX10_walks_11 : decode cX10_walks 11 = .ok (.aload_n 0, 1) := by decide +kernel
theorem dX10_walks_12 : decode cX10_walks 12 = .ok (.iload_n 3, 1) := by decide +kernel
theorem dX10_walks_13 : decode cX10_walks 13 = .ok (.invokevirtual 240, 3) := by decide +kernel
theorem dX10_walks_16 : decode cX10_walks 16 = .ok (.ireturn, 1) := by decide +kernel
theorem dX10_walks_17 : decode cX10_walks 17 = .ok (.aload_n 0, 1) := by decide +kernel
theorem dX10_walks_18 : decode cX10_walks 18 = .ok (.invokevirtual 243, 3) := by decide +kernel
theorem dX10_walks_21 : decode cX10_walks 21 = .ok (.aload_n 0, 1) := by decide +kernel
theorem dX10_walks_22 : decode cX10_walks 22 = .ok (.invokevirtual 377, 3) := by decide +kernel
theorem dX10_walks_25 : decode cX10_walks 25 = .ok (.ireturn, 1) := by decide +kernel
theorem kcX10_walks : Cond.code yX10_walks cX10_walks 4 (some .int) ∈ tb := tq q_1129 rfl
theorem knX10_walks : Cond.initialized yX10_walks.cls ∈ tb := (tq q_10 rfl)
theorem kdX10_walks : yX10_walks.cls ≠ "java/lang/invoke/MethodHandle" ∧ yX10_walks.cls ≠ "java/lang/invoke/VarHandle" ∧ (parseMethodDescriptor yX10_walks.desc).map (fun d => d.parameters.length) = some 2 := ⟨by decide +kernel, by decide +kernel, by decide +kernel⟩
theorem kiX10_walks : Cond.instanceMethod yX10_walks ∈ tb := (tq q_1127 rfl)
theorem ksX10_walks : Cond.selects yX10_walks.cls yX10_walks yX10_walks ∈ tb := (tq q_1128 rfl)
theorem tgX10_walks {x0 : Nat} {x1 : Int32} {x2 : Int32} {h : PH} {r : Int32 × PH} (hf : (fX10_walks x0 x1 x2).1 h = some r) : ∃ n x, nth h x0 = some (9, n, x) := by
  obtain ⟨_, _, e, _⟩ := pb_some hf
  exact (chk_some e).2
set_option maxHeartbeats 4000000 in
set_option maxRecDepth 100000 in
theorem metX10_walks (l : Launch) (G : GG) (ρ : Nat → Nat) {z : Nat} {x0 : Nat} {x1 : Int32} {x2 : Int32} {h hE : PH} {v : Int32} (hf : (fX10_walks x0 x1 x2).1 h = some (v, hE)) : Met l yX10_walks (wsY yX10_walks cX10_walks 4 (some .int)) (RM 9 237 h hE) (va_Pc [.ref (ρ x0), .int x1, .int x2] (PcB G ρ h z)) (QI G ρ v hE h.length z) (DC h hE) (DS h hE) (Af ρ h.length z) := by
  refine met_start (by decide) (Nat.le_of_ble_eq_true rfl) ?_
  intro p e s m below meth c ls hz C hW hl
  subst hz
  have C : Cx G "PairSymbolsModel" cX10_walks 4 (some .int) "walks" p s m _ meth c := C
  have hx := C.1
  have hb := C.2.1
  have hX : Ext hE hE := Ext.rf hE
  have hl : lv_has ls 4 [(0, .ref (ρ x0)), (1, .int x1), (2, .int x2)] := hl
  have hW : Wd G ρ h.length (sl h) s.heap h s.heap [] 0 0 := hW
  unfold fX10_walks at hf
  obtain ⟨_, e0, hf⟩ := pb_rd (rd_chk _ _) hf
  refine lv_aload_n hx hb dX10_walks_0 rfl (lv_at hl 0 rfl) ?_
  refine lv_iload_n hx hb dX10_walks_1 rfl (lv_at hl 1 rfl) ?_
  refine lv_iload_n hx hb dX10_walks_2 rfl (lv_at hl 2 rfl) ?_
  obtain ⟨v1, h1, e1, hf⟩ := pb_some hf
  obtain ⟨_, _, t2⟩ := tgX10_canWalk e1
  refine r_calli hW (pext e1) (run_V (b := x0) (As := [.int x1, .int x2]) (rest := []) C hW (metX10_canWalk l G ρ e1) ⟨rfl, rfl⟩ kcX10_canWalk (tq q_1130 rfl) kiX10_canWalk ksX10_canWalk knX10_canWalk kdX10_canWalk t2 rfl rfl ⟨Nat.le_of_ble_eq_true rfl, Nat.le_of_ble_eq_true rfl⟩ hl.1 (Nat.le_of_ble_eq_true rfl) (room_of hW (pext e1) ((pext hf).tr hX)) dX10_walks_3 rfl) (fun H locs c1 s1 hW => ?_)
  refine lv_istore_n (lv' := [(3, .int v1), (0, .ref (ρ x0)), (1, .int x1), (2, .int x2)]) hx hb dX10_walks_6 rfl hl (by decide) rfl (fun ls hl => ?_)
  refine lv_iload_n hx hb dX10_walks_7 rfl (lv_at hl 0 rfl) ?_
  refine lv_if_ge (tgt := 17) hx hb dX10_walks_8 (by decide) (fun c3 => ?_) (fun c3 => ?_)
  · rw [if_pos c3] at hf
    refine lv_aload_n hx hb dX10_walks_17 rfl (lv_at hl 1 rfl) ?_
    obtain ⟨_, h4, e4, hf⟩ := pb_some hf
    obtain ⟨_, _, t5⟩ := tgX10_keep e4
    refine r_callv hW (pext e4) (run_V (b := x0) (As := []) (rest := []) C hW (metX10_keep l G ρ e4) ⟨rfl, rfl⟩ kcX10_keep (tq q_841 rfl) kiX10_keep ksX10_keep knX10_keep kdX10_keep t5 rfl rfl ⟨Nat.le_of_ble_eq_true rfl, Nat.le_of_ble_eq_true rfl⟩ hl.1 (Nat.le_of_ble_eq_true rfl) (room_of hW (pext e4) ((pext hf).tr hX)) dX10_walks_18 rfl) (fun H locs c1 s1 hW => ?_)
    refine lv_aload_n hx hb dX10_walks_21 rfl (lv_at hl 1 rfl) ?_
    obtain ⟨v6, h6, e6, hf⟩ := pb_some hf
    obtain ⟨_, _, t7⟩ := tgX10_becomes e6
    refine r_calli hW (pext e6) (run_V (b := x0) (As := []) (rest := []) C hW (metX10_becomes l G ρ e6) ⟨rfl, rfl⟩ kcX10_becomes (tq q_1114 rfl) kiX10_becomes ksX10_becomes knX10_becomes kdX10_becomes t7 rfl rfl ⟨Nat.le_of_ble_eq_true rfl, Nat.le_of_ble_eq_true rfl⟩ hl.1 (Nat.le_of_ble_eq_true rfl) (room_of hW (pext e6) ((pext hf).tr hX)) dX10_walks_22 rfl) (fun H locs c1 s1 hW => ?_)
    obtain ⟨rfl, rfl⟩ := pp_some hf
    exact r_iret C hW dX10_walks_25
  · rw [if_neg c3] at hf
    refine lv_aload_n hx hb dX10_walks_11 rfl (lv_at hl 1 rfl) ?_
    refine lv_iload_n hx hb dX10_walks_12 rfl (lv_at hl 0 rfl) ?_
    obtain ⟨v8, h8, e8, hf⟩ := pb_some hf
    obtain ⟨_, _, t9⟩ := tgX10_refuses e8
    refine r_calli hW (pext e8) (run_V (b := x0) (As := [.int v1]) (rest := []) C hW (metX10_refuses l G ρ e8) ⟨rfl, rfl⟩ kcX10_refuses (tq q_837 rfl) kiX10_refuses ksX10_refuses knX10_refuses kdX10_refuses t9 rfl rfl ⟨Nat.le_of_ble_eq_true rfl, Nat.le_of_ble_eq_true rfl⟩ hl.1 (Nat.le_of_ble_eq_true rfl) (room_of hW (pext e8) ((pext hf).tr hX)) dX10_walks_13 rfl) (fun H locs c1 s1 hW => ?_)
    obtain ⟨rfl, rfl⟩ := pp_some hf
    exact r_iret C hW dX10_walks_16

theorem dX10_sum_0 : decode cX10_sum 0 = .ok (.aload_n 0, 1) := by decide +kernel
theorem dX10_sum_1 : decode cX10_sum 1 = .ok (.invokevirtual 249, 3) := by decide +kernel
theorem dX10_sum_4 : decode cX10_sum 4 = .ok (.iload_n 1, 1) := by decide +kernel
theorem dX10_sum_5 : decode cX10_sum 5 = .ok (.i2l, 1) := by decide +kernel
theorem dX10_sum_6 : decode cX10_sum 6 = .ok (.lconst 0, 1) := by decide +kernel
theorem dX10_sum_7 : decode cX10_sum 7 = .ok (.aload_n 0, 1) := by decide +kernel
theorem dX10_sum_8 : decode cX10_sum 8 = .ok (.getfield 192, 3) := by decide +kernel
theorem dX10_sum_11 : decode cX10_sum 11 = .ok (.iconst 1, 1) := by decide +kernel
theorem dX10_sum_12 : decode cX10_sum 12 = .ok (.isub, 1) := by decide +kernel
theorem dX10_sum_13 : decode cX10_sum 13 = .ok (.i2l, 1) := by decide +kernel
theorem dX10_sum_14 : decode cX10_sum 14 = .ok (.invokestatic 236, 3) := by decide +kernel
theorem dX10_sum_17 : decode cX10_sum 17 = .ok (.ifCond .eq 13, 3) := by decide +kernel
theorem dX10_sum_20 : decode cX10_sum 20 = .ok (.iload_n 2, 1) := by decide +kernel
theorem dX10_sum_21 : decode cX10_sum 21 = .ok (.i2l, 1) := by decide +kernel
theorem dX10_sum_22 : decode cX10_sum 22 = .ok (.lconst 0, 1) := by decide +kernel
theorem dX10_sum_23 : decode cX10_sum 23 = .ok (.lconst 1, 1) := by decide +kernel
theorem dX10_sum_24 : decode cX10_sum 24 = .ok (.invokestatic 236, 3) := by decide +kernel
theorem dX10_sum_27 : decode cX10_sum 27 = .ok (.ifCond .ne 13, 3) := by decide +kernel
theorem dX10_sum_30 : decode cX10_sum 30 = .ok (.aload_n 0, 1) := by decide +kernel
theorem dX10_sum_31 : decode cX10_sum 31 = .ok (.bipush (-2), 2) := by decide +kernel
theorem dX10_sum_33 : decode cX10_sum 33 = .ok (.ldc2_w 316, 3) := by decide +kernel
theorem dX10_sum_36 : decode cX10_sum 36 = .ok (.invokevirtual 306, 3) := by decide +kernel
theorem dX10_sum_39 : decode cX10_sum 39 = .ok (.lreturn, 1) := by decide +kernel
theorem dX10_sum_40 : decode cX10_sum 40 = .ok (.aload_n 0, 1) := by decide +kernel
theorem dX10_sum_41 : decode cX10_sum 41 = .ok (.getfield 7, 3) := by decide +kernel
theorem dX10_sum_44 : decode cX10_sum 44 = .ok (.iconst 1, 1) := by decide +kernel
theorem dX10_sum_45 : decode cX10_sum 45 = .ok (.iconst 2, 1) := by decide +kernel
theorem dX10_sum_46 : decode cX10_sum 46 = .ok (.iload_n 1, 1) := by decide +kernel
theorem dX10_sum_47 : decode cX10_sum 47 = .ok (.imul, 1) := by decide +kernel
theorem dX10_sum_48 : decode cX10_sum 48 = .ok (.iadd, 1) := by decide +kernel
theorem dX10_sum_49 : decode cX10_sum 49 = .ok (.iload_n 2, 1) := by decide +kernel
theorem dX10_sum_50 : decode cX10_sum 50 = .ok (.iadd, 1) := by decide +kernel
theorem dX10_sum_51 : decode cX10_sum 51 = .ok (.laload, 1) := by decide +kernel
theorem dX10_sum_52 : decode cX10_sum 52 = .ok (.lreturn, 1) := by decide +kernel
theorem kcX10_sum : Cond.code yX10_sum cX10_sum 3 (some .long) ∈ tb := tq q_1138 rfl
theorem knX10_sum : Cond.initialized yX10_sum.cls ∈ tb := (tq q_10 rfl)
theorem kdX10_sum : yX10_sum.cls ≠ "java/lang/invoke/MethodHandle" ∧ yX10_sum.cls ≠ "java/lang/invoke/VarHandle" ∧ (parseMethodDescriptor yX10_sum.desc).map (fun d => d.parameters.length) = some 2 := ⟨by decide +kernel, by decide +kernel, by decide +kernel⟩
theorem kiX10_sum : Cond.instanceMethod yX10_sum ∈ tb := (tq q_1136 rfl)
theorem ksX10_sum : Cond.selects yX10_sum.cls yX10_sum yX10_sum ∈ tb := (tq q_1137 rfl)
theorem tgX10_sum {x0 : Nat} {x1 : Int32} {x2 : Int32} {h : PH} {r : Int64 × PH} (hf : (fX10_sum x0 x1 x2).1 h = some r) : ∃ n x, nth h x0 = some (9, n, x) := by
  obtain ⟨_, _, e, _⟩ := pb_some hf
  exact (chk_some e).2
set_option maxHeartbeats 4000000 in
set_option maxRecDepth 100000 in
theorem metX10_sum (l : Launch) (G : GG) (ρ : Nat → Nat) {z : Nat} {x0 : Nat} {x1 : Int32} {x2 : Int32} {h hE : PH} {v : Int64} (hf : (fX10_sum x0 x1 x2).1 h = some (v, hE)) : Met l yX10_sum (wsY yX10_sum cX10_sum 3 (some .long)) (RM 8 207 h hE) (va_Pc [.ref (ρ x0), .int x1, .int x2] (PcB G ρ h z)) (QL G ρ v hE h.length z) (DC h hE) (DS h hE) (Af ρ h.length z) := by
  refine met_start (by decide) (Nat.le_of_ble_eq_true rfl) ?_
  intro p e s m below meth c ls hz C hW hl
  subst hz
  have C : Cx G "PairSymbolsModel" cX10_sum 3 (some .long) "sum" p s m _ meth c := C
  have hx := C.1
  have hb := C.2.1
  have hX : Ext hE hE := Ext.rf hE
  have hl : lv_has ls 3 [(0, .ref (ρ x0)), (1, .int x1), (2, .int x2)] := hl
  have hW : Wd G ρ h.length (sl h) s.heap h s.heap [] 0 0 := hW
  unfold fX10_sum at hf
  obtain ⟨_, e0, hf⟩ := pb_rd (rd_chk _ _) hf
  refine lv_aload_n hx hb dX10_sum_0 rfl (lv_at hl 0 rfl) ?_
  obtain ⟨_, h1, e1, hf⟩ := pb_some hf
  obtain ⟨_, _, t2⟩ := tgX10_lays e1
  refine r_callv hW (pext e1) (run_V (b := x0) (As := []) (rest := []) C hW (metX10_lays l G ρ e1) ⟨rfl, rfl⟩ kcX10_lays (tq q_857 rfl) kiX10_lays ksX10_lays knX10_lays kdX10_lays t2 rfl rfl ⟨Nat.le_of_ble_eq_true rfl, Nat.le_of_ble_eq_true rfl⟩ hl.1 (Nat.le_of_ble_eq_true rfl) (room_of hW (pext e1) ((pext hf).tr hX)) dX10_sum_1 rfl) (fun H locs c1 s1 hW => ?_)
  refine lv_iload_n hx hb dX10_sum_4 rfl (lv_at hl 1 rfl) ?_
  refine lv_i2l (v := x1.toInt64) hx hb dX10_sum_5 rfl ?_
  refine lv_lconst (v := 0) hx hb dX10_sum_6 (by decide) ?_
  refine lv_aload_n hx hb dX10_sum_7 rfl (lv_at hl 0 rfl) ?_
  obtain ⟨v3, e3, hf⟩ := pb_rd (rd_gI _ _ _) hf
  refine r_gI C hW e3 flX10_192 rfl dX10_sum_8 ?_
  refine lv_iconst (v := 1) hx hb dX10_sum_11 (by decide) ?_
  refine lv_isub hx hb dX10_sum_12 ?_
  refine lv_i2l (v := (v3 - (1 : Int32)).toInt64) hx hb dX10_sum_13 rfl ?_
  obtain ⟨v4, h4, e4, hf⟩ := pb_some hf
  refine r_calli hW (pext e4) (run_S (As := [.long x1.toInt64, .long (0 : Int64), .long (v3 - (1 : Int32)).toInt64]) (rest := []) C hW (metX10_in l G ρ e4) ⟨rfl, rfl⟩ kcX10_in (tq q_834 rfl) kiX10_in knX10_in kdX10_in ⟨Nat.le_of_ble_eq_true rfl, Nat.le_of_ble_eq_true rfl⟩ hl.1 (Nat.le_of_ble_eq_true rfl) (room_of hW (pext e4) ((pext hf).tr hX)) dX10_sum_14 rfl) (fun H locs c1 s1 hW => ?_)
  refine lv_if_eq (tgt := 30) hx hb dX10_sum_17 (by decide) (fun c5 => ?_) (fun c5 => ?_)
  · rw [if_pos c5] at hf
    refine lv_aload_n hx hb dX10_sum_30 rfl (lv_at hl 0 rfl) ?_
    refine lv_bipush (v := -2) hx hb dX10_sum_31 (by decide) ?_
    refine r_ldc2 (v := -9223372036854775808) C (tq q_1041 rfl) dX10_sum_33 ?_
    obtain ⟨v6, h6, e6, hf⟩ := pb_some hf
    obtain ⟨_, _, t7⟩ := tgX10_refusesBy e6
    refine r_calll hW (pext e6) (run_V (b := x0) (As := [.int (-2 : Int32), .long (-9223372036854775808 : Int64)]) (rest := []) C hW (metX10_refusesBy l G ρ e6) ⟨rfl, rfl⟩ kcX10_refusesBy (tq q_1020 rfl) kiX10_refusesBy ksX10_refusesBy knX10_refusesBy kdX10_refusesBy t7 rfl rfl ⟨Nat.le_of_ble_eq_true rfl, Nat.le_of_ble_eq_true rfl⟩ hl.1 (Nat.le_of_ble_eq_true rfl) (room_of hW (pext e6) ((pext hf).tr hX)) dX10_sum_36 rfl) (fun H locs c1 s1 hW => ?_)
    obtain ⟨rfl, rfl⟩ := pp_some hf
    exact r_lret C hW dX10_sum_39
  · rw [if_neg c5] at hf
    refine lv_iload_n hx hb dX10_sum_20 rfl (lv_at hl 2 rfl) ?_
    refine lv_i2l (v := x2.toInt64) hx hb dX10_sum_21 rfl ?_
    refine lv_lconst (v := 0) hx hb dX10_sum_22 (by decide) ?_
    refine lv_lconst (v := 1) hx hb dX10_sum_23 (by decide) ?_
    obtain ⟨v8, h8, e8, hf⟩ := pb_some hf
    refine r_calli hW (pext e8) (run_S (As := [.long x2.toInt64, .long (0 : Int64), .long (1 : Int64)]) (rest := []) C hW (metX10_in l G ρ e8) ⟨rfl, rfl⟩ kcX10_in (tq q_834 rfl) kiX10_in knX10_in kdX10_in ⟨Nat.le_of_ble_eq_true rfl, Nat.le_of_ble_eq_true rfl⟩ hl.1 (Nat.le_of_ble_eq_true rfl) (room_of hW (pext e8) ((pext hf).tr hX)) dX10_sum_24 rfl) (fun H locs c1 s1 hW => ?_)
    refine lv_if_ne (tgt := 40) hx hb dX10_sum_27 (by decide) (fun c9 => ?_) (fun c9 => ?_)
    · rw [if_neg c9] at hf
      refine lv_aload_n hx hb dX10_sum_40 rfl (lv_at hl 0 rfl) ?_
      obtain ⟨v10, e10, hf⟩ := pb_rd (rd_gA _ _ _) hf
      refine r_gA C hW e10 flX10_7 rfl dX10_sum_41 ?_
      refine lv_iconst (v := 1) hx hb dX10_sum_44 (by decide) ?_
      refine lv_iconst (v := 2) hx hb dX10_sum_45 (by decide) ?_
      refine lv_iload_n hx hb dX10_sum_46 rfl (lv_at hl 1 rfl) ?_
      refine lv_imul hx hb dX10_sum_47 ?_
      refine lv_iadd hx hb dX10_sum_48 ?_
      refine lv_iload_n hx hb dX10_sum_49 rfl (lv_at hl 2 rfl) ?_
      refine lv_iadd hx hb dX10_sum_50 ?_
      obtain ⟨v11, e11, hf⟩ := pb_rd (rd_lJ _ _ _) hf
      refine r_lald C hW e11 dX10_sum_51 ?_
      obtain ⟨rfl, rfl⟩ := pp_some hf
      exact r_lret C hW dX10_sum_52
    · rw [if_pos c9] at hf
      refine lv_aload_n hx hb dX10_sum_30 rfl (lv_at hl 0 rfl) ?_
      refine lv_bipush (v := -2) hx hb dX10_sum_31 (by decide) ?_
      refine r_ldc2 (v := -9223372036854775808) C (tq q_1041 rfl) dX10_sum_33 ?_
      obtain ⟨v12, h12, e12, hf⟩ := pb_some hf
      obtain ⟨_, _, t13⟩ := tgX10_refusesBy e12
      refine r_calll hW (pext e12) (run_V (b := x0) (As := [.int (-2 : Int32), .long (-9223372036854775808 : Int64)]) (rest := []) C hW (metX10_refusesBy l G ρ e12) ⟨rfl, rfl⟩ kcX10_refusesBy (tq q_1020 rfl) kiX10_refusesBy ksX10_refusesBy knX10_refusesBy kdX10_refusesBy t13 rfl rfl ⟨Nat.le_of_ble_eq_true rfl, Nat.le_of_ble_eq_true rfl⟩ hl.1 (Nat.le_of_ble_eq_true rfl) (room_of hW (pext e12) ((pext hf).tr hX)) dX10_sum_36 rfl) (fun H locs c1 s1 hW => ?_)
      obtain ⟨rfl, rfl⟩ := pp_some hf
      exact r_lret C hW dX10_sum_39

theorem dX10_laysBoundary_0 : decode cX10_laysBoundary 0 = .ok (.aload_n 0, 1) := by decide +kernel
theorem dX10_laysBoundary_1 : decode cX10_laysBoundary 1 = .ok (.invokevirtual 296, 3) := by decide +kernel
theorem dX10_laysBoundary_4 : decode cX10_laysBoundary 4 = .ok (.iconst 0, 1) := by decide +kernel
theorem dX10_laysBoundary_5 : decode cX10_laysBoundary 5 = .ok (.istore_n 2, 1) := by decide +kernel
theorem dX10_laysBoundary_6 : decode cX10_laysBoundary 6 = .ok (.iload_n 2, 1) := by decide +kernel
theorem dX10_laysBoundary_7 : decode cX10_laysBoundary 7 = .ok (.aload_n 0, 1) := by decide +kernel
theorem dX10_laysBoundary_8 : decode cX10_laysBoundary 8 = .ok (.getfield 192, 3) := by decide +kernel
theorem dX10_laysBoundary_11 : decode cX10_laysBoundary 11 = .ok (.if_icmp .ge 49, 3) := by decide +kernel
theorem dX10_laysBoundary_14 : decode cX10_laysBoundary 14 = .ok (.aload_n 0, 1) := by decide +kernel
theorem dX10_laysBoundary_15 : decode cX10_laysBoundary 15 = .ok (.aload_n 0, 1) := by decide +kernel
theorem dX10_laysBoundary_16 : decode cX10_laysBoundary 16 = .ok (.getfield 133, 3) := by decide +kernel
theorem dX10_laysBoundary_19 : decode cX10_laysBoundary 19 = .ok (.aload_n 0, 1) := by decide +kernel
theorem dX10_laysBoundary_20 : decode cX10_laysBoundary 20 = .ok (.getfield 137, 3) := by decide +kernel
theorem dX10_laysBoundary_23 : decode cX10_laysBoundary 23 = .ok (.aload_n 0, 1) := by decide +kernel
theorem dX10_laysBoundary_24 : decode cX10_laysBoundary 24 = .ok (.iload_n 1, 1) := by decide +kernel
theorem dX10_laysBoundary_25 : decode cX10_laysBoundary 25 = .ok (.iload_n 2, 1) := by decide +kernel
theorem dX10_laysBoundary_26 : decode cX10_laysBoundary 26 = .ok (.invokevirtual 215, 3) := by decide +kernel
theorem dX10_laysBoundary_29 : decode cX10_laysBoundary 29 = .ok (.i2l, 1) := by decide +kernel
theorem dX10_laysBoundary_30 : decode cX10_laysBoundary 30 = .ok (.lconst 1, 1) := by decide +kernel
theorem dX10_laysBoundary_31 : decode cX10_laysBoundary 31 = .ok (.aload_n 0, 1) := by decide +kernel
theorem dX10_laysBoundary_32 : decode cX10_laysBoundary 32 = .ok (.getfield 7, 3) := by decide +kernel
theorem dX10_laysBoundary_35 : decode cX10_laysBoundary 35 = .ok (.iconst 1, 1) := by decide +kernel
theorem dX10_laysBoundary_36 : decode cX10_laysBoundary 36 = .ok (.iconst 2, 1) := by decide +kernel
theorem dX10_laysBoundary_37 : decode cX10_laysBoundary 37 = .ok (.iload_n 2, 1) := by decide +kernel
theorem dX10_laysBoundary_38 : decode cX10_laysBoundary 38 = .ok (.imul, 1) := by decide +kernel
theorem dX10_laysBoundary_39 : decode cX10_laysBoundary 39 = .ok (.iadd, 1) := by decide +kernel
theorem dX10_laysBoundary_40 : decode cX10_laysBoundary 40 = .ok (.laload, 1) := by decide +kernel
theorem dX10_laysBoundary_41 : decode cX10_laysBoundary 41 = .ok (.aload_n 0, 1) := by decide +kernel
theorem dX10_laysBoundary_42 : decode cX10_laysBoundary 42 = .ok (.getfield 7, 3) := by decide +kernel
theorem dX10_laysBoundary_45 : decode cX10_laysBoundary 45 = .ok (.iconst 2, 1) := by decide +kernel
theorem dX10_laysBoundary_46 : decode cX10_laysBoundary 46 = .ok (.iconst 2, 1) := by decide +kernel
theorem dX10_laysBoundary_47 : decode cX10_laysBoundary 47 = .ok (.iload_n 2, 1) := by decide +kernel
theorem dX10_laysBoundary_48 : decode cX10_laysBoundary 48 = .ok (.imul, 1) := by decide +kernel
theorem dX10_laysBoundary_49 : decode cX10_laysBoundary 49 = .ok (.iadd, 1) := by decide +kernel
theorem dX10_laysBoundary_50 : decode cX10_laysBoundary 50 = .ok (.laload, 1) := by decide +kernel
theorem dX10_laysBoundary_51 : decode cX10_laysBoundary 51 = .ok (.invokevirtual 169, 3) := by decide +kernel
theorem dX10_laysBoundary_54 : decode cX10_laysBoundary 54 = .ok (.iinc 2 1, 3) := by decide +kernel
theorem dX10_laysBoundary_57 : decode cX10_laysBoundary 57 = .ok (.goto (-51), 3) := by decide +kernel
theorem dX10_laysBoundary_60 : decode cX10_laysBoundary 60 = .ok (.return_, 1) := by decide +kernel
theorem kcX10_laysBoundary : Cond.code yX10_laysBoundary cX10_laysBoundary 3 none ∈ tb := tq q_1146 rfl
theorem knX10_laysBoundary : Cond.initialized yX10_laysBoundary.cls ∈ tb := (tq q_10 rfl)
theorem kdX10_laysBoundary : yX10_laysBoundary.cls ≠ "java/lang/invoke/MethodHandle" ∧ yX10_laysBoundary.cls ≠ "java/lang/invoke/VarHandle" ∧ (parseMethodDescriptor yX10_laysBoundary.desc).map (fun d => d.parameters.length) = some 1 := ⟨by decide +kernel, by decide +kernel, by decide +kernel⟩
theorem kiX10_laysBoundary : Cond.instanceMethod yX10_laysBoundary ∈ tb := (tq q_1145 rfl)
theorem ksX10_laysBoundary : Cond.selects yX10_laysBoundary.cls yX10_laysBoundary yX10_laysBoundary ∈ tb := (tq z_77 rfl)
theorem tgX10_laysBoundary {x0 : Nat} {x1 : Int32} {h : PH} {r : Unit × PH} (hf : (fX10_laysBoundary x0 x1).1 h = some r) : ∃ n x, nth h x0 = some (9, n, x) := by
  obtain ⟨_, _, e, _⟩ := pb_some hf
  exact (chk_some e).2
set_option maxHeartbeats 4000000 in
set_option maxRecDepth 100000 in
theorem wX10_laysBoundary_B6 {p : Program} {l : Launch} {e : Env} {s : State} {m : MethodId} {args : Array Value} {below : List Frame} {meth : Method} {c : Code} {G : GG} {ρ : Nat → Nat} {h0 hE hB : PH} {Q : State → Prop} {x0 : Nat} {x1 : Int32} (C : Cx G "PairSymbolsModel" cX10_laysBoundary 3 none "laysBoundary" p s m args meth c) {x2 : Int32} {h : PH} {H : Heap} {locs : List Loc} {cells slots : Nat} {ls : Array Slot} {r : (Int32) ⊕ (Unit)} (hf : (fX10_laysBoundary_b6 x0 x1 x2).1 h = some (r, hB)) (hX : Ext hB hE) (hW : Wd G ρ h0.length (sl h0) s.heap h H locs cells slots) (hl : lv_has ls 3 [(0, .ref (ρ x0)), (1, .int x1), (2, .int x2)]) (kc : ∀ y : Int32, r = .inl y → ∀ (H : Heap) (locs : List Loc) (c1 s1 : Nat) (ls : Array Slot), Wd G ρ h0.length (sl h0) s.heap hB H locs c1 s1 → lv_has ls 3 [(0, .ref (ρ x0)), (1, .int x1), (2, .int y)] → W p l e (RM 4 115 h0 hE) s m args below meth c H locs c1 s1 Q (F0 m 6 ls [])) (ke : ∀ z : Unit, r = .inr z → ∀ (H : Heap) (locs : List Loc) (c1 s1 : Nat) (ls : Array Slot), Wd G ρ h0.length (sl h0) s.heap hB H locs c1 s1 → lv_has ls 3 [] → W p l e (RM 4 115 h0 hE) s m args below meth c H locs c1 s1 Q (F0 m 60 ls [])) : W p l e (RM 4 115 h0 hE) s m args below meth c H locs cells slots Q (F0 m 6 ls []) := by
  have hx := C.1
  have hb := C.2.1
  unfold fX10_laysBoundary_b6 at hf
  refine lv_iload_n hx hb dX10_laysBoundary_6 rfl (lv_at hl 2 rfl) ?_
  refine lv_aload_n hx hb dX10_laysBoundary_7 rfl (lv_at hl 0 rfl) ?_
  obtain ⟨v3, e3, hf⟩ := pb_rd (rd_gI _ _ _) hf
  refine r_gI C hW e3 flX10_192 rfl dX10_laysBoundary_8 ?_
  refine lv_icmp_ge (tgt := 60) hx hb dX10_laysBoundary_11 (by decide) (fun c4 => ?_) (fun c4 => ?_)
  · rw [if_pos c4] at hf
    obtain ⟨rfl, rfl⟩ := pp_some hf
    exact ke _ rfl _ _ _ _ _ hW (lv_sub hl [] rfl)
  · rw [if_neg c4] at hf
    refine lv_aload_n hx hb dX10_laysBoundary_14 rfl (lv_at hl 0 rfl) ?_
    refine lv_aload_n hx hb dX10_laysBoundary_15 rfl (lv_at hl 0 rfl) ?_
    obtain ⟨v5, e5, hf⟩ := pb_rd (rd_gJ _ _ _) hf
    refine r_gJ C hW e5 flX10_133 rfl dX10_laysBoundary_16 ?_
    refine lv_aload_n hx hb dX10_laysBoundary_19 rfl (lv_at hl 0 rfl) ?_
    obtain ⟨v6, e6, hf⟩ := pb_rd (rd_gJ _ _ _) hf
    refine r_gJ C hW e6 flX10_137 rfl dX10_laysBoundary_20 ?_
    refine lv_aload_n hx hb dX10_laysBoundary_23 rfl (lv_at hl 0 rfl) ?_
    refine lv_iload_n hx hb dX10_laysBoundary_24 rfl (lv_at hl 1 rfl) ?_
    refine lv_iload_n hx hb dX10_laysBoundary_25 rfl (lv_at hl 2 rfl) ?_
    obtain ⟨v7, h7, e7, hf⟩ := pb_some hf
    obtain ⟨_, _, t8⟩ := tgX10_boundaryOf e7
    refine r_calli hW (pext e7) (run_V (b := x0) (As := [.int x1, .int x2]) (rest := [.long v6, .long v5, .ref (ρ x0)]) C hW (metX10_boundaryOf l G ρ e7) ⟨rfl, rfl⟩ kcX10_boundaryOf (tq q_971 rfl) kiX10_boundaryOf ksX10_boundaryOf knX10_boundaryOf kdX10_boundaryOf t8 rfl rfl ⟨Nat.le_of_ble_eq_true rfl, Nat.le_of_ble_eq_true rfl⟩ hl.1 (Nat.le_of_ble_eq_true rfl) (room_of hW (pext e7) ((pext hf).tr hX)) dX10_laysBoundary_26 rfl) (fun H locs c1 s1 hW => ?_)
    refine lv_i2l (v := v7.toInt64) hx hb dX10_laysBoundary_29 rfl ?_
    refine lv_lconst (v := 1) hx hb dX10_laysBoundary_30 (by decide) ?_
    refine lv_aload_n hx hb dX10_laysBoundary_31 rfl (lv_at hl 0 rfl) ?_
    obtain ⟨v9, e9, hf⟩ := pb_rd (rd_gA _ _ _) hf
    refine r_gA C hW e9 flX10_7 rfl dX10_laysBoundary_32 ?_
    refine lv_iconst (v := 1) hx hb dX10_laysBoundary_35 (by decide) ?_
    refine lv_iconst (v := 2) hx hb dX10_laysBoundary_36 (by decide) ?_
    refine lv_iload_n hx hb dX10_laysBoundary_37 rfl (lv_at hl 2 rfl) ?_
    refine lv_imul hx hb dX10_laysBoundary_38 ?_
    refine lv_iadd hx hb dX10_laysBoundary_39 ?_
    obtain ⟨v10, e10, hf⟩ := pb_rd (rd_lJ _ _ _) hf
    refine r_lald C hW e10 dX10_laysBoundary_40 ?_
    refine lv_aload_n hx hb dX10_laysBoundary_41 rfl (lv_at hl 0 rfl) ?_
    obtain ⟨v11, e11, hf⟩ := pb_rd (rd_gA _ _ _) hf
    refine r_gA C hW e11 flX10_7 rfl dX10_laysBoundary_42 ?_
    refine lv_iconst (v := 2) hx hb dX10_laysBoundary_45 (by decide) ?_
    refine lv_iconst (v := 2) hx hb dX10_laysBoundary_46 (by decide) ?_
    refine lv_iload_n hx hb dX10_laysBoundary_47 rfl (lv_at hl 2 rfl) ?_
    refine lv_imul hx hb dX10_laysBoundary_48 ?_
    refine lv_iadd hx hb dX10_laysBoundary_49 ?_
    obtain ⟨v12, e12, hf⟩ := pb_rd (rd_lJ _ _ _) hf
    refine r_lald C hW e12 dX10_laysBoundary_50 ?_
    obtain ⟨_, h13, e13, hf⟩ := pb_some hf
    obtain ⟨_, _, t14⟩ := tgX10_more e13
    refine r_callv hW (pext e13) (run_V (b := x0) (As := [.long v5, .long v6, .long v7.toInt64, .long (1 : Int64), .long v10, .long v12]) (rest := []) C hW (metX10_more l G ρ e13) ⟨rfl, rfl⟩ kcX10_more (tq q_919 rfl) kiX10_more ksX10_more knX10_more kdX10_more t14 rfl rfl ⟨Nat.le_of_ble_eq_true rfl, Nat.le_of_ble_eq_true rfl⟩ hl.1 (Nat.le_of_ble_eq_true rfl) (room_of hW (pext e13) ((pext hf).tr hX)) dX10_laysBoundary_51 rfl) (fun H locs c1 s1 hW => ?_)
    refine lv_iinc (v := (x2 + 1)) (lv' := [(2, .int (x2 + 1)), (0, .ref (ρ x0)), (1, .int x1)]) hx hb dX10_laysBoundary_54 hl (k := 2) rfl rfl (by decide) rfl (fun ls hl => ?_)
    refine lv_goto (tgt := 6) hx hb dX10_laysBoundary_57 (by decide) ?_
    obtain ⟨rfl, rfl⟩ := pp_some hf
    exact kc _ rfl _ _ _ _ _ hW (lv_sub hl [1, 2, 0] rfl)
set_option maxHeartbeats 4000000 in
theorem wX10_laysBoundary_L6 {p : Program} {l : Launch} {e : Env} {s : State} {m : MethodId} {args : Array Value} {below : List Frame} {meth : Method} {c : Code} {G : GG} {ρ : Nat → Nat} {h0 hE hB : PH} {Q : State → Prop} {x0 : Nat} {x1 : Int32} (C : Cx G "PairSymbolsModel" cX10_laysBoundary 3 none "laysBoundary" p s m args meth c) {z : (Unit)} (n : Nat) : ∀ (x : Int32) {h : PH} {H : Heap} {locs : List Loc} {cells slots : Nat} {ls : Array Slot}, (plo (fX10_laysBoundary_B6 x0 x1) n x).1 h = some (z, hB) → Ext hB hE → Wd G ρ h0.length (sl h0) s.heap h H locs cells slots → lv_has ls 3 [(0, .ref (ρ x0)), (1, .int x1), (2, .int x)] → (ke : ∀ (H : Heap) (locs : List Loc) (c1 s1 : Nat) (ls : Array Slot), Wd G ρ h0.length (sl h0) s.heap hB H locs c1 s1 → lv_has ls 3 [] → W p l e (RM 4 115 h0 hE) s m args below meth c H locs c1 s1 Q (F0 m 60 ls [])) → W p l e (RM 4 115 h0 hE) s m args below meth c H locs cells slots Q (F0 m 6 ls []) := by
  induction n with
  | zero =>
    intro x h H locs cells slots ls hf
    rw [plo_0] at hf
    exact (pf_no hf).elim
  | succ n ih =>
    intro x h H locs cells slots ls hf hX hW hl ke
    rw [plo_s] at hf
    obtain ⟨r, h1, e1, hf⟩ := pb_some hf
    unfold fX10_laysBoundary_B6 at e1
    rw [frI_eq] at e1
    refine wX10_laysBoundary_B6 C e1 ((pext hf).tr hX) hW hl (fun y hr H locs c1 s1 ls hW hl => ?_) (fun y hr H locs c1 s1 ls hW hl => ?_)
    · subst hr
      exact ih y hf hX hW hl ke
    · subst hr
      obtain ⟨rfl, rfl⟩ := pp_some hf
      exact ke H locs c1 s1 ls hW hl
set_option maxHeartbeats 4000000 in
set_option maxRecDepth 100000 in
theorem metX10_laysBoundary (l : Launch) (G : GG) (ρ : Nat → Nat) {z : Nat} {x0 : Nat} {x1 : Int32} {h hE : PH} {v : Unit} (hf : (fX10_laysBoundary x0 x1).1 h = some (v, hE)) : Met l yX10_laysBoundary (wsY yX10_laysBoundary cX10_laysBoundary 3 none) (RM 4 115 h hE) (va_Pc [.ref (ρ x0), .int x1] (PcB G ρ h z)) (QV G ρ hE h.length z) (DC h hE) (DS h hE) (Af ρ h.length z) := by
  refine met_start (by decide) (Nat.le_of_ble_eq_true rfl) ?_
  intro p e s m below meth c ls hz C hW hl
  subst hz
  have C : Cx G "PairSymbolsModel" cX10_laysBoundary 3 none "laysBoundary" p s m _ meth c := C
  have hx := C.1
  have hb := C.2.1
  have hX : Ext hE hE := Ext.rf hE
  have hl : lv_has ls 3 [(0, .ref (ρ x0)), (1, .int x1)] := hl
  have hW : Wd G ρ h.length (sl h) s.heap h s.heap [] 0 0 := hW
  unfold fX10_laysBoundary at hf
  obtain ⟨_, e0, hf⟩ := pb_rd (rd_chk _ _) hf
  refine lv_aload_n hx hb dX10_laysBoundary_0 rfl (lv_at hl 0 rfl) ?_
  obtain ⟨_, h1, e1, hf⟩ := pb_some hf
  obtain ⟨_, _, t2⟩ := tgX10_laysTrace e1
  refine r_callv hW (pext e1) (run_V (b := x0) (As := []) (rest := []) C hW (metX10_laysTrace l G ρ e1) ⟨rfl, rfl⟩ kcX10_laysTrace (tq q_1033 rfl) kiX10_laysTrace ksX10_laysTrace knX10_laysTrace kdX10_laysTrace t2 rfl rfl ⟨Nat.le_of_ble_eq_true rfl, Nat.le_of_ble_eq_true rfl⟩ hl.1 (Nat.le_of_ble_eq_true rfl) (room_of hW (pext e1) ((pext hf).tr hX)) dX10_laysBoundary_1 rfl) (fun H locs c1 s1 hW => ?_)
  refine lv_iconst (v := 0) hx hb dX10_laysBoundary_4 (by decide) ?_
  refine lv_istore_n (lv' := [(2, .int (0 : Int32)), (0, .ref (ρ x0)), (1, .int x1)]) hx hb dX10_laysBoundary_5 rfl hl (by decide) rfl (fun ls hl => ?_)
  obtain ⟨z15, h15, e15, hf⟩ := pb_some hf
  refine wX10_laysBoundary_L6 C fu _ e15 ((pext hf).tr hX) hW (lv_sub hl [1, 2, 0] rfl) (fun H locs c1 s1 ls hW hl => ?_)
  obtain ⟨rfl, rfl⟩ := pp_some hf
  exact r_vret C hW dX10_laysBoundary_60

theorem dX10_boundary_0 : decode cX10_boundary 0 = .ok (.aload_n 0, 1) := by decide +kernel
theorem dX10_boundary_1 : decode cX10_boundary 1 = .ok (.invokevirtual 249, 3) := by decide +kernel
theorem dX10_boundary_4 : decode cX10_boundary 4 = .ok (.iload_n 1, 1) := by decide +kernel
theorem dX10_boundary_5 : decode cX10_boundary 5 = .ok (.i2l, 1) := by decide +kernel
theorem dX10_boundary_6 : decode cX10_boundary 6 = .ok (.lconst 0, 1) := by decide +kernel
theorem dX10_boundary_7 : decode cX10_boundary 7 = .ok (.aload_n 0, 1) := by decide +kernel
theorem dX10_boundary_8 : decode cX10_boundary 8 = .ok (.getfield 162, 3) := by decide +kernel
theorem dX10_boundary_11 : decode cX10_boundary 11 = .ok (.iconst 1, 1) := by decide +kernel
theorem dX10_boundary_12 : decode cX10_boundary 12 = .ok (.isub, 1) := by decide +kernel
theorem dX10_boundary_13 : decode cX10_boundary 13 = .ok (.i2l, 1) := by decide +kernel
theorem dX10_boundary_14 : decode cX10_boundary 14 = .ok (.invokestatic 236, 3) := by decide +kernel
theorem dX10_boundary_17 : decode cX10_boundary 17 = .ok (.ifCond .eq 13, 3) := by decide +kernel
theorem dX10_boundary_20 : decode cX10_boundary 20 = .ok (.iload_n 2, 1) := by decide +kernel
theorem dX10_boundary_21 : decode cX10_boundary 21 = .ok (.i2l, 1) := by decide +kernel
theorem dX10_boundary_22 : decode cX10_boundary 22 = .ok (.lconst 0, 1) := by decide +kernel
theorem dX10_boundary_23 : decode cX10_boundary 23 = .ok (.lconst 1, 1) := by decide +kernel
theorem dX10_boundary_24 : decode cX10_boundary 24 = .ok (.invokestatic 236, 3) := by decide +kernel
theorem dX10_boundary_27 : decode cX10_boundary 27 = .ok (.ifCond .ne 13, 3) := by decide +kernel
theorem dX10_boundary_30 : decode cX10_boundary 30 = .ok (.aload_n 0, 1) := by decide +kernel
theorem dX10_boundary_31 : decode cX10_boundary 31 = .ok (.bipush (-2), 2) := by decide +kernel
theorem dX10_boundary_33 : decode cX10_boundary 33 = .ok (.ldc2_w 316, 3) := by decide +kernel
theorem dX10_boundary_36 : decode cX10_boundary 36 = .ok (.invokevirtual 306, 3) := by decide +kernel
theorem dX10_boundary_39 : decode cX10_boundary 39 = .ok (.lreturn, 1) := by decide +kernel
theorem dX10_boundary_40 : decode cX10_boundary 40 = .ok (.aload_n 0, 1) := by decide +kernel
theorem dX10_boundary_41 : decode cX10_boundary 41 = .ok (.iload_n 1, 1) := by decide +kernel
theorem dX10_boundary_42 : decode cX10_boundary 42 = .ok (.invokevirtual 388, 3) := by decide +kernel
theorem dX10_boundary_45 : decode cX10_boundary 45 = .ok (.iload_n 2, 1) := by decide +kernel
theorem dX10_boundary_46 : decode cX10_boundary 46 = .ok (.ifCond .ne 10, 3) := by decide +kernel
theorem dX10_boundary_49 : decode cX10_boundary 49 = .ok (.aload_n 0, 1) := by decide +kernel
theorem dX10_boundary_50 : decode cX10_boundary 50 = .ok (.getfield 133, 3) := by decide +kernel
theorem dX10_boundary_53 : decode cX10_boundary 53 = .ok (.goto 7, 3) := by decide +kernel
theorem dX10_boundary_56 : decode cX10_boundary 56 = .ok (.aload_n 0, 1) := by decide +kernel
theorem dX10_boundary_57 : decode cX10_boundary 57 = .ok (.getfield 137, 3) := by decide +kernel
theorem dX10_boundary_60 : decode cX10_boundary 60 = .ok (.lreturn, 1) := by decide +kernel
theorem kcX10_boundary : Cond.code yX10_boundary cX10_boundary 3 (some .long) ∈ tb := tq q_1142 rfl
theorem knX10_boundary : Cond.initialized yX10_boundary.cls ∈ tb := (tq q_10 rfl)
theorem kdX10_boundary : yX10_boundary.cls ≠ "java/lang/invoke/MethodHandle" ∧ yX10_boundary.cls ≠ "java/lang/invoke/VarHandle" ∧ (parseMethodDescriptor yX10_boundary.desc).map (fun d => d.parameters.length) = some 2 := ⟨by decide +kernel, by decide +kernel, by decide +kernel⟩
theorem kiX10_boundary : Cond.instanceMethod yX10_boundary ∈ tb := (tq q_1140 rfl)
theorem ksX10_boundary : Cond.selects yX10_boundary.cls yX10_boundary yX10_boundary ∈ tb := (tq q_1141 rfl)
theorem tgX10_boundary {x0 : Nat} {x1 : Int32} {x2 : Int32} {h : PH} {r : Int64 × PH} (hf : (fX10_boundary x0 x1 x2).1 h = some r) : ∃ n x, nth h x0 = some (9, n, x) := by
  obtain ⟨_, _, e, _⟩ := pb_some hf
  exact (chk_some e).2
set_option maxHeartbeats 4000000 in
set_option maxRecDepth 100000 in
theorem metX10_boundary (l : Launch) (G : GG) (ρ : Nat → Nat) {z : Nat} {x0 : Nat} {x1 : Int32} {x2 : Int32} {h hE : PH} {v : Int64} (hf : (fX10_boundary x0 x1 x2).1 h = some (v, hE)) : Met l yX10_boundary (wsY yX10_boundary cX10_boundary 3 (some .long)) (RM 8 207 h hE) (va_Pc [.ref (ρ x0), .int x1, .int x2] (PcB G ρ h z)) (QL G ρ v hE h.length z) (DC h hE) (DS h hE) (Af ρ h.length z) := by
  refine met_start (by decide) (Nat.le_of_ble_eq_true rfl) ?_
  intro p e s m below meth c ls hz C hW hl
  subst hz
  have C : Cx G "PairSymbolsModel" cX10_boundary 3 (some .long) "boundary" p s m _ meth c := C
  have hx := C.1
  have hb := C.2.1
  have hX : Ext hE hE := Ext.rf hE
  have hl : lv_has ls 3 [(0, .ref (ρ x0)), (1, .int x1), (2, .int x2)] := hl
  have hW : Wd G ρ h.length (sl h) s.heap h s.heap [] 0 0 := hW
  unfold fX10_boundary at hf
  obtain ⟨_, e0, hf⟩ := pb_rd (rd_chk _ _) hf
  refine lv_aload_n hx hb dX10_boundary_0 rfl (lv_at hl 0 rfl) ?_
  obtain ⟨_, h1, e1, hf⟩ := pb_some hf
  obtain ⟨_, _, t2⟩ := tgX10_lays e1
  refine r_callv hW (pext e1) (run_V (b := x0) (As := []) (rest := []) C hW (metX10_lays l G ρ e1) ⟨rfl, rfl⟩ kcX10_lays (tq q_857 rfl) kiX10_lays ksX10_lays knX10_lays kdX10_lays t2 rfl rfl ⟨Nat.le_of_ble_eq_true rfl, Nat.le_of_ble_eq_true rfl⟩ hl.1 (Nat.le_of_ble_eq_true rfl) (room_of hW (pext e1) ((pext hf).tr hX)) dX10_boundary_1 rfl) (fun H locs c1 s1 hW => ?_)
  refine lv_iload_n hx hb dX10_boundary_4 rfl (lv_at hl 1 rfl) ?_
  refine lv_i2l (v := x1.toInt64) hx hb dX10_boundary_5 rfl ?_
  refine lv_lconst (v := 0) hx hb dX10_boundary_6 (by decide) ?_
  refine lv_aload_n hx hb dX10_boundary_7 rfl (lv_at hl 0 rfl) ?_
  obtain ⟨v3, e3, hf⟩ := pb_rd (rd_gI _ _ _) hf
  refine r_gI C hW e3 flX10_162 rfl dX10_boundary_8 ?_
  refine lv_iconst (v := 1) hx hb dX10_boundary_11 (by decide) ?_
  refine lv_isub hx hb dX10_boundary_12 ?_
  refine lv_i2l (v := (v3 - (1 : Int32)).toInt64) hx hb dX10_boundary_13 rfl ?_
  obtain ⟨v4, h4, e4, hf⟩ := pb_some hf
  refine r_calli hW (pext e4) (run_S (As := [.long x1.toInt64, .long (0 : Int64), .long (v3 - (1 : Int32)).toInt64]) (rest := []) C hW (metX10_in l G ρ e4) ⟨rfl, rfl⟩ kcX10_in (tq q_834 rfl) kiX10_in knX10_in kdX10_in ⟨Nat.le_of_ble_eq_true rfl, Nat.le_of_ble_eq_true rfl⟩ hl.1 (Nat.le_of_ble_eq_true rfl) (room_of hW (pext e4) ((pext hf).tr hX)) dX10_boundary_14 rfl) (fun H locs c1 s1 hW => ?_)
  refine lv_if_eq (tgt := 30) hx hb dX10_boundary_17 (by decide) (fun c5 => ?_) (fun c5 => ?_)
  · rw [if_pos c5] at hf
    refine lv_aload_n hx hb dX10_boundary_30 rfl (lv_at hl 0 rfl) ?_
    refine lv_bipush (v := -2) hx hb dX10_boundary_31 (by decide) ?_
    refine r_ldc2 (v := -9223372036854775808) C (tq q_1041 rfl) dX10_boundary_33 ?_
    obtain ⟨v6, h6, e6, hf⟩ := pb_some hf
    obtain ⟨_, _, t7⟩ := tgX10_refusesBy e6
    refine r_calll hW (pext e6) (run_V (b := x0) (As := [.int (-2 : Int32), .long (-9223372036854775808 : Int64)]) (rest := []) C hW (metX10_refusesBy l G ρ e6) ⟨rfl, rfl⟩ kcX10_refusesBy (tq q_1020 rfl) kiX10_refusesBy ksX10_refusesBy knX10_refusesBy kdX10_refusesBy t7 rfl rfl ⟨Nat.le_of_ble_eq_true rfl, Nat.le_of_ble_eq_true rfl⟩ hl.1 (Nat.le_of_ble_eq_true rfl) (room_of hW (pext e6) ((pext hf).tr hX)) dX10_boundary_36 rfl) (fun H locs c1 s1 hW => ?_)
    obtain ⟨rfl, rfl⟩ := pp_some hf
    exact r_lret C hW dX10_boundary_39
  · rw [if_neg c5] at hf
    refine lv_iload_n hx hb dX10_boundary_20 rfl (lv_at hl 2 rfl) ?_
    refine lv_i2l (v := x2.toInt64) hx hb dX10_boundary_21 rfl ?_
    refine lv_lconst (v := 0) hx hb dX10_boundary_22 (by decide) ?_
    refine lv_lconst (v := 1) hx hb dX10_boundary_23 (by decide) ?_
    obtain ⟨v8, h8, e8, hf⟩ := pb_some hf
    refine r_calli hW (pext e8) (run_S (As := [.long x2.toInt64, .long (0 : Int64), .long (1 : Int64)]) (rest := []) C hW (metX10_in l G ρ e8) ⟨rfl, rfl⟩ kcX10_in (tq q_834 rfl) kiX10_in knX10_in kdX10_in ⟨Nat.le_of_ble_eq_true rfl, Nat.le_of_ble_eq_true rfl⟩ hl.1 (Nat.le_of_ble_eq_true rfl) (room_of hW (pext e8) ((pext hf).tr hX)) dX10_boundary_24 rfl) (fun H locs c1 s1 hW => ?_)
    refine lv_if_ne (tgt := 40) hx hb dX10_boundary_27 (by decide) (fun c9 => ?_) (fun c9 => ?_)
    · rw [if_neg c9] at hf
      refine lv_aload_n hx hb dX10_boundary_40 rfl (lv_at hl 0 rfl) ?_
      refine lv_iload_n hx hb dX10_boundary_41 rfl (lv_at hl 1 rfl) ?_
      obtain ⟨_, h10, e10, hf⟩ := pb_some hf
      obtain ⟨_, _, t11⟩ := tgX10_laysBoundary e10
      refine r_callv hW (pext e10) (run_V (b := x0) (As := [.int x1]) (rest := []) C hW (metX10_laysBoundary l G ρ e10) ⟨rfl, rfl⟩ kcX10_laysBoundary (tq q_1143 rfl) kiX10_laysBoundary ksX10_laysBoundary knX10_laysBoundary kdX10_laysBoundary t11 rfl rfl ⟨Nat.le_of_ble_eq_true rfl, Nat.le_of_ble_eq_true rfl⟩ hl.1 (Nat.le_of_ble_eq_true rfl) (room_of hW (pext e10) ((pext hf).tr hX)) dX10_boundary_42 rfl) (fun H locs c1 s1 hW => ?_)
      refine lv_iload_n hx hb dX10_boundary_45 rfl (lv_at hl 2 rfl) ?_
      refine lv_if_ne (tgt := 56) hx hb dX10_boundary_46 (by decide) (fun c12 => ?_) (fun c12 => ?_)
      · rw [if_neg c12] at hf
        refine lv_aload_n hx hb dX10_boundary_56 rfl (lv_at hl 0 rfl) ?_
        obtain ⟨v13, e13, hf⟩ := pb_rd (rd_gJ _ _ _) hf
        refine r_gJ C hW e13 flX10_137 rfl dX10_boundary_57 ?_
        obtain ⟨rfl, rfl⟩ := pp_some hf
        exact r_lret C hW dX10_boundary_60
      · rw [if_pos c12] at hf
        refine lv_aload_n hx hb dX10_boundary_49 rfl (lv_at hl 0 rfl) ?_
        obtain ⟨v14, e14, hf⟩ := pb_rd (rd_gJ _ _ _) hf
        refine r_gJ C hW e14 flX10_133 rfl dX10_boundary_50 ?_
        refine lv_goto (tgt := 60) hx hb dX10_boundary_53 (by decide) ?_
        obtain ⟨rfl, rfl⟩ := pp_some hf
        exact r_lret C hW dX10_boundary_60
    · rw [if_pos c9] at hf
      refine lv_aload_n hx hb dX10_boundary_30 rfl (lv_at hl 0 rfl) ?_
      refine lv_bipush (v := -2) hx hb dX10_boundary_31 (by decide) ?_
      refine r_ldc2 (v := -9223372036854775808) C (tq q_1041 rfl) dX10_boundary_33 ?_
      obtain ⟨v15, h15, e15, hf⟩ := pb_some hf
      obtain ⟨_, _, t16⟩ := tgX10_refusesBy e15
      refine r_calll hW (pext e15) (run_V (b := x0) (As := [.int (-2 : Int32), .long (-9223372036854775808 : Int64)]) (rest := []) C hW (metX10_refusesBy l G ρ e15) ⟨rfl, rfl⟩ kcX10_refusesBy (tq q_1020 rfl) kiX10_refusesBy ksX10_refusesBy knX10_refusesBy kdX10_refusesBy t16 rfl rfl ⟨Nat.le_of_ble_eq_true rfl, Nat.le_of_ble_eq_true rfl⟩ hl.1 (Nat.le_of_ble_eq_true rfl) (room_of hW (pext e15) ((pext hf).tr hX)) dX10_boundary_36 rfl) (fun H locs c1 s1 hW => ?_)
      obtain ⟨rfl, rfl⟩ := pp_some hf
      exact r_lret C hW dX10_boundary_39

theorem dX10_isCuspidal_0 : decode cX10_isCuspidal 0 = .ok (.aload_n 0, 1) := by decide +kernel
theorem dX10_isCuspidal_1 : decode cX10_isCuspidal 1 = .ok (.invokevirtual 249, 3) := by decide +kernel
theorem dX10_isCuspidal_4 : decode cX10_isCuspidal 4 = .ok (.iconst 1, 1) := by decide +kernel
theorem dX10_isCuspidal_5 : decode cX10_isCuspidal 5 = .ok (.istore_n 1, 1) := by decide +kernel
theorem dX10_isCuspidal_6 : decode cX10_isCuspidal 6 = .ok (.iconst 0, 1) := by decide +kernel
theorem dX10_isCuspidal_7 : decode cX10_isCuspidal 7 = .ok (.istore_n 2, 1) := by decide +kernel
theorem dX10_isCuspidal_8 : decode cX10_isCuspidal 8 = .ok (.iload_n 2, 1) := by decide +kernel
theorem dX10_isCuspidal_9 : decode cX10_isCuspidal 9 = .ok (.aload_n 0, 1) := by decide +kernel
theorem dX10_isCuspidal_10 : decode cX10_isCuspidal 10 = .ok (.getfield 162, 3) := by decide +kernel
theorem dX10_isCuspidal_13 : decode cX10_isCuspidal 13 = .ok (.if_icmp .ge 33, 3) := by decide +kernel
theorem dX10_isCuspidal_16 : decode cX10_isCuspidal 16 = .ok (.aload_n 0, 1) := by decide +kernel
theorem dX10_isCuspidal_17 : decode cX10_isCuspidal 17 = .ok (.iload_n 2, 1) := by decide +kernel
theorem dX10_isCuspidal_18 : decode cX10_isCuspidal 18 = .ok (.invokevirtual 388, 3) := by decide +kernel
theorem dX10_isCuspidal_21 : decode cX10_isCuspidal 21 = .ok (.iload_n 1, 1) := by decide +kernel
theorem dX10_isCuspidal_22 : decode cX10_isCuspidal 22 = .ok (.ifCond .eq 16, 3) := by decide +kernel
theorem dX10_isCuspidal_25 : decode cX10_isCuspidal 25 = .ok (.aload_n 0, 1) := by decide +kernel
theorem dX10_isCuspidal_26 : decode cX10_isCuspidal 26 = .ok (.getfield 133, 3) := by decide +kernel
theorem dX10_isCuspidal_29 : decode cX10_isCuspidal 29 = .ok (.lconst 0, 1) := by decide +kernel
theorem dX10_isCuspidal_30 : decode cX10_isCuspidal 30 = .ok (.lcmp, 1) := by decide +kernel
theorem dX10_isCuspidal_31 : decode cX10_isCuspidal 31 = .ok (.ifCond .ne 7, 3) := by decide +kernel
theorem dX10_isCuspidal_34 : decode cX10_isCuspidal 34 = .ok (.iconst 1, 1) := by decide +kernel
theorem dX10_isCuspidal_35 : decode cX10_isCuspidal 35 = .ok (.goto 4, 3) := by decide +kernel
theorem dX10_isCuspidal_38 : decode cX10_isCuspidal 38 = .ok (.iconst 0, 1) := by decide +kernel
theorem dX10_isCuspidal_39 : decode cX10_isCuspidal 39 = .ok (.istore_n 1, 1) := by decide +kernel
theorem dX10_isCuspidal_40 : decode cX10_isCuspidal 40 = .ok (.iinc 2 1, 3) := by decide +kernel
theorem dX10_isCuspidal_43 : decode cX10_isCuspidal 43 = .ok (.goto (-35), 3) := by decide +kernel
theorem dX10_isCuspidal_46 : decode cX10_isCuspidal 46 = .ok (.iload_n 1, 1) := by decide +kernel
theorem dX10_isCuspidal_47 : decode cX10_isCuspidal 47 = .ok (.ireturn, 1) := by decide +kernel
theorem kcX10_isCuspidal : Cond.code yX10_isCuspidal cX10_isCuspidal 3 (some .boolean) ∈ tb := tq q_1154 rfl
theorem knX10_isCuspidal : Cond.initialized yX10_isCuspidal.cls ∈ tb := (tq q_10 rfl)
theorem kdX10_isCuspidal : yX10_isCuspidal.cls ≠ "java/lang/invoke/MethodHandle" ∧ yX10_isCuspidal.cls ≠ "java/lang/invoke/VarHandle" ∧ (parseMethodDescriptor yX10_isCuspidal.desc).map (fun d => d.parameters.length) = some 0 := ⟨by decide +kernel, by decide +kernel, by decide +kernel⟩
theorem kiX10_isCuspidal : Cond.instanceMethod yX10_isCuspidal ∈ tb := (tq q_1153 rfl)
theorem ksX10_isCuspidal : Cond.selects yX10_isCuspidal.cls yX10_isCuspidal yX10_isCuspidal ∈ tb := (tq z_78 rfl)
theorem tgX10_isCuspidal {x0 : Nat} {h : PH} {r : Int32 × PH} (hf : (fX10_isCuspidal x0).1 h = some r) : ∃ n x, nth h x0 = some (9, n, x) := by
  obtain ⟨_, _, e, _⟩ := pb_some hf
  exact (chk_some e).2
set_option maxHeartbeats 4000000 in
set_option maxRecDepth 100000 in
theorem wX10_isCuspidal_B8 {p : Program} {l : Launch} {e : Env} {s : State} {m : MethodId} {args : Array Value} {below : List Frame} {meth : Method} {c : Code} {G : GG} {ρ : Nat → Nat} {h0 hE hB : PH} {Q : State → Prop} {x0 : Nat} (C : Cx G "PairSymbolsModel" cX10_isCuspidal 3 (some .boolean) "isCuspidal" p s m args meth c) {x1 : Int32} {x2 : Int32} {h : PH} {H : Heap} {locs : List Loc} {cells slots : Nat} {ls : Array Slot} {r : (Int32 × Int32) ⊕ (Int32)} (hf : (fX10_isCuspidal_b8 x0 x1 x2).1 h = some (r, hB)) (hX : Ext hB hE) (hW : Wd G ρ h0.length (sl h0) s.heap h H locs cells slots) (hl : lv_has ls 3 [(0, .ref (ρ x0)), (1, .int x1), (2, .int x2)]) (kc : ∀ y : Int32 × Int32, r = .inl y → ∀ (H : Heap) (locs : List Loc) (c1 s1 : Nat) (ls : Array Slot), Wd G ρ h0.length (sl h0) s.heap hB H locs c1 s1 → lv_has ls 3 [(0, .ref (ρ x0)), (1, .int y.1), (2, .int y.2)] → W p l e (RM 8 207 h0 hE) s m args below meth c H locs c1 s1 Q (F0 m 8 ls [])) (ke : ∀ z : Int32, r = .inr z → ∀ (H : Heap) (locs : List Loc) (c1 s1 : Nat) (ls : Array Slot), Wd G ρ h0.length (sl h0) s.heap hB H locs c1 s1 → lv_has ls 3 [(1, .int z)] → W p l e (RM 8 207 h0 hE) s m args below meth c H locs c1 s1 Q (F0 m 46 ls [])) : W p l e (RM 8 207 h0 hE) s m args below meth c H locs cells slots Q (F0 m 8 ls []) := by
  have hx := C.1
  have hb := C.2.1
  unfold fX10_isCuspidal_b8 at hf
  refine lv_iload_n hx hb dX10_isCuspidal_8 rfl (lv_at hl 2 rfl) ?_
  refine lv_aload_n hx hb dX10_isCuspidal_9 rfl (lv_at hl 0 rfl) ?_
  obtain ⟨v3, e3, hf⟩ := pb_rd (rd_gI _ _ _) hf
  refine r_gI C hW e3 flX10_162 rfl dX10_isCuspidal_10 ?_
  refine lv_icmp_ge (tgt := 46) hx hb dX10_isCuspidal_13 (by decide) (fun c4 => ?_) (fun c4 => ?_)
  · rw [if_pos c4] at hf
    obtain ⟨rfl, rfl⟩ := pp_some hf
    exact ke _ rfl _ _ _ _ _ hW (lv_sub hl [1] rfl)
  · rw [if_neg c4] at hf
    refine lv_aload_n hx hb dX10_isCuspidal_16 rfl (lv_at hl 0 rfl) ?_
    refine lv_iload_n hx hb dX10_isCuspidal_17 rfl (lv_at hl 2 rfl) ?_
    obtain ⟨_, h5, e5, hf⟩ := pb_some hf
    obtain ⟨_, _, t6⟩ := tgX10_laysBoundary e5
    refine r_callv hW (pext e5) (run_V (b := x0) (As := [.int x2]) (rest := []) C hW (metX10_laysBoundary l G ρ e5) ⟨rfl, rfl⟩ kcX10_laysBoundary (tq q_1143 rfl) kiX10_laysBoundary ksX10_laysBoundary knX10_laysBoundary kdX10_laysBoundary t6 rfl rfl ⟨Nat.le_of_ble_eq_true rfl, Nat.le_of_ble_eq_true rfl⟩ hl.1 (Nat.le_of_ble_eq_true rfl) (room_of hW (pext e5) ((pext hf).tr hX)) dX10_isCuspidal_18 rfl) (fun H locs c1 s1 hW => ?_)
    refine lv_iload_n hx hb dX10_isCuspidal_21 rfl (lv_at hl 1 rfl) ?_
    refine lv_if_eq (tgt := 38) hx hb dX10_isCuspidal_22 (by decide) (fun c7 => ?_) (fun c7 => ?_)
    · rw [if_pos c7] at hf
      refine lv_iconst (v := 0) hx hb dX10_isCuspidal_38 (by decide) ?_
      refine lv_istore_n (lv' := [(1, .int (0 : Int32)), (0, .ref (ρ x0)), (2, .int x2)]) hx hb dX10_isCuspidal_39 rfl hl (by decide) rfl (fun ls hl => ?_)
      refine lv_iinc (v := (x2 + 1)) (lv' := [(2, .int (x2 + 1)), (1, .int (0 : Int32)), (0, .ref (ρ x0))]) hx hb dX10_isCuspidal_40 hl (k := 2) rfl rfl (by decide) rfl (fun ls hl => ?_)
      refine lv_goto (tgt := 8) hx hb dX10_isCuspidal_43 (by decide) ?_
      obtain ⟨rfl, rfl⟩ := pp_some hf
      exact kc _ rfl _ _ _ _ _ hW (lv_sub hl [2, 1, 0] rfl)
    · rw [if_neg c7] at hf
      refine lv_aload_n hx hb dX10_isCuspidal_25 rfl (lv_at hl 0 rfl) ?_
      obtain ⟨v8, e8, hf⟩ := pb_rd (rd_gJ _ _ _) hf
      refine r_gJ C hW e8 flX10_133 rfl dX10_isCuspidal_26 ?_
      refine lv_lconst (v := 0) hx hb dX10_isCuspidal_29 (by decide) ?_
      refine W.lcmp hx hb dX10_isCuspidal_30 ?_
      refine lv_if_ne (tgt := 38) hx hb dX10_isCuspidal_31 (by decide) (fun c9 => ?_) (fun c9 => ?_)
      · rw [if_neg c9] at hf
        refine lv_iconst (v := 0) hx hb dX10_isCuspidal_38 (by decide) ?_
        refine lv_istore_n (lv' := [(1, .int (0 : Int32)), (0, .ref (ρ x0)), (2, .int x2)]) hx hb dX10_isCuspidal_39 rfl hl (by decide) rfl (fun ls hl => ?_)
        refine lv_iinc (v := (x2 + 1)) (lv' := [(2, .int (x2 + 1)), (1, .int (0 : Int32)), (0, .ref (ρ x0))]) hx hb dX10_isCuspidal_40 hl (k := 2) rfl rfl (by decide) rfl (fun ls hl => ?_)
        refine lv_goto (tgt := 8) hx hb dX10_isCuspidal_43 (by decide) ?_
        obtain ⟨rfl, rfl⟩ := pp_some hf
        exact kc _ rfl _ _ _ _ _ hW (lv_sub hl [2, 1, 0] rfl)
      · rw [if_pos c9] at hf
        refine lv_iconst (v := 1) hx hb dX10_isCuspidal_34 (by decide) ?_
        refine lv_goto (tgt := 39) hx hb dX10_isCuspidal_35 (by decide) ?_
        refine lv_istore_n (lv' := [(1, .int (1 : Int32)), (0, .ref (ρ x0)), (2, .int x2)]) hx hb dX10_isCuspidal_39 rfl hl (by decide) rfl (fun ls hl => ?_)
        refine lv_iinc (v := (x2 + 1)) (lv' := [(2, .int (x2 + 1)), (1, .int (1 : Int32)), (0, .ref (ρ x0))]) hx hb dX10_isCuspidal_40 hl (k := 2) rfl rfl (by decide) rfl (fun ls hl => ?_)
        refine lv_goto (tgt := 8) hx hb dX10_isCuspidal_43 (by decide) ?_
        obtain ⟨rfl, rfl⟩ := pp_some hf
        exact kc _ rfl _ _ _ _ _ hW (lv_sub hl [2, 1, 0] rfl)
set_option maxHeartbeats 4000000 in
theorem wX10_isCuspidal_L8 {p : Program} {l : Launch} {e : Env} {s : State} {m : MethodId} {args : Array Value} {below : List Frame} {meth : Method} {c : Code} {G : GG} {ρ : Nat → Nat} {h0 hE hB : PH} {Q : State → Prop} {x0 : Nat} (C : Cx G "PairSymbolsModel" cX10_isCuspidal 3 (some .boolean) "isCuspidal" p s m args meth c) {z : (Int32)} (n : Nat) : ∀ (x : Int32 × Int32) {h : PH} {H : Heap} {locs : List Loc} {cells slots : Nat} {ls : Array Slot}, (plo (fX10_isCuspidal_B8 x0) n x).1 h = some (z, hB) → Ext hB hE → Wd G ρ h0.length (sl h0) s.heap h H locs cells slots → lv_has ls 3 [(0, .ref (ρ x0)), (1, .int x.1), (2, .int x.2)] → (ke : ∀ (H : Heap) (locs : List Loc) (c1 s1 : Nat) (ls : Array Slot), Wd G ρ h0.length (sl h0) s.heap hB H locs c1 s1 → lv_has ls 3 [(1, .int z)] → W p l e (RM 8 207 h0 hE) s m args below meth c H locs c1 s1 Q (F0 m 46 ls [])) → W p l e (RM 8 207 h0 hE) s m args below meth c H locs cells slots Q (F0 m 8 ls []) := by
  induction n with
  | zero =>
    intro x h H locs cells slots ls hf
    rw [plo_0] at hf
    exact (pf_no hf).elim
  | succ n ih =>
    intro x h H locs cells slots ls hf hX hW hl ke
    rw [plo_s] at hf
    obtain ⟨r, h1, e1, hf⟩ := pb_some hf
    unfold fX10_isCuspidal_B8 at e1
    rw [frI_eq, frI_eq] at e1
    refine wX10_isCuspidal_B8 C e1 ((pext hf).tr hX) hW hl (fun y hr H locs c1 s1 ls hW hl => ?_) (fun y hr H locs c1 s1 ls hW hl => ?_)
    · subst hr
      exact ih y hf hX hW hl ke
    · subst hr
      obtain ⟨rfl, rfl⟩ := pp_some hf
      exact ke H locs c1 s1 ls hW hl
set_option maxHeartbeats 4000000 in
set_option maxRecDepth 100000 in
theorem metX10_isCuspidal (l : Launch) (G : GG) (ρ : Nat → Nat) {z : Nat} {x0 : Nat} {h hE : PH} {v : Int32} (hf : (fX10_isCuspidal x0).1 h = some (v, hE)) : Met l yX10_isCuspidal (wsY yX10_isCuspidal cX10_isCuspidal 3 (some .boolean)) (RM 8 207 h hE) (va_Pc [.ref (ρ x0)] (PcB G ρ h z)) (QI G ρ v hE h.length z) (DC h hE) (DS h hE) (Af ρ h.length z) := by
  refine met_start (by decide) (Nat.le_of_ble_eq_true rfl) ?_
  intro p e s m below meth c ls hz C hW hl
  subst hz
  have C : Cx G "PairSymbolsModel" cX10_isCuspidal 3 (some .boolean) "isCuspidal" p s m _ meth c := C
  have hx := C.1
  have hb := C.2.1
  have hX : Ext hE hE := Ext.rf hE
  have hl : lv_has ls 3 [(0, .ref (ρ x0))] := hl
  have hW : Wd G ρ h.length (sl h) s.heap h s.heap [] 0 0 := hW
  unfold fX10_isCuspidal at hf
  obtain ⟨_, e0, hf⟩ := pb_rd (rd_chk _ _) hf
  refine lv_aload_n hx hb dX10_isCuspidal_0 rfl (lv_at hl 0 rfl) ?_
  obtain ⟨_, h1, e1, hf⟩ := pb_some hf
  obtain ⟨_, _, t2⟩ := tgX10_lays e1
  refine r_callv hW (pext e1) (run_V (b := x0) (As := []) (rest := []) C hW (metX10_lays l G ρ e1) ⟨rfl, rfl⟩ kcX10_lays (tq q_857 rfl) kiX10_lays ksX10_lays knX10_lays kdX10_lays t2 rfl rfl ⟨Nat.le_of_ble_eq_true rfl, Nat.le_of_ble_eq_true rfl⟩ hl.1 (Nat.le_of_ble_eq_true rfl) (room_of hW (pext e1) ((pext hf).tr hX)) dX10_isCuspidal_1 rfl) (fun H locs c1 s1 hW => ?_)
  refine lv_iconst (v := 1) hx hb dX10_isCuspidal_4 (by decide) ?_
  refine lv_istore_n (lv' := [(1, .int (1 : Int32)), (0, .ref (ρ x0))]) hx hb dX10_isCuspidal_5 rfl hl (by decide) rfl (fun ls hl => ?_)
  refine lv_iconst (v := 0) hx hb dX10_isCuspidal_6 (by decide) ?_
  refine lv_istore_n (lv' := [(2, .int (0 : Int32)), (1, .int (1 : Int32)), (0, .ref (ρ x0))]) hx hb dX10_isCuspidal_7 rfl hl (by decide) rfl (fun ls hl => ?_)
  obtain ⟨z10, h10, e10, hf⟩ := pb_some hf
  refine wX10_isCuspidal_L8 C fu _ e10 ((pext hf).tr hX) hW (lv_sub hl [2, 1, 0] rfl) (fun H locs c1 s1 ls hW hl => ?_)
  refine lv_iload_n hx hb dX10_isCuspidal_46 rfl (lv_at hl 0 rfl) ?_
  obtain ⟨hz, hf⟩ := pz_some hf
  obtain ⟨rfl, rfl⟩ := pp_some hf
  exact r_zret C hW (pz_nar hz) dX10_isCuspidal_47

theorem dX10_cuspidal_0 : decode cX10_cuspidal 0 = .ok (.aload_n 0, 1) := by decide +kernel
theorem dX10_cuspidal_1 : decode cX10_cuspidal 1 = .ok (.invokevirtual 391, 3) := by decide +kernel
theorem dX10_cuspidal_4 : decode cX10_cuspidal 4 = .ok (.ifCond .eq 7, 3) := by decide +kernel
theorem dX10_cuspidal_7 : decode cX10_cuspidal 7 = .ok (.iconst 1, 1) := by decide +kernel
theorem dX10_cuspidal_8 : decode cX10_cuspidal 8 = .ok (.goto 4, 3) := by decide +kernel
theorem dX10_cuspidal_11 : decode cX10_cuspidal 11 = .ok (.iconst 0, 1) := by decide +kernel
theorem dX10_cuspidal_12 : decode cX10_cuspidal 12 = .ok (.ireturn, 1) := by decide +kernel
theorem kcX10_cuspidal : Cond.code yX10_cuspidal cX10_cuspidal 1 (some .int) ∈ tb := tq q_1150 rfl
theorem knX10_cuspidal : Cond.initialized yX10_cuspidal.cls ∈ tb := (tq q_10 rfl)
theorem kdX10_cuspidal : yX10_cuspidal.cls ≠ "java/lang/invoke/MethodHandle" ∧ yX10_cuspidal.cls ≠ "java/lang/invoke/VarHandle" ∧ (parseMethodDescriptor yX10_cuspidal.desc).map (fun d => d.parameters.length) = some 0 := ⟨by decide +kernel, by decide +kernel, by decide +kernel⟩
theorem kiX10_cuspidal : Cond.instanceMethod yX10_cuspidal ∈ tb := (tq q_1148 rfl)
theorem ksX10_cuspidal : Cond.selects yX10_cuspidal.cls yX10_cuspidal yX10_cuspidal ∈ tb := (tq q_1149 rfl)
theorem tgX10_cuspidal {x0 : Nat} {h : PH} {r : Int32 × PH} (hf : (fX10_cuspidal x0).1 h = some r) : ∃ n x, nth h x0 = some (9, n, x) := by
  obtain ⟨_, _, e, _⟩ := pb_some hf
  exact (chk_some e).2
set_option maxHeartbeats 4000000 in
set_option maxRecDepth 100000 in
theorem metX10_cuspidal (l : Launch) (G : GG) (ρ : Nat → Nat) {z : Nat} {x0 : Nat} {h hE : PH} {v : Int32} (hf : (fX10_cuspidal x0).1 h = some (v, hE)) : Met l yX10_cuspidal (wsY yX10_cuspidal cX10_cuspidal 1 (some .int)) (RM 9 229 h hE) (va_Pc [.ref (ρ x0)] (PcB G ρ h z)) (QI G ρ v hE h.length z) (DC h hE) (DS h hE) (Af ρ h.length z) := by
  refine met_start (by decide) (Nat.le_of_ble_eq_true rfl) ?_
  intro p e s m below meth c ls hz C hW hl
  subst hz
  have C : Cx G "PairSymbolsModel" cX10_cuspidal 1 (some .int) "cuspidal" p s m _ meth c := C
  have hx := C.1
  have hb := C.2.1
  have hX : Ext hE hE := Ext.rf hE
  have hl : lv_has ls 1 [(0, .ref (ρ x0))] := hl
  have hW : Wd G ρ h.length (sl h) s.heap h s.heap [] 0 0 := hW
  unfold fX10_cuspidal at hf
  obtain ⟨_, e0, hf⟩ := pb_rd (rd_chk _ _) hf
  refine lv_aload_n hx hb dX10_cuspidal_0 rfl (lv_at hl 0 rfl) ?_
  obtain ⟨v1, h1, e1, hf⟩ := pb_some hf
  obtain ⟨_, _, t2⟩ := tgX10_isCuspidal e1
  refine r_calli hW (pext e1) (run_V (b := x0) (As := []) (rest := []) C hW (metX10_isCuspidal l G ρ e1) ⟨rfl, rfl⟩ kcX10_isCuspidal (tq q_1151 rfl) kiX10_isCuspidal ksX10_isCuspidal knX10_isCuspidal kdX10_isCuspidal t2 rfl rfl ⟨Nat.le_of_ble_eq_true rfl, Nat.le_of_ble_eq_true rfl⟩ hl.1 (Nat.le_of_ble_eq_true rfl) (room_of hW (pext e1) ((pext hf).tr hX)) dX10_cuspidal_1 rfl) (fun H locs c1 s1 hW => ?_)
  refine lv_if_eq (tgt := 11) hx hb dX10_cuspidal_4 (by decide) (fun c3 => ?_) (fun c3 => ?_)
  · rw [if_pos c3] at hf
    refine lv_iconst (v := 0) hx hb dX10_cuspidal_11 (by decide) ?_
    obtain ⟨rfl, rfl⟩ := pp_some hf
    exact r_iret C hW dX10_cuspidal_12
  · rw [if_neg c3] at hf
    refine lv_iconst (v := 1) hx hb dX10_cuspidal_7 (by decide) ?_
    refine lv_goto (tgt := 12) hx hb dX10_cuspidal_8 (by decide) ?_
    obtain ⟨rfl, rfl⟩ := pp_some hf
    exact r_iret C hW dX10_cuspidal_12

theorem dX10_type_0 : decode cX10_type 0 = .ok (.iload_n 1, 1) := by decide +kernel
theorem dX10_type_1 : decode cX10_type 1 = .ok (.i2l, 1) := by decide +kernel
theorem dX10_type_2 : decode cX10_type 2 = .ok (.lconst 0, 1) := by decide +kernel
theorem dX10_type_3 : decode cX10_type 3 = .ok (.ldc2_w 395, 3) := by decide +kernel
theorem dX10_type_6 : decode cX10_type 6 = .ok (.invokestatic 236, 3) := by decide +kernel
theorem dX10_type_9 : decode cX10_type 9 = .ok (.ifCond .ne 10, 3) := by decide +kernel
theorem dX10_type_12 : decode cX10_type 12 = .ok (.aload_n 0, 1) := by decide +kernel
theorem dX10_type_13 : decode cX10_type 13 = .ok (.bipush (-2), 2) := by decide +kernel
theorem dX10_type_15 : decode cX10_type 15 = .ok (.invokevirtual 240, 3) := by decide +kernel
theorem dX10_type_18 : decode cX10_type 18 = .ok (.ireturn, 1) := by decide +kernel
theorem dX10_type_19 : decode cX10_type 19 = .ok (.aload_n 0, 1) := by decide +kernel
theorem dX10_type_20 : decode cX10_type 20 = .ok (.getfield 397, 3) := by decide +kernel
theorem dX10_type_23 : decode cX10_type 23 = .ok (.bipush 120, 2) := by decide +kernel
theorem dX10_type_25 : decode cX10_type 25 = .ok (.if_icmp .ne 10, 3) := by decide +kernel
theorem dX10_type_28 : decode cX10_type 28 = .ok (.aload_n 0, 1) := by decide +kernel
theorem dX10_type_29 : decode cX10_type 29 = .ok (.bipush (-4), 2) := by decide +kernel
theorem dX10_type_31 : decode cX10_type 31 = .ok (.invokevirtual 240, 3) := by decide +kernel
theorem dX10_type_34 : decode cX10_type 34 = .ok (.ireturn, 1) := by decide +kernel
theorem dX10_type_35 : decode cX10_type 35 = .ok (.aload_n 0, 1) := by decide +kernel
theorem dX10_type_36 : decode cX10_type 36 = .ok (.getfield 117, 3) := by decide +kernel
theorem dX10_type_39 : decode cX10_type 39 = .ok (.aload_n 0, 1) := by decide +kernel
theorem dX10_type_40 : decode cX10_type 40 = .ok (.getfield 397, 3) := by decide +kernel
theorem dX10_type_43 : decode cX10_type 43 = .ok (.iload_n 1, 1) := by decide +kernel
theorem dX10_type_44 : decode cX10_type 44 = .ok (.iastore, 1) := by decide +kernel
theorem dX10_type_45 : decode cX10_type 45 = .ok (.aload_n 0, 1) := by decide +kernel
theorem dX10_type_46 : decode cX10_type 46 = .ok (.dup, 1) := by decide +kernel
theorem dX10_type_47 : decode cX10_type 47 = .ok (.getfield 397, 3) := by decide +kernel
theorem dX10_type_50 : decode cX10_type 50 = .ok (.iconst 1, 1) := by decide +kernel
theorem dX10_type_51 : decode cX10_type 51 = .ok (.iadd, 1) := by decide +kernel
theorem dX10_type_52 : decode cX10_type 52 = .ok (.putfield 397, 3) := by decide +kernel
theorem dX10_type_55 : decode cX10_type 55 = .ok (.aload_n 0, 1) := by decide +kernel
theorem dX10_type_56 : decode cX10_type 56 = .ok (.getfield 397, 3) := by decide +kernel
theorem dX10_type_59 : decode cX10_type 59 = .ok (.ireturn, 1) := by decide +kernel
theorem kcX10_type : Cond.code yX10_type cX10_type 2 (some .int) ∈ tb := tq q_1158 rfl
theorem knX10_type : Cond.initialized yX10_type.cls ∈ tb := (tq q_10 rfl)
theorem kdX10_type : yX10_type.cls ≠ "java/lang/invoke/MethodHandle" ∧ yX10_type.cls ≠ "java/lang/invoke/VarHandle" ∧ (parseMethodDescriptor yX10_type.desc).map (fun d => d.parameters.length) = some 1 := ⟨by decide +kernel, by decide +kernel, by decide +kernel⟩
theorem kiX10_type : Cond.instanceMethod yX10_type ∈ tb := (tq q_1156 rfl)
theorem ksX10_type : Cond.selects yX10_type.cls yX10_type yX10_type ∈ tb := (tq q_1157 rfl)
theorem tgX10_type {x0 : Nat} {x1 : Int32} {h : PH} {r : Int32 × PH} (hf : (fX10_type x0 x1).1 h = some r) : ∃ n x, nth h x0 = some (9, n, x) := by
  obtain ⟨_, _, e, _⟩ := pb_some hf
  exact (chk_some e).2
set_option maxHeartbeats 4000000 in
set_option maxRecDepth 100000 in
theorem metX10_type (l : Launch) (G : GG) (ρ : Nat → Nat) {z : Nat} {x0 : Nat} {x1 : Int32} {h hE : PH} {v : Int32} (hf : (fX10_type x0 x1).1 h = some (v, hE)) : Met l yX10_type (wsY yX10_type cX10_type 2 (some .int)) (RM 1 25 h hE) (va_Pc [.ref (ρ x0), .int x1] (PcB G ρ h z)) (QI G ρ v hE h.length z) (DC h hE) (DS h hE) (Af ρ h.length z) := by
  refine met_start (by decide) (Nat.le_of_ble_eq_true rfl) ?_
  intro p e s m below meth c ls hz C hW hl
  subst hz
  have C : Cx G "PairSymbolsModel" cX10_type 2 (some .int) "type" p s m _ meth c := C
  have hx := C.1
  have hb := C.2.1
  have hX : Ext hE hE := Ext.rf hE
  have hl : lv_has ls 2 [(0, .ref (ρ x0)), (1, .int x1)] := hl
  have hW : Wd G ρ h.length (sl h) s.heap h s.heap [] 0 0 := hW
  unfold fX10_type at hf
  obtain ⟨_, e0, hf⟩ := pb_rd (rd_chk _ _) hf
  refine lv_iload_n hx hb dX10_type_0 rfl (lv_at hl 1 rfl) ?_
  refine lv_i2l (v := x1.toInt64) hx hb dX10_type_1 rfl ?_
  refine lv_lconst (v := 0) hx hb dX10_type_2 (by decide) ?_
  refine r_ldc2 (v := 127) C (tq q_1159 rfl) dX10_type_3 ?_
  obtain ⟨v1, h1, e1, hf⟩ := pb_some hf
  refine r_calli hW (pext e1) (run_S (As := [.long x1.toInt64, .long (0 : Int64), .long (127 : Int64)]) (rest := []) C hW (metX10_in l G ρ e1) ⟨rfl, rfl⟩ kcX10_in (tq q_834 rfl) kiX10_in knX10_in kdX10_in ⟨Nat.le_of_ble_eq_true rfl, Nat.le_of_ble_eq_true rfl⟩ hl.1 (Nat.le_of_ble_eq_true rfl) (room_of hW (pext e1) ((pext hf).tr hX)) dX10_type_6 rfl) (fun H locs c1 s1 hW => ?_)
  refine lv_if_ne (tgt := 19) hx hb dX10_type_9 (by decide) (fun c2 => ?_) (fun c2 => ?_)
  · rw [if_neg c2] at hf
    refine lv_aload_n hx hb dX10_type_19 rfl (lv_at hl 0 rfl) ?_
    obtain ⟨v3, e3, hf⟩ := pb_rd (rd_gI _ _ _) hf
    refine r_gI C hW e3 flX10_397 rfl dX10_type_20 ?_
    refine lv_bipush (v := 120) hx hb dX10_type_23 (by decide) ?_
    refine lv_icmp_ne (tgt := 35) hx hb dX10_type_25 (by decide) (fun c4 => ?_) (fun c4 => ?_)
    · rw [if_neg c4] at hf
      refine lv_aload_n hx hb dX10_type_35 rfl (lv_at hl 0 rfl) ?_
      obtain ⟨v5, e5, hf⟩ := pb_rd (rd_gA _ _ _) hf
      refine r_gA C hW e5 flX10_117 rfl dX10_type_36 ?_
      refine lv_aload_n hx hb dX10_type_39 rfl (lv_at hl 0 rfl) ?_
      obtain ⟨v6, e6, hf⟩ := pb_rd (rd_gI _ _ _) hf
      refine r_gI C hW e6 flX10_397 rfl dX10_type_40 ?_
      refine lv_iload_n hx hb dX10_type_43 rfl (lv_at hl 1 rfl) ?_
      obtain ⟨_, h7, e7, hf⟩ := pb_some hf
      refine r_iast C hW e7 dX10_type_44 (fun H locs hW => ?_)
      refine lv_aload_n hx hb dX10_type_45 rfl (lv_at hl 0 rfl) ?_
      refine lv_dup hx hb dX10_type_46 rfl ?_
      obtain ⟨v8, e8, hf⟩ := pb_rd (rd_gI _ _ _) hf
      refine r_gI C hW e8 flX10_397 rfl dX10_type_47 ?_
      refine lv_iconst (v := 1) hx hb dX10_type_50 (by decide) ?_
      refine lv_iadd hx hb dX10_type_51 ?_
      obtain ⟨_, h9, e9, hf⟩ := pb_some hf
      refine r_sI C hW e9 flX10_397 (Or.inl rfl) rfl dX10_type_52 (fun H locs hW => ?_)
      refine lv_aload_n hx hb dX10_type_55 rfl (lv_at hl 0 rfl) ?_
      obtain ⟨v10, e10, hf⟩ := pb_rd (rd_gI _ _ _) hf
      refine r_gI C hW e10 flX10_397 rfl dX10_type_56 ?_
      obtain ⟨rfl, rfl⟩ := pp_some hf
      exact r_iret C hW dX10_type_59
    · rw [if_pos c4] at hf
      refine lv_aload_n hx hb dX10_type_28 rfl (lv_at hl 0 rfl) ?_
      refine lv_bipush (v := -4) hx hb dX10_type_29 (by decide) ?_
      obtain ⟨v11, h11, e11, hf⟩ := pb_some hf
      obtain ⟨_, _, t12⟩ := tgX10_refuses e11
      refine r_calli hW (pext e11) (run_V (b := x0) (As := [.int (-4 : Int32)]) (rest := []) C hW (metX10_refuses l G ρ e11) ⟨rfl, rfl⟩ kcX10_refuses (tq q_837 rfl) kiX10_refuses ksX10_refuses knX10_refuses kdX10_refuses t12 rfl rfl ⟨Nat.le_of_ble_eq_true rfl, Nat.le_of_ble_eq_true rfl⟩ hl.1 (Nat.le_of_ble_eq_true rfl) (room_of hW (pext e11) ((pext hf).tr hX)) dX10_type_31 rfl) (fun H locs c1 s1 hW => ?_)
      obtain ⟨rfl, rfl⟩ := pp_some hf
      exact r_iret C hW dX10_type_34
  · rw [if_pos c2] at hf
    refine lv_aload_n hx hb dX10_type_12 rfl (lv_at hl 0 rfl) ?_
    refine lv_bipush (v := -2) hx hb dX10_type_13 (by decide) ?_
    obtain ⟨v13, h13, e13, hf⟩ := pb_some hf
    obtain ⟨_, _, t14⟩ := tgX10_refuses e13
    refine r_calli hW (pext e13) (run_V (b := x0) (As := [.int (-2 : Int32)]) (rest := []) C hW (metX10_refuses l G ρ e13) ⟨rfl, rfl⟩ kcX10_refuses (tq q_837 rfl) kiX10_refuses ksX10_refuses knX10_refuses kdX10_refuses t14 rfl rfl ⟨Nat.le_of_ble_eq_true rfl, Nat.le_of_ble_eq_true rfl⟩ hl.1 (Nat.le_of_ble_eq_true rfl) (room_of hW (pext e13) ((pext hf).tr hX)) dX10_type_15 rfl) (fun H locs c1 s1 hW => ?_)
    obtain ⟨rfl, rfl⟩ := pp_some hf
    exact r_iret C hW dX10_type_18

theorem dX10_clear_0 : decode cX10_clear 0 = .ok (.aload_n 0, 1) := by decide +kernel
theorem dX10_clear_1 : decode cX10_clear 1 = .ok (.getfield 397, 3) := by decide +kernel
theorem dX10_clear_4 : decode cX10_clear 4 = .ok (.istore_n 1, 1) := by decide +kernel
theorem dX10_clear_5 : decode cX10_clear 5 = .ok (.aload_n 0, 1) := by decide +kernel
theorem dX10_clear_6 : decode cX10_clear 6 = .ok (.iconst 0, 1) := by decide +kernel
theorem dX10_clear_7 : decode cX10_clear 7 = .ok (.putfield 397, 3) := by decide +kernel
theorem dX10_clear_10 : decode cX10_clear 10 = .ok (.iload_n 1, 1) := by decide +kernel
theorem dX10_clear_11 : decode cX10_clear 11 = .ok (.ireturn, 1) := by decide +kernel
theorem kcX10_clear : Cond.code yX10_clear cX10_clear 2 (some .int) ∈ tb := tq q_1163 rfl
theorem knX10_clear : Cond.initialized yX10_clear.cls ∈ tb := (tq q_10 rfl)
theorem kdX10_clear : yX10_clear.cls ≠ "java/lang/invoke/MethodHandle" ∧ yX10_clear.cls ≠ "java/lang/invoke/VarHandle" ∧ (parseMethodDescriptor yX10_clear.desc).map (fun d => d.parameters.length) = some 0 := ⟨by decide +kernel, by decide +kernel, by decide +kernel⟩
theorem kiX10_clear : Cond.instanceMethod yX10_clear ∈ tb := (tq q_1161 rfl)
theorem ksX10_clear : Cond.selects yX10_clear.cls yX10_clear yX10_clear ∈ tb := (tq q_1162 rfl)
theorem tgX10_clear {x0 : Nat} {h : PH} {r : Int32 × PH} (hf : (fX10_clear x0).1 h = some r) : ∃ n x, nth h x0 = some (9, n, x) := by
  obtain ⟨_, _, e, _⟩ := pb_some hf
  exact (chk_some e).2
set_option maxHeartbeats 4000000 in
set_option maxRecDepth 100000 in
theorem metX10_clear (l : Launch) (G : GG) (ρ : Nat → Nat) {z : Nat} {x0 : Nat} {h hE : PH} {v : Int32} (hf : (fX10_clear x0).1 h = some (v, hE)) : Met l yX10_clear (wsY yX10_clear cX10_clear 2 (some .int)) (RM 0 0 h hE) (va_Pc [.ref (ρ x0)] (PcB G ρ h z)) (QI G ρ v hE h.length z) (DC h hE) (DS h hE) (Af ρ h.length z) := by
  refine met_start (by decide) (Nat.le_of_ble_eq_true rfl) ?_
  intro p e s m below meth c ls hz C hW hl
  subst hz
  have C : Cx G "PairSymbolsModel" cX10_clear 2 (some .int) "clea\x72" p s m _ meth c := C
  have hx := C.1
  have hb := C.2.1
  have hX : Ext hE hE := Ext.rf hE
  have hl : lv_has ls 2 [(0, .ref (ρ x0))] := hl
  have hW : Wd G ρ h.length (sl h) s.heap h s.heap [] 0 0 := hW
  unfold fX10_clear at hf
  obtain ⟨_, e0, hf⟩ := pb_rd (rd_chk _ _) hf
  refine lv_aload_n hx hb dX10_clear_0 rfl (lv_at hl 0 rfl) ?_
  obtain ⟨v1, e1, hf⟩ := pb_rd (rd_gI _ _ _) hf
  refine r_gI C hW e1 flX10_397 rfl dX10_clear_1 ?_
  refine lv_istore_n (lv' := [(1, .int v1), (0, .ref (ρ x0))]) hx hb dX10_clear_4 rfl hl (by decide) rfl (fun ls hl => ?_)
  refine lv_aload_n hx hb dX10_clear_5 rfl (lv_at hl 1 rfl) ?_
  refine lv_iconst (v := 0) hx hb dX10_clear_6 (by decide) ?_
  obtain ⟨_, h2, e2, hf⟩ := pb_some hf
  refine r_sI C hW e2 flX10_397 (Or.inl rfl) rfl dX10_clear_7 (fun H locs hW => ?_)
  refine lv_iload_n hx hb dX10_clear_10 rfl (lv_at hl 0 rfl) ?_
  obtain ⟨rfl, rfl⟩ := pp_some hf
  exact r_iret C hW dX10_clear_11

theorem dX10_here_0 : decode cX10_here 0 = .ok (.aload_n 0, 1) := by decide +kernel
theorem dX10_here_1 : decode cX10_here 1 = .ok (.getfield 400, 3) := by decide +kernel
theorem dX10_here_4 : decode cX10_here 4 = .ok (.aload_n 0, 1) := by decide +kernel
theorem dX10_here_5 : decode cX10_here 5 = .ok (.getfield 397, 3) := by decide +kernel
theorem dX10_here_8 : decode cX10_here 8 = .ok (.if_icmp .ge 30, 3) := by decide +kernel
theorem dX10_here_11 : decode cX10_here 11 = .ok (.aload_n 0, 1) := by decide +kernel
theorem dX10_here_12 : decode cX10_here 12 = .ok (.getfield 117, 3) := by decide +kernel
theorem dX10_here_15 : decode cX10_here 15 = .ok (.aload_n 0, 1) := by decide +kernel
theorem dX10_here_16 : decode cX10_here 16 = .ok (.getfield 400, 3) := by decide +kernel
theorem dX10_here_19 : decode cX10_here 19 = .ok (.iaload, 1) := by decide +kernel
theorem dX10_here_20 : decode cX10_here 20 = .ok (.bipush 32, 2) := by decide +kernel
theorem dX10_here_22 : decode cX10_here 22 = .ok (.if_icmp .ne 16, 3) := by decide +kernel
theorem dX10_here_25 : decode cX10_here 25 = .ok (.aload_n 0, 1) := by decide +kernel
theorem dX10_here_26 : decode cX10_here 26 = .ok (.dup, 1) := by decide +kernel
theorem dX10_here_27 : decode cX10_here 27 = .ok (.getfield 400, 3) := by decide +kernel
theorem dX10_here_30 : decode cX10_here 30 = .ok (.iconst 1, 1) := by decide +kernel
theorem dX10_here_31 : decode cX10_here 31 = .ok (.iadd, 1) := by decide +kernel
theorem dX10_here_32 : decode cX10_here 32 = .ok (.putfield 400, 3) := by decide +kernel
theorem dX10_here_35 : decode cX10_here 35 = .ok (.goto (-35), 3) := by decide +kernel
theorem dX10_here_38 : decode cX10_here 38 = .ok (.aload_n 0, 1) := by decide +kernel
theorem dX10_here_39 : decode cX10_here 39 = .ok (.getfield 400, 3) := by decide +kernel
theorem dX10_here_42 : decode cX10_here 42 = .ok (.aload_n 0, 1) := by decide +kernel
theorem dX10_here_43 : decode cX10_here 43 = .ok (.getfield 397, 3) := by decide +kernel
theorem dX10_here_46 : decode cX10_here 46 = .ok (.if_icmp .ge 15, 3) := by decide +kernel
theorem dX10_here_49 : decode cX10_here 49 = .ok (.aload_n 0, 1) := by decide +kernel
theorem dX10_here_50 : decode cX10_here 50 = .ok (.getfield 117, 3) := by decide +kernel
theorem dX10_here_53 : decode cX10_here 53 = .ok (.aload_n 0, 1) := by decide +kernel
theorem dX10_here_54 : decode cX10_here 54 = .ok (.getfield 400, 3) := by decide +kernel
theorem dX10_here_57 : decode cX10_here 57 = .ok (.iaload, 1) := by decide +kernel
theorem dX10_here_58 : decode cX10_here 58 = .ok (.goto 4, 3) := by decide +kernel
theorem dX10_here_61 : decode cX10_here 61 = .ok (.iconst (-1), 1) := by decide +kernel
theorem dX10_here_62 : decode cX10_here 62 = .ok (.ireturn, 1) := by decide +kernel
theorem kcX10_here : Cond.code yX10_here cX10_here 1 (some .int) ∈ tb := tq q_1175 rfl
theorem knX10_here : Cond.initialized yX10_here.cls ∈ tb := (tq q_10 rfl)
theorem kdX10_here : yX10_here.cls ≠ "java/lang/invoke/MethodHandle" ∧ yX10_here.cls ≠ "java/lang/invoke/VarHandle" ∧ (parseMethodDescriptor yX10_here.desc).map (fun d => d.parameters.length) = some 0 := ⟨by decide +kernel, by decide +kernel, by decide +kernel⟩
theorem kiX10_here : Cond.instanceMethod yX10_here ∈ tb := (tq q_1174 rfl)
theorem ksX10_here : Cond.selects yX10_here.cls yX10_here yX10_here ∈ tb := (tq z_80 rfl)
theorem tgX10_here {x0 : Nat} {h : PH} {r : Int32 × PH} (hf : (fX10_here x0).1 h = some r) : ∃ n x, nth h x0 = some (9, n, x) := by
  obtain ⟨_, _, e, _⟩ := pb_some hf
  exact (chk_some e).2
set_option maxHeartbeats 4000000 in
set_option maxRecDepth 100000 in
theorem wX10_here_B0 {p : Program} {l : Launch} {e : Env} {s : State} {m : MethodId} {args : Array Value} {below : List Frame} {meth : Method} {c : Code} {G : GG} {ρ : Nat → Nat} {h0 hE hB : PH} {Q : State → Prop} {x0 : Nat} (C : Cx G "PairSymbolsModel" cX10_here 1 (some .int) "here" p s m args meth c)  {h : PH} {H : Heap} {locs : List Loc} {cells slots : Nat} {ls : Array Slot} {r : (Unit) ⊕ (Unit)} (hf : (fX10_here_b0 x0 ).1 h = some (r, hB)) (hX : Ext hB hE) (hW : Wd G ρ h0.length (sl h0) s.heap h H locs cells slots) (hl : lv_has ls 1 [(0, .ref (ρ x0))]) (kc : ∀ y : Unit, r = .inl y → ∀ (H : Heap) (locs : List Loc) (c1 s1 : Nat) (ls : Array Slot), Wd G ρ h0.length (sl h0) s.heap hB H locs c1 s1 → lv_has ls 1 [(0, .ref (ρ x0))] → W p l e (RM 0 0 h0 hE) s m args below meth c H locs c1 s1 Q (F0 m 0 ls [])) (ke : ∀ z : Unit, r = .inr z → ∀ (H : Heap) (locs : List Loc) (c1 s1 : Nat) (ls : Array Slot), Wd G ρ h0.length (sl h0) s.heap hB H locs c1 s1 → lv_has ls 1 [(0, .ref (ρ x0))] → W p l e (RM 0 0 h0 hE) s m args below meth c H locs c1 s1 Q (F0 m 38 ls [])) : W p l e (RM 0 0 h0 hE) s m args below meth c H locs cells slots Q (F0 m 0 ls []) := by
  have hx := C.1
  have hb := C.2.1
  unfold fX10_here_b0 at hf
  refine lv_aload_n hx hb dX10_here_0 rfl (lv_at hl 0 rfl) ?_
  obtain ⟨v1, e1, hf⟩ := pb_rd (rd_gI _ _ _) hf
  refine r_gI C hW e1 flX10_400 rfl dX10_here_1 ?_
  refine lv_aload_n hx hb dX10_here_4 rfl (lv_at hl 0 rfl) ?_
  obtain ⟨v2, e2, hf⟩ := pb_rd (rd_gI _ _ _) hf
  refine r_gI C hW e2 flX10_397 rfl dX10_here_5 ?_
  refine lv_icmp_ge (tgt := 38) hx hb dX10_here_8 (by decide) (fun c3 => ?_) (fun c3 => ?_)
  · rw [if_pos c3] at hf
    obtain ⟨rfl, rfl⟩ := pp_some hf
    exact ke _ rfl _ _ _ _ _ hW (lv_sub hl [0] rfl)
  · rw [if_neg c3] at hf
    refine lv_aload_n hx hb dX10_here_11 rfl (lv_at hl 0 rfl) ?_
    obtain ⟨v4, e4, hf⟩ := pb_rd (rd_gA _ _ _) hf
    refine r_gA C hW e4 flX10_117 rfl dX10_here_12 ?_
    refine lv_aload_n hx hb dX10_here_15 rfl (lv_at hl 0 rfl) ?_
    obtain ⟨v5, e5, hf⟩ := pb_rd (rd_gI _ _ _) hf
    refine r_gI C hW e5 flX10_400 rfl dX10_here_16 ?_
    obtain ⟨v6, e6, hf⟩ := pb_rd (rd_lI _ _ _) hf
    refine r_iald C hW e6 dX10_here_19 ?_
    refine lv_bipush (v := 32) hx hb dX10_here_20 (by decide) ?_
    refine lv_icmp_ne (tgt := 38) hx hb dX10_here_22 (by decide) (fun c7 => ?_) (fun c7 => ?_)
    · rw [if_neg c7] at hf
      obtain ⟨rfl, rfl⟩ := pp_some hf
      exact ke _ rfl _ _ _ _ _ hW (lv_sub hl [0] rfl)
    · rw [if_pos c7] at hf
      refine lv_aload_n hx hb dX10_here_25 rfl (lv_at hl 0 rfl) ?_
      refine lv_dup hx hb dX10_here_26 rfl ?_
      obtain ⟨v8, e8, hf⟩ := pb_rd (rd_gI _ _ _) hf
      refine r_gI C hW e8 flX10_400 rfl dX10_here_27 ?_
      refine lv_iconst (v := 1) hx hb dX10_here_30 (by decide) ?_
      refine lv_iadd hx hb dX10_here_31 ?_
      obtain ⟨_, h9, e9, hf⟩ := pb_some hf
      refine r_sI C hW e9 flX10_400 (Or.inl rfl) rfl dX10_here_32 (fun H locs hW => ?_)
      refine lv_goto (tgt := 0) hx hb dX10_here_35 (by decide) ?_
      obtain ⟨rfl, rfl⟩ := pp_some hf
      exact kc _ rfl _ _ _ _ _ hW (lv_sub hl [0] rfl)
set_option maxHeartbeats 4000000 in
theorem wX10_here_L0 {p : Program} {l : Launch} {e : Env} {s : State} {m : MethodId} {args : Array Value} {below : List Frame} {meth : Method} {c : Code} {G : GG} {ρ : Nat → Nat} {h0 hE hB : PH} {Q : State → Prop} {x0 : Nat} (C : Cx G "PairSymbolsModel" cX10_here 1 (some .int) "here" p s m args meth c) {z : (Unit)} (n : Nat) : ∀ (x : Unit) {h : PH} {H : Heap} {locs : List Loc} {cells slots : Nat} {ls : Array Slot}, (plo (fX10_here_B0 x0) n x).1 h = some (z, hB) → Ext hB hE → Wd G ρ h0.length (sl h0) s.heap h H locs cells slots → lv_has ls 1 [(0, .ref (ρ x0))] → (ke : ∀ (H : Heap) (locs : List Loc) (c1 s1 : Nat) (ls : Array Slot), Wd G ρ h0.length (sl h0) s.heap hB H locs c1 s1 → lv_has ls 1 [(0, .ref (ρ x0))] → W p l e (RM 0 0 h0 hE) s m args below meth c H locs c1 s1 Q (F0 m 38 ls [])) → W p l e (RM 0 0 h0 hE) s m args below meth c H locs cells slots Q (F0 m 0 ls []) := by
  induction n with
  | zero =>
    intro x h H locs cells slots ls hf
    rw [plo_0] at hf
    exact (pf_no hf).elim
  | succ n ih =>
    intro x h H locs cells slots ls hf hX hW hl ke
    rw [plo_s] at hf
    obtain ⟨r, h1, e1, hf⟩ := pb_some hf
    refine wX10_here_B0 C e1 ((pext hf).tr hX) hW hl (fun y hr H locs c1 s1 ls hW hl => ?_) (fun y hr H locs c1 s1 ls hW hl => ?_)
    · subst hr
      exact ih y hf hX hW hl ke
    · subst hr
      obtain ⟨rfl, rfl⟩ := pp_some hf
      exact ke H locs c1 s1 ls hW hl
set_option maxHeartbeats 4000000 in
set_option maxRecDepth 100000 in
theorem metX10_here (l : Launch) (G : GG) (ρ : Nat → Nat) {z : Nat} {x0 : Nat} {h hE : PH} {v : Int32} (hf : (fX10_here x0).1 h = some (v, hE)) : Met l yX10_here (wsY yX10_here cX10_here 1 (some .int)) (RM 0 0 h hE) (va_Pc [.ref (ρ x0)] (PcB G ρ h z)) (QI G ρ v hE h.length z) (DC h hE) (DS h hE) (Af ρ h.length z) := by
  refine met_start (by decide) (Nat.le_of_ble_eq_true rfl) ?_
  intro p e s m below meth c ls hz C hW hl
  subst hz
  have C : Cx G "PairSymbolsModel" cX10_here 1 (some .int) "here" p s m _ meth c := C
  have hx := C.1
  have hb := C.2.1
  have hX : Ext hE hE := Ext.rf hE
  have hl : lv_has ls 1 [(0, .ref (ρ x0))] := hl
  have hW : Wd G ρ h.length (sl h) s.heap h s.heap [] 0 0 := hW
  unfold fX10_here at hf
  obtain ⟨_, e0, hf⟩ := pb_rd (rd_chk _ _) hf
  obtain ⟨z10, h10, e10, hf⟩ := pb_some hf
  refine wX10_here_L0 C fu _ e10 ((pext hf).tr hX) hW (lv_sub hl [0] rfl) (fun H locs c1 s1 ls hW hl => ?_)
  refine lv_aload_n hx hb dX10_here_38 rfl (lv_at hl 0 rfl) ?_
  obtain ⟨v11, e11, hf⟩ := pb_rd (rd_gI _ _ _) hf
  refine r_gI C hW e11 flX10_400 rfl dX10_here_39 ?_
  refine lv_aload_n hx hb dX10_here_42 rfl (lv_at hl 0 rfl) ?_
  obtain ⟨v12, e12, hf⟩ := pb_rd (rd_gI _ _ _) hf
  refine r_gI C hW e12 flX10_397 rfl dX10_here_43 ?_
  refine lv_icmp_ge (tgt := 61) hx hb dX10_here_46 (by decide) (fun c13 => ?_) (fun c13 => ?_)
  · rw [if_pos c13] at hf
    refine lv_iconst (v := -1) hx hb dX10_here_61 (by decide) ?_
    obtain ⟨rfl, rfl⟩ := pp_some hf
    exact r_iret C hW dX10_here_62
  · rw [if_neg c13] at hf
    refine lv_aload_n hx hb dX10_here_49 rfl (lv_at hl 0 rfl) ?_
    obtain ⟨v14, e14, hf⟩ := pb_rd (rd_gA _ _ _) hf
    refine r_gA C hW e14 flX10_117 rfl dX10_here_50 ?_
    refine lv_aload_n hx hb dX10_here_53 rfl (lv_at hl 0 rfl) ?_
    obtain ⟨v15, e15, hf⟩ := pb_rd (rd_gI _ _ _) hf
    refine r_gI C hW e15 flX10_400 rfl dX10_here_54 ?_
    obtain ⟨v16, e16, hf⟩ := pb_rd (rd_lI _ _ _) hf
    refine r_iald C hW e16 dX10_here_57 ?_
    refine lv_goto (tgt := 62) hx hb dX10_here_58 (by decide) ?_
    obtain ⟨rfl, rfl⟩ := pp_some hf
    exact r_iret C hW dX10_here_62

theorem dX10_isFigure_0 : decode cX10_isFigure 0 = .ok (.iload_n 1, 1) := by decide +kernel
theorem dX10_isFigure_1 : decode cX10_isFigure 1 = .ok (.aload_n 0, 1) := by decide +kernel
theorem dX10_isFigure_2 : decode cX10_isFigure 2 = .ok (.getfield 397, 3) := by decide +kernel
theorem dX10_isFigure_5 : decode cX10_isFigure 5 = .ok (.if_icmp .ge 26, 3) := by decide +kernel
theorem dX10_isFigure_8 : decode cX10_isFigure 8 = .ok (.aload_n 0, 1) := by decide +kernel
theorem dX10_isFigure_9 : decode cX10_isFigure 9 = .ok (.getfield 117, 3) := by decide +kernel
theorem dX10_isFigure_12 : decode cX10_isFigure 12 = .ok (.iload_n 1, 1) := by decide +kernel
theorem dX10_isFigure_13 : decode cX10_isFigure 13 = .ok (.iaload, 1) := by decide +kernel
theorem dX10_isFigure_14 : decode cX10_isFigure 14 = .ok (.i2l, 1) := by decide +kernel
theorem dX10_isFigure_15 : decode cX10_isFigure 15 = .ok (.ldc2_w 403, 3) := by decide +kernel
theorem dX10_isFigure_18 : decode cX10_isFigure 18 = .ok (.ldc2_w 405, 3) := by decide +kernel
theorem dX10_isFigure_21 : decode cX10_isFigure 21 = .ok (.invokestatic 236, 3) := by decide +kernel
theorem dX10_isFigure_24 : decode cX10_isFigure 24 = .ok (.ifCond .eq 7, 3) := by decide +kernel
theorem dX10_isFigure_27 : decode cX10_isFigure 27 = .ok (.iconst 1, 1) := by decide +kernel
theorem dX10_isFigure_28 : decode cX10_isFigure 28 = .ok (.goto 4, 3) := by decide +kernel
theorem dX10_isFigure_31 : decode cX10_isFigure 31 = .ok (.iconst 0, 1) := by decide +kernel
theorem dX10_isFigure_32 : decode cX10_isFigure 32 = .ok (.ireturn, 1) := by decide +kernel
theorem kcX10_isFigure : Cond.code yX10_isFigure cX10_isFigure 2 (some .boolean) ∈ tb := tq q_1187 rfl
theorem knX10_isFigure : Cond.initialized yX10_isFigure.cls ∈ tb := (tq q_10 rfl)
theorem kdX10_isFigure : yX10_isFigure.cls ≠ "java/lang/invoke/MethodHandle" ∧ yX10_isFigure.cls ≠ "java/lang/invoke/VarHandle" ∧ (parseMethodDescriptor yX10_isFigure.desc).map (fun d => d.parameters.length) = some 1 := ⟨by decide +kernel, by decide +kernel, by decide +kernel⟩
theorem kiX10_isFigure : Cond.instanceMethod yX10_isFigure ∈ tb := (tq q_1186 rfl)
theorem ksX10_isFigure : Cond.selects yX10_isFigure.cls yX10_isFigure yX10_isFigure ∈ tb := (tq z_83 rfl)
theorem tgX10_isFigure {x0 : Nat} {x1 : Int32} {h : PH} {r : Int32 × PH} (hf : (fX10_isFigure x0 x1).1 h = some r) : ∃ n x, nth h x0 = some (9, n, x) := by
  obtain ⟨_, _, e, _⟩ := pb_some hf
  exact (chk_some e).2
set_option maxHeartbeats 4000000 in
set_option maxRecDepth 100000 in
theorem metX10_isFigure (l : Launch) (G : GG) (ρ : Nat → Nat) {z : Nat} {x0 : Nat} {x1 : Int32} {h hE : PH} {v : Int32} (hf : (fX10_isFigure x0 x1).1 h = some (v, hE)) : Met l yX10_isFigure (wsY yX10_isFigure cX10_isFigure 2 (some .boolean)) (RM 1 25 h hE) (va_Pc [.ref (ρ x0), .int x1] (PcB G ρ h z)) (QI G ρ v hE h.length z) (DC h hE) (DS h hE) (Af ρ h.length z) := by
  refine met_start (by decide) (Nat.le_of_ble_eq_true rfl) ?_
  intro p e s m below meth c ls hz C hW hl
  subst hz
  have C : Cx G "PairSymbolsModel" cX10_isFigure 2 (some .boolean) "isFigure" p s m _ meth c := C
  have hx := C.1
  have hb := C.2.1
  have hX : Ext hE hE := Ext.rf hE
  have hl : lv_has ls 2 [(0, .ref (ρ x0)), (1, .int x1)] := hl
  have hW : Wd G ρ h.length (sl h) s.heap h s.heap [] 0 0 := hW
  unfold fX10_isFigure at hf
  obtain ⟨_, e0, hf⟩ := pb_rd (rd_chk _ _) hf
  refine lv_iload_n hx hb dX10_isFigure_0 rfl (lv_at hl 1 rfl) ?_
  refine lv_aload_n hx hb dX10_isFigure_1 rfl (lv_at hl 0 rfl) ?_
  obtain ⟨v1, e1, hf⟩ := pb_rd (rd_gI _ _ _) hf
  refine r_gI C hW e1 flX10_397 rfl dX10_isFigure_2 ?_
  refine lv_icmp_ge (tgt := 31) hx hb dX10_isFigure_5 (by decide) (fun c2 => ?_) (fun c2 => ?_)
  · rw [if_pos c2] at hf
    refine lv_iconst (v := 0) hx hb dX10_isFigure_31 (by decide) ?_
    obtain ⟨rfl, rfl⟩ := pp_some hf
    exact r_zret C hW rfl dX10_isFigure_32
  · rw [if_neg c2] at hf
    refine lv_aload_n hx hb dX10_isFigure_8 rfl (lv_at hl 0 rfl) ?_
    obtain ⟨v3, e3, hf⟩ := pb_rd (rd_gA _ _ _) hf
    refine r_gA C hW e3 flX10_117 rfl dX10_isFigure_9 ?_
    refine lv_iload_n hx hb dX10_isFigure_12 rfl (lv_at hl 1 rfl) ?_
    obtain ⟨v4, e4, hf⟩ := pb_rd (rd_lI _ _ _) hf
    refine r_iald C hW e4 dX10_isFigure_13 ?_
    refine lv_i2l (v := v4.toInt64) hx hb dX10_isFigure_14 rfl ?_
    refine r_ldc2 (v := 48) C (tq q_1188 rfl) dX10_isFigure_15 ?_
    refine r_ldc2 (v := 57) C (tq q_1189 rfl) dX10_isFigure_18 ?_
    obtain ⟨v5, h5, e5, hf⟩ := pb_some hf
    refine r_calli hW (pext e5) (run_S (As := [.long v4.toInt64, .long (48 : Int64), .long (57 : Int64)]) (rest := []) C hW (metX10_in l G ρ e5) ⟨rfl, rfl⟩ kcX10_in (tq q_834 rfl) kiX10_in knX10_in kdX10_in ⟨Nat.le_of_ble_eq_true rfl, Nat.le_of_ble_eq_true rfl⟩ hl.1 (Nat.le_of_ble_eq_true rfl) (room_of hW (pext e5) ((pext hf).tr hX)) dX10_isFigure_21 rfl) (fun H locs c1 s1 hW => ?_)
    refine lv_if_eq (tgt := 31) hx hb dX10_isFigure_24 (by decide) (fun c6 => ?_) (fun c6 => ?_)
    · rw [if_pos c6] at hf
      refine lv_iconst (v := 0) hx hb dX10_isFigure_31 (by decide) ?_
      obtain ⟨rfl, rfl⟩ := pp_some hf
      exact r_zret C hW rfl dX10_isFigure_32
    · rw [if_neg c6] at hf
      refine lv_iconst (v := 1) hx hb dX10_isFigure_27 (by decide) ?_
      refine lv_goto (tgt := 32) hx hb dX10_isFigure_28 (by decide) ?_
      obtain ⟨rfl, rfl⟩ := pp_some hf
      exact r_zret C hW rfl dX10_isFigure_32
