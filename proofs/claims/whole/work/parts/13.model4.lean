theorem flX10_293 : FL "PairSymbolsModel" 293 9 35 false := ⟨_, CT9, by decide, (tq q_710 rfl), rfl, fun _ => Or.inr trivial⟩
theorem dX10_addsImage_0 : decode cX10_addsImage 0 = .ok (.iconst 0, 1) := by decide +kernel
theorem dX10_addsImage_1 : decode cX10_addsImage 1 = .ok (.istore_n 2, 1) := by decide +kernel
theorem dX10_addsImage_2 : decode cX10_addsImage 2 = .ok (.iload_n 2, 1) := by decide +kernel
theorem dX10_addsImage_3 : decode cX10_addsImage 3 = .ok (.aload_n 0, 1) := by decide +kernel
theorem dX10_addsImage_4 : decode cX10_addsImage 4 = .ok (.getfield 192, 3) := by decide +kernel
theorem dX10_addsImage_7 : decode cX10_addsImage 7 = .ok (.if_icmp .ge 72, 3) := by decide +kernel
theorem dX10_addsImage_10 : decode cX10_addsImage 10 = .ok (.iload_n 1, 1) := by decide +kernel
theorem dX10_addsImage_11 : decode cX10_addsImage 11 = .ok (.iconst (-1), 1) := by decide +kernel
theorem dX10_addsImage_12 : decode cX10_addsImage 12 = .ok (.if_icmp .eq 67, 3) := by decide +kernel
theorem dX10_addsImage_15 : decode cX10_addsImage 15 = .ok (.aload_n 0, 1) := by decide +kernel
theorem dX10_addsImage_16 : decode cX10_addsImage 16 = .ok (.aload_n 0, 1) := by decide +kernel
theorem dX10_addsImage_17 : decode cX10_addsImage 17 = .ok (.getfield 81, 3) := by decide +kernel
theorem dX10_addsImage_20 : decode cX10_addsImage 20 = .ok (.iload_n 2, 1) := by decide +kernel
theorem dX10_addsImage_21 : decode cX10_addsImage 21 = .ok (.laload, 1) := by decide +kernel
theorem dX10_addsImage_22 : decode cX10_addsImage 22 = .ok (.aload_n 0, 1) := by decide +kernel
theorem dX10_addsImage_23 : decode cX10_addsImage 23 = .ok (.getfield 84, 3) := by decide +kernel
theorem dX10_addsImage_26 : decode cX10_addsImage 26 = .ok (.iload_n 2, 1) := by decide +kernel
theorem dX10_addsImage_27 : decode cX10_addsImage 27 = .ok (.laload, 1) := by decide +kernel
theorem dX10_addsImage_28 : decode cX10_addsImage 28 = .ok (.aload_n 0, 1) := by decide +kernel
theorem dX10_addsImage_29 : decode cX10_addsImage 29 = .ok (.getfield 51, 3) := by decide +kernel
theorem dX10_addsImage_32 : decode cX10_addsImage 32 = .ok (.bipush 16, 2) := by decide +kernel
theorem dX10_addsImage_34 : decode cX10_addsImage 34 = .ok (.iload_n 1, 1) := by decide +kernel
theorem dX10_addsImage_35 : decode cX10_addsImage 35 = .ok (.imul, 1) := by decide +kernel
theorem dX10_addsImage_36 : decode cX10_addsImage 36 = .ok (.iload_n 2, 1) := by decide +kernel
theorem dX10_addsImage_37 : decode cX10_addsImage 37 = .ok (.iadd, 1) := by decide +kernel
theorem dX10_addsImage_38 : decode cX10_addsImage 38 = .ok (.laload, 1) := by decide +kernel
theorem dX10_addsImage_39 : decode cX10_addsImage 39 = .ok (.aload_n 0, 1) := by decide +kernel
theorem dX10_addsImage_40 : decode cX10_addsImage 40 = .ok (.getfield 54, 3) := by decide +kernel
theorem dX10_addsImage_43 : decode cX10_addsImage 43 = .ok (.bipush 16, 2) := by decide +kernel
theorem dX10_addsImage_45 : decode cX10_addsImage 45 = .ok (.iload_n 1, 1) := by decide +kernel
theorem dX10_addsImage_46 : decode cX10_addsImage 46 = .ok (.imul, 1) := by decide +kernel
theorem dX10_addsImage_47 : decode cX10_addsImage 47 = .ok (.iload_n 2, 1) := by decide +kernel
theorem dX10_addsImage_48 : decode cX10_addsImage 48 = .ok (.iadd, 1) := by decide +kernel
theorem dX10_addsImage_49 : decode cX10_addsImage 49 = .ok (.laload, 1) := by decide +kernel
theorem dX10_addsImage_50 : decode cX10_addsImage 50 = .ok (.invokevirtual 144, 3) := by decide +kernel
theorem dX10_addsImage_53 : decode cX10_addsImage 53 = .ok (.aload_n 0, 1) := by decide +kernel
theorem dX10_addsImage_54 : decode cX10_addsImage 54 = .ok (.getfield 81, 3) := by decide +kernel
theorem dX10_addsImage_57 : decode cX10_addsImage 57 = .ok (.iload_n 2, 1) := by decide +kernel
theorem dX10_addsImage_58 : decode cX10_addsImage 58 = .ok (.aload_n 0, 1) := by decide +kernel
theorem dX10_addsImage_59 : decode cX10_addsImage 59 = .ok (.getfield 133, 3) := by decide +kernel
theorem dX10_addsImage_62 : decode cX10_addsImage 62 = .ok (.lastore, 1) := by decide +kernel
theorem dX10_addsImage_63 : decode cX10_addsImage 63 = .ok (.aload_n 0, 1) := by decide +kernel
theorem dX10_addsImage_64 : decode cX10_addsImage 64 = .ok (.getfield 84, 3) := by decide +kernel
theorem dX10_addsImage_67 : decode cX10_addsImage 67 = .ok (.iload_n 2, 1) := by decide +kernel
theorem dX10_addsImage_68 : decode cX10_addsImage 68 = .ok (.aload_n 0, 1) := by decide +kernel
theorem dX10_addsImage_69 : decode cX10_addsImage 69 = .ok (.getfield 137, 3) := by decide +kernel
theorem dX10_addsImage_72 : decode cX10_addsImage 72 = .ok (.lastore, 1) := by decide +kernel
theorem dX10_addsImage_73 : decode cX10_addsImage 73 = .ok (.iinc 2 1, 3) := by decide +kernel
theorem dX10_addsImage_76 : decode cX10_addsImage 76 = .ok (.goto (-74), 3) := by decide +kernel
theorem dX10_addsImage_79 : decode cX10_addsImage 79 = .ok (.return_, 1) := by decide +kernel
theorem kcX10_addsImage : Cond.code yX10_addsImage cX10_addsImage 3 none ∈ tb := tq q_1015 rfl
theorem knX10_addsImage : Cond.initialized yX10_addsImage.cls ∈ tb := (tq q_10 rfl)
theorem kdX10_addsImage : yX10_addsImage.cls ≠ "java/lang/invoke/MethodHandle" ∧ yX10_addsImage.cls ≠ "java/lang/invoke/VarHandle" ∧ (parseMethodDescriptor yX10_addsImage.desc).map (fun d => d.parameters.length) = some 1 := ⟨by decide +kernel, by decide +kernel, by decide +kernel⟩
theorem kiX10_addsImage : Cond.instanceMethod yX10_addsImage ∈ tb := (tq q_1014 rfl)
theorem ksX10_addsImage : Cond.selects yX10_addsImage.cls yX10_addsImage yX10_addsImage ∈ tb := (tq z_60 rfl)
theorem tgX10_addsImage {x0 : Nat} {x1 : Int32} {h : PH} {r : Unit × PH} (hf : (fX10_addsImage x0 x1).1 h = some r) : ∃ n x, nth h x0 = some (9, n, x) := by
  obtain ⟨_, _, e, _⟩ := pb_some hf
  exact (chk_some e).2
set_option maxHeartbeats 4000000 in
set_option maxRecDepth 100000 in
theorem wX10_addsImage_B2 {p : Program} {l : Launch} {e : Env} {s : State} {m : MethodId} {args : Array Value} {below : List Frame} {meth : Method} {c : Code} {G : GG} {ρ : Nat → Nat} {h0 hE hB : PH} {Q : State → Prop} {x0 : Nat} {x1 : Int32} (C : Cx G "PairSymbolsModel" cX10_addsImage 3 none "addsImage" p s m args meth c) {x2 : Int32} {h : PH} {H : Heap} {locs : List Loc} {cells slots : Nat} {ls : Array Slot} {r : (Int32) ⊕ (Unit)} (hf : (fX10_addsImage_b2 x0 x1 x2).1 h = some (r, hB)) (hX : Ext hB hE) (hW : Wd G ρ h0.length (sl h0) s.heap h H locs cells slots) (hl : lv_has ls 3 [(0, .ref (ρ x0)), (1, .int x1), (2, .int x2)]) (kc : ∀ y : Int32, r = .inl y → ∀ (H : Heap) (locs : List Loc) (c1 s1 : Nat) (ls : Array Slot), Wd G ρ h0.length (sl h0) s.heap hB H locs c1 s1 → lv_has ls 3 [(0, .ref (ρ x0)), (1, .int x1), (2, .int y)] → W p l e (RM 3 83 h0 hE) s m args below meth c H locs c1 s1 Q (F0 m 2 ls [])) (ke : ∀ z : Unit, r = .inr z → ∀ (H : Heap) (locs : List Loc) (c1 s1 : Nat) (ls : Array Slot), Wd G ρ h0.length (sl h0) s.heap hB H locs c1 s1 → lv_has ls 3 [] → W p l e (RM 3 83 h0 hE) s m args below meth c H locs c1 s1 Q (F0 m 79 ls [])) : W p l e (RM 3 83 h0 hE) s m args below meth c H locs cells slots Q (F0 m 2 ls []) := by
  have hx := C.1
  have hb := C.2.1
  unfold fX10_addsImage_b2 at hf
  refine lv_iload_n hx hb dX10_addsImage_2 rfl (lv_at hl 2 rfl) ?_
  refine lv_aload_n hx hb dX10_addsImage_3 rfl (lv_at hl 0 rfl) ?_
  obtain ⟨v1, e1, hf⟩ := pb_rd (rd_gI _ _ _) hf
  refine r_gI C hW e1 flX10_192 rfl dX10_addsImage_4 ?_
  refine lv_icmp_ge (tgt := 79) hx hb dX10_addsImage_7 (by decide) (fun c2 => ?_) (fun c2 => ?_)
  · rw [if_pos c2] at hf
    obtain ⟨rfl, rfl⟩ := pp_some hf
    exact ke _ rfl _ _ _ _ _ hW (lv_sub hl [] rfl)
  · rw [if_neg c2] at hf
    refine lv_iload_n hx hb dX10_addsImage_10 rfl (lv_at hl 1 rfl) ?_
    refine lv_iconst (v := -1) hx hb dX10_addsImage_11 (by decide) ?_
    refine lv_icmp_eq (tgt := 79) hx hb dX10_addsImage_12 (by decide) (fun c3 => ?_) (fun c3 => ?_)
    · rw [if_pos c3] at hf
      obtain ⟨rfl, rfl⟩ := pp_some hf
      exact ke _ rfl _ _ _ _ _ hW (lv_sub hl [] rfl)
    · rw [if_neg c3] at hf
      refine lv_aload_n hx hb dX10_addsImage_15 rfl (lv_at hl 0 rfl) ?_
      refine lv_aload_n hx hb dX10_addsImage_16 rfl (lv_at hl 0 rfl) ?_
      obtain ⟨v4, e4, hf⟩ := pb_rd (rd_gA _ _ _) hf
      refine r_gA C hW e4 flX10_81 rfl dX10_addsImage_17 ?_
      refine lv_iload_n hx hb dX10_addsImage_20 rfl (lv_at hl 2 rfl) ?_
      obtain ⟨v5, e5, hf⟩ := pb_rd (rd_lJ _ _ _) hf
      refine r_lald C hW e5 dX10_addsImage_21 ?_
      refine lv_aload_n hx hb dX10_addsImage_22 rfl (lv_at hl 0 rfl) ?_
      obtain ⟨v6, e6, hf⟩ := pb_rd (rd_gA _ _ _) hf
      refine r_gA C hW e6 flX10_84 rfl dX10_addsImage_23 ?_
      refine lv_iload_n hx hb dX10_addsImage_26 rfl (lv_at hl 2 rfl) ?_
      obtain ⟨v7, e7, hf⟩ := pb_rd (rd_lJ _ _ _) hf
      refine r_lald C hW e7 dX10_addsImage_27 ?_
      refine lv_aload_n hx hb dX10_addsImage_28 rfl (lv_at hl 0 rfl) ?_
      obtain ⟨v8, e8, hf⟩ := pb_rd (rd_gA _ _ _) hf
      refine r_gA C hW e8 flX10_51 rfl dX10_addsImage_29 ?_
      refine lv_bipush (v := 16) hx hb dX10_addsImage_32 (by decide) ?_
      refine lv_iload_n hx hb dX10_addsImage_34 rfl (lv_at hl 1 rfl) ?_
      refine lv_imul hx hb dX10_addsImage_35 ?_
      refine lv_iload_n hx hb dX10_addsImage_36 rfl (lv_at hl 2 rfl) ?_
      refine lv_iadd hx hb dX10_addsImage_37 ?_
      obtain ⟨v9, e9, hf⟩ := pb_rd (rd_lJ _ _ _) hf
      refine r_lald C hW e9 dX10_addsImage_38 ?_
      refine lv_aload_n hx hb dX10_addsImage_39 rfl (lv_at hl 0 rfl) ?_
      obtain ⟨v10, e10, hf⟩ := pb_rd (rd_gA _ _ _) hf
      refine r_gA C hW e10 flX10_54 rfl dX10_addsImage_40 ?_
      refine lv_bipush (v := 16) hx hb dX10_addsImage_43 (by decide) ?_
      refine lv_iload_n hx hb dX10_addsImage_45 rfl (lv_at hl 1 rfl) ?_
      refine lv_imul hx hb dX10_addsImage_46 ?_
      refine lv_iload_n hx hb dX10_addsImage_47 rfl (lv_at hl 2 rfl) ?_
      refine lv_iadd hx hb dX10_addsImage_48 ?_
      obtain ⟨v11, e11, hf⟩ := pb_rd (rd_lJ _ _ _) hf
      refine r_lald C hW e11 dX10_addsImage_49 ?_
      obtain ⟨_, h12, e12, hf⟩ := pb_some hf
      obtain ⟨_, _, t13⟩ := tgX10_sumOf e12
      refine r_callv hW (pext e12) (run_V (b := x0) (As := [.long v5, .long v7, .long v9, .long v11]) (rest := []) C hW (metX10_sumOf l G ρ e12) ⟨rfl, rfl⟩ kcX10_sumOf (tq q_899 rfl) kiX10_sumOf ksX10_sumOf knX10_sumOf kdX10_sumOf t13 rfl rfl ⟨Nat.le_of_ble_eq_true rfl, Nat.le_of_ble_eq_true rfl⟩ hl.1 (Nat.le_of_ble_eq_true rfl) (room_of hW (pext e12) ((pext hf).tr hX)) dX10_addsImage_50 rfl) (fun H locs c1 s1 hW => ?_)
      refine lv_aload_n hx hb dX10_addsImage_53 rfl (lv_at hl 0 rfl) ?_
      obtain ⟨v14, e14, hf⟩ := pb_rd (rd_gA _ _ _) hf
      refine r_gA C hW e14 flX10_81 rfl dX10_addsImage_54 ?_
      refine lv_iload_n hx hb dX10_addsImage_57 rfl (lv_at hl 2 rfl) ?_
      refine lv_aload_n hx hb dX10_addsImage_58 rfl (lv_at hl 0 rfl) ?_
      obtain ⟨v15, e15, hf⟩ := pb_rd (rd_gJ _ _ _) hf
      refine r_gJ C hW e15 flX10_133 rfl dX10_addsImage_59 ?_
      obtain ⟨_, h16, e16, hf⟩ := pb_some hf
      refine r_last C hW e16 dX10_addsImage_62 (fun H locs hW => ?_)
      refine lv_aload_n hx hb dX10_addsImage_63 rfl (lv_at hl 0 rfl) ?_
      obtain ⟨v17, e17, hf⟩ := pb_rd (rd_gA _ _ _) hf
      refine r_gA C hW e17 flX10_84 rfl dX10_addsImage_64 ?_
      refine lv_iload_n hx hb dX10_addsImage_67 rfl (lv_at hl 2 rfl) ?_
      refine lv_aload_n hx hb dX10_addsImage_68 rfl (lv_at hl 0 rfl) ?_
      obtain ⟨v18, e18, hf⟩ := pb_rd (rd_gJ _ _ _) hf
      refine r_gJ C hW e18 flX10_137 rfl dX10_addsImage_69 ?_
      obtain ⟨_, h19, e19, hf⟩ := pb_some hf
      refine r_last C hW e19 dX10_addsImage_72 (fun H locs hW => ?_)
      refine lv_iinc (v := (x2 + 1)) (lv' := [(2, .int (x2 + 1)), (0, .ref (ρ x0)), (1, .int x1)]) hx hb dX10_addsImage_73 hl (k := 2) rfl rfl (by decide) rfl (fun ls hl => ?_)
      refine lv_goto (tgt := 2) hx hb dX10_addsImage_76 (by decide) ?_
      obtain ⟨rfl, rfl⟩ := pp_some hf
      exact kc _ rfl _ _ _ _ _ hW (lv_sub hl [1, 2, 0] rfl)
set_option maxHeartbeats 4000000 in
theorem wX10_addsImage_L2 {p : Program} {l : Launch} {e : Env} {s : State} {m : MethodId} {args : Array Value} {below : List Frame} {meth : Method} {c : Code} {G : GG} {ρ : Nat → Nat} {h0 hE hB : PH} {Q : State → Prop} {x0 : Nat} {x1 : Int32} (C : Cx G "PairSymbolsModel" cX10_addsImage 3 none "addsImage" p s m args meth c) {z : (Unit)} (n : Nat) : ∀ (x : Int32) {h : PH} {H : Heap} {locs : List Loc} {cells slots : Nat} {ls : Array Slot}, (plo (fX10_addsImage_B2 x0 x1) n x).1 h = some (z, hB) → Ext hB hE → Wd G ρ h0.length (sl h0) s.heap h H locs cells slots → lv_has ls 3 [(0, .ref (ρ x0)), (1, .int x1), (2, .int x)] → (ke : ∀ (H : Heap) (locs : List Loc) (c1 s1 : Nat) (ls : Array Slot), Wd G ρ h0.length (sl h0) s.heap hB H locs c1 s1 → lv_has ls 3 [] → W p l e (RM 3 83 h0 hE) s m args below meth c H locs c1 s1 Q (F0 m 79 ls [])) → W p l e (RM 3 83 h0 hE) s m args below meth c H locs cells slots Q (F0 m 2 ls []) := by
  induction n with
  | zero =>
    intro x h H locs cells slots ls hf
    rw [plo_0] at hf
    exact (pf_no hf).elim
  | succ n ih =>
    intro x h H locs cells slots ls hf hX hW hl ke
    rw [plo_s] at hf
    obtain ⟨r, h1, e1, hf⟩ := pb_some hf
    unfold fX10_addsImage_B2 at e1
    rw [frI_eq] at e1
    refine wX10_addsImage_B2 C e1 ((pext hf).tr hX) hW hl (fun y hr H locs c1 s1 ls hW hl => ?_) (fun y hr H locs c1 s1 ls hW hl => ?_)
    · subst hr
      exact ih y hf hX hW hl ke
    · subst hr
      obtain ⟨rfl, rfl⟩ := pp_some hf
      exact ke H locs c1 s1 ls hW hl
set_option maxHeartbeats 4000000 in
set_option maxRecDepth 100000 in
theorem metX10_addsImage (l : Launch) (G : GG) (ρ : Nat → Nat) {z : Nat} {x0 : Nat} {x1 : Int32} {h hE : PH} {v : Unit} (hf : (fX10_addsImage x0 x1).1 h = some (v, hE)) : Met l yX10_addsImage (wsY yX10_addsImage cX10_addsImage 3 none) (RM 3 83 h hE) (va_Pc [.ref (ρ x0), .int x1] (PcB G ρ h z)) (QV G ρ hE h.length z) (DC h hE) (DS h hE) (Af ρ h.length z) := by
  refine met_start (by decide) (Nat.le_of_ble_eq_true rfl) ?_
  intro p e s m below meth c ls hz C hW hl
  subst hz
  have C : Cx G "PairSymbolsModel" cX10_addsImage 3 none "addsImage" p s m _ meth c := C
  have hx := C.1
  have hb := C.2.1
  have hX : Ext hE hE := Ext.rf hE
  have hl : lv_has ls 3 [(0, .ref (ρ x0)), (1, .int x1)] := hl
  have hW : Wd G ρ h.length (sl h) s.heap h s.heap [] 0 0 := hW
  unfold fX10_addsImage at hf
  obtain ⟨_, e0, hf⟩ := pb_rd (rd_chk _ _) hf
  refine lv_iconst (v := 0) hx hb dX10_addsImage_0 (by decide) ?_
  refine lv_istore_n (lv' := [(2, .int (0 : Int32)), (0, .ref (ρ x0)), (1, .int x1)]) hx hb dX10_addsImage_1 rfl hl (by decide) rfl (fun ls hl => ?_)
  obtain ⟨z20, h20, e20, hf⟩ := pb_some hf
  refine wX10_addsImage_L2 C fu _ e20 ((pext hf).tr hX) hW (lv_sub hl [1, 2, 0] rfl) (fun H locs c1 s1 ls hW hl => ?_)
  obtain ⟨rfl, rfl⟩ := pp_some hf
  exact r_vret C hW dX10_addsImage_79

theorem dX10_laysImage_0 : decode cX10_laysImage 0 = .ok (.iconst 0, 1) := by decide +kernel
theorem dX10_laysImage_1 : decode cX10_laysImage 1 = .ok (.istore_n 3, 1) := by decide +kernel
theorem dX10_laysImage_2 : decode cX10_laysImage 2 = .ok (.iload_n 3, 1) := by decide +kernel
theorem dX10_laysImage_3 : decode cX10_laysImage 3 = .ok (.aload_n 0, 1) := by decide +kernel
theorem dX10_laysImage_4 : decode cX10_laysImage 4 = .ok (.getfield 192, 3) := by decide +kernel
theorem dX10_laysImage_7 : decode cX10_laysImage 7 = .ok (.if_icmp .ge 23, 3) := by decide +kernel
theorem dX10_laysImage_10 : decode cX10_laysImage 10 = .ok (.aload_n 0, 1) := by decide +kernel
theorem dX10_laysImage_11 : decode cX10_laysImage 11 = .ok (.getfield 81, 3) := by decide +kernel
theorem dX10_laysImage_14 : decode cX10_laysImage 14 = .ok (.iload_n 3, 1) := by decide +kernel
theorem dX10_laysImage_15 : decode cX10_laysImage 15 = .ok (.lconst 0, 1) := by decide +kernel
theorem dX10_laysImage_16 : decode cX10_laysImage 16 = .ok (.lastore, 1) := by decide +kernel
theorem dX10_laysImage_17 : decode cX10_laysImage 17 = .ok (.aload_n 0, 1) := by decide +kernel
theorem dX10_laysImage_18 : decode cX10_laysImage 18 = .ok (.getfield 84, 3) := by decide +kernel
theorem dX10_laysImage_21 : decode cX10_laysImage 21 = .ok (.iload_n 3, 1) := by decide +kernel
theorem dX10_laysImage_22 : decode cX10_laysImage 22 = .ok (.lconst 1, 1) := by decide +kernel
theorem dX10_laysImage_23 : decode cX10_laysImage 23 = .ok (.lastore, 1) := by decide +kernel
theorem dX10_laysImage_24 : decode cX10_laysImage 24 = .ok (.iinc 3 1, 3) := by decide +kernel
theorem dX10_laysImage_27 : decode cX10_laysImage 27 = .ok (.goto (-25), 3) := by decide +kernel
theorem dX10_laysImage_30 : decode cX10_laysImage 30 = .ok (.iconst 1, 1) := by decide +kernel
theorem dX10_laysImage_31 : decode cX10_laysImage 31 = .ok (.istore_n 3, 1) := by decide +kernel
theorem dX10_laysImage_32 : decode cX10_laysImage 32 = .ok (.iload_n 3, 1) := by decide +kernel
theorem dX10_laysImage_33 : decode cX10_laysImage 33 = .ok (.iload_n 1, 1) := by decide +kernel
theorem dX10_laysImage_34 : decode cX10_laysImage 34 = .ok (.if_icmp .gt 114, 3) := by decide +kernel
theorem dX10_laysImage_37 : decode cX10_laysImage 37 = .ok (.iconst 1, 1) := by decide +kernel
theorem dX10_laysImage_38 : decode cX10_laysImage 38 = .ok (.istore 4, 2) := by decide +kernel
theorem dX10_laysImage_40 : decode cX10_laysImage 40 = .ok (.iload 4, 2) := by decide +kernel
theorem dX10_laysImage_42 : decode cX10_laysImage 42 = .ok (.iload_n 1, 1) := by decide +kernel
theorem dX10_laysImage_43 : decode cX10_laysImage 43 = .ok (.if_icmp .gt 99, 3) := by decide +kernel
theorem dX10_laysImage_46 : decode cX10_laysImage 46 = .ok (.iconst 0, 1) := by decide +kernel
theorem dX10_laysImage_47 : decode cX10_laysImage 47 = .ok (.istore 5, 2) := by decide +kernel
theorem dX10_laysImage_49 : decode cX10_laysImage 49 = .ok (.iload 5, 2) := by decide +kernel
theorem dX10_laysImage_51 : decode cX10_laysImage 51 = .ok (.iload_n 3, 1) := by decide +kernel
theorem dX10_laysImage_52 : decode cX10_laysImage 52 = .ok (.if_icmp .ge 84, 3) := by decide +kernel
theorem dX10_laysImage_55 : decode cX10_laysImage 55 = .ok (.iconst 0, 1) := by decide +kernel
theorem dX10_laysImage_56 : decode cX10_laysImage 56 = .ok (.istore 6, 2) := by decide +kernel
theorem dX10_laysImage_58 : decode cX10_laysImage 58 = .ok (.iload 6, 2) := by decide +kernel
theorem dX10_laysImage_60 : decode cX10_laysImage 60 = .ok (.iload 4, 2) := by decide +kernel
theorem dX10_laysImage_62 : decode cX10_laysImage 62 = .ok (.if_icmp .ge 68, 3) := by decide +kernel
theorem dX10_laysImage_65 : decode cX10_laysImage 65 = .ok (.iload_n 3, 1) := by decide +kernel
theorem dX10_laysImage_66 : decode cX10_laysImage 66 = .ok (.iload 4, 2) := by decide +kernel
theorem dX10_laysImage_68 : decode cX10_laysImage 68 = .ok (.imul, 1) := by decide +kernel
theorem dX10_laysImage_69 : decode cX10_laysImage 69 = .ok (.iload 5, 2) := by decide +kernel
theorem dX10_laysImage_71 : decode cX10_laysImage 71 = .ok (.iload 6, 2) := by decide +kernel
theorem dX10_laysImage_73 : decode cX10_laysImage 73 = .ok (.imul, 1) := by decide +kernel
theorem dX10_laysImage_74 : decode cX10_laysImage 74 = .ok (.isub, 1) := by decide +kernel
theorem dX10_laysImage_75 : decode cX10_laysImage 75 = .ok (.iload_n 1, 1) := by decide +kernel
theorem dX10_laysImage_76 : decode cX10_laysImage 76 = .ok (.if_icmp .ne 48, 3) := by decide +kernel
theorem dX10_laysImage_79 : decode cX10_laysImage 79 = .ok (.aload_n 0, 1) := by decide +kernel
theorem dX10_laysImage_80 : decode cX10_laysImage 80 = .ok (.aload_n 0, 1) := by decide +kernel
theorem dX10_laysImage_81 : decode cX10_laysImage 81 = .ok (.aload_n 0, 1) := by decide +kernel
theorem dX10_laysImage_82 : decode cX10_laysImage 82 = .ok (.getfield 26, 3) := by decide +kernel
theorem dX10_laysImage_85 : decode cX10_laysImage 85 = .ok (.iload_n 2, 1) := by decide +kernel
theorem dX10_laysImage_86 : decode cX10_laysImage 86 = .ok (.iaload, 1) := by decide +kernel
theorem dX10_laysImage_87 : decode cX10_laysImage 87 = .ok (.iload_n 3, 1) := by decide +kernel
theorem dX10_laysImage_88 : decode cX10_laysImage 88 = .ok (.imul, 1) := by decide +kernel
theorem dX10_laysImage_89 : decode cX10_laysImage 89 = .ok (.aload_n 0, 1) := by decide +kernel
theorem dX10_laysImage_90 : decode cX10_laysImage 90 = .ok (.getfield 29, 3) := by decide +kernel
theorem dX10_laysImage_93 : decode cX10_laysImage 93 = .ok (.iload_n 2, 1) := by decide +kernel
theorem dX10_laysImage_94 : decode cX10_laysImage 94 = .ok (.iaload, 1) := by decide +kernel
theorem dX10_laysImage_95 : decode cX10_laysImage 95 = .ok (.iload 6, 2) := by decide +kernel
theorem dX10_laysImage_97 : decode cX10_laysImage 97 = .ok (.imul, 1) := by decide +kernel
theorem dX10_laysImage_98 : decode cX10_laysImage 98 = .ok (.iadd, 1) := by decide +kernel
theorem dX10_laysImage_99 : decode cX10_laysImage 99 = .ok (.aload_n 0, 1) := by decide +kernel
theorem dX10_laysImage_100 : decode cX10_laysImage 100 = .ok (.getfield 26, 3) := by decide +kernel
theorem dX10_laysImage_103 : decode cX10_laysImage 103 = .ok (.iload_n 2, 1) := by decide +kernel
theorem dX10_laysImage_104 : decode cX10_laysImage 104 = .ok (.iaload, 1) := by decide +kernel
theorem dX10_laysImage_105 : decode cX10_laysImage 105 = .ok (.iload 5, 2) := by decide +kernel
theorem dX10_laysImage_107 : decode cX10_laysImage 107 = .ok (.imul, 1) := by decide +kernel
theorem dX10_laysImage_108 : decode cX10_laysImage 108 = .ok (.aload_n 0, 1) := by decide +kernel
theorem dX10_laysImage_109 : decode cX10_laysImage 109 = .ok (.getfield 29, 3) := by decide +kernel
theorem dX10_laysImage_112 : decode cX10_laysImage 112 = .ok (.iload_n 2, 1) := by decide +kernel
theorem dX10_laysImage_113 : decode cX10_laysImage 113 = .ok (.iaload, 1) := by decide +kernel
theorem dX10_laysImage_114 : decode cX10_laysImage 114 = .ok (.iload 4, 2) := by decide +kernel
theorem dX10_laysImage_116 : decode cX10_laysImage 116 = .ok (.imul, 1) := by decide +kernel
theorem dX10_laysImage_117 : decode cX10_laysImage 117 = .ok (.iadd, 1) := by decide +kernel
theorem dX10_laysImage_118 : decode cX10_laysImage 118 = .ok (.invokevirtual 159, 3) := by decide +kernel
theorem dX10_laysImage_121 : decode cX10_laysImage 121 = .ok (.invokevirtual 281, 3) := by decide +kernel
theorem dX10_laysImage_124 : decode cX10_laysImage 124 = .ok (.iinc 6 1, 3) := by decide +kernel
theorem dX10_laysImage_127 : decode cX10_laysImage 127 = .ok (.goto (-69), 3) := by decide +kernel
theorem dX10_laysImage_130 : decode cX10_laysImage 130 = .ok (.iinc 5 1, 3) := by decide +kernel
theorem dX10_laysImage_133 : decode cX10_laysImage 133 = .ok (.goto (-84), 3) := by decide +kernel
theorem dX10_laysImage_136 : decode cX10_laysImage 136 = .ok (.iinc 4 1, 3) := by decide +kernel
theorem dX10_laysImage_139 : decode cX10_laysImage 139 = .ok (.goto (-99), 3) := by decide +kernel
theorem dX10_laysImage_142 : decode cX10_laysImage 142 = .ok (.iinc 3 1, 3) := by decide +kernel
theorem dX10_laysImage_145 : decode cX10_laysImage 145 = .ok (.goto (-113), 3) := by decide +kernel
theorem dX10_laysImage_148 : decode cX10_laysImage 148 = .ok (.return_, 1) := by decide +kernel
theorem kcX10_laysImage : Cond.code yX10_laysImage cX10_laysImage 7 none ∈ tb := tq q_1011 rfl
theorem knX10_laysImage : Cond.initialized yX10_laysImage.cls ∈ tb := (tq q_10 rfl)
theorem kdX10_laysImage : yX10_laysImage.cls ≠ "java/lang/invoke/MethodHandle" ∧ yX10_laysImage.cls ≠ "java/lang/invoke/VarHandle" ∧ (parseMethodDescriptor yX10_laysImage.desc).map (fun d => d.parameters.length) = some 2 := ⟨by decide +kernel, by decide +kernel, by decide +kernel⟩
theorem kiX10_laysImage : Cond.instanceMethod yX10_laysImage ∈ tb := (tq q_1010 rfl)
theorem ksX10_laysImage : Cond.selects yX10_laysImage.cls yX10_laysImage yX10_laysImage ∈ tb := (tq z_59 rfl)
theorem tgX10_laysImage {x0 : Nat} {x1 : Int32} {x2 : Int32} {h : PH} {r : Unit × PH} (hf : (fX10_laysImage x0 x1 x2).1 h = some r) : ∃ n x, nth h x0 = some (9, n, x) := by
  obtain ⟨_, _, e, _⟩ := pb_some hf
  exact (chk_some e).2
set_option maxHeartbeats 4000000 in
set_option maxRecDepth 100000 in
theorem wX10_laysImage_B2 {p : Program} {l : Launch} {e : Env} {s : State} {m : MethodId} {args : Array Value} {below : List Frame} {meth : Method} {c : Code} {G : GG} {ρ : Nat → Nat} {h0 hE hB : PH} {Q : State → Prop} {x0 : Nat} {x1 : Int32} {x2 : Int32} (C : Cx G "PairSymbolsModel" cX10_laysImage 7 none "laysImage" p s m args meth c) {x3 : Int32} {h : PH} {H : Heap} {locs : List Loc} {cells slots : Nat} {ls : Array Slot} {r : (Int32) ⊕ (Unit)} (hf : (fX10_laysImage_b2 x0 x1 x2 x3).1 h = some (r, hB)) (hX : Ext hB hE) (hW : Wd G ρ h0.length (sl h0) s.heap h H locs cells slots) (hl : lv_has ls 7 [(0, .ref (ρ x0)), (1, .int x1), (2, .int x2), (3, .int x3)]) (kc : ∀ y : Int32, r = .inl y → ∀ (H : Heap) (locs : List Loc) (c1 s1 : Nat) (ls : Array Slot), Wd G ρ h0.length (sl h0) s.heap hB H locs c1 s1 → lv_has ls 7 [(0, .ref (ρ x0)), (1, .int x1), (2, .int x2), (3, .int y)] → W p l e (RM 4 105 h0 hE) s m args below meth c H locs c1 s1 Q (F0 m 2 ls [])) (ke : ∀ z : Unit, r = .inr z → ∀ (H : Heap) (locs : List Loc) (c1 s1 : Nat) (ls : Array Slot), Wd G ρ h0.length (sl h0) s.heap hB H locs c1 s1 → lv_has ls 7 [(0, .ref (ρ x0)), (1, .int x1), (2, .int x2)] → W p l e (RM 4 105 h0 hE) s m args below meth c H locs c1 s1 Q (F0 m 30 ls [])) : W p l e (RM 4 105 h0 hE) s m args below meth c H locs cells slots Q (F0 m 2 ls []) := by
  have hx := C.1
  have hb := C.2.1
  unfold fX10_laysImage_b2 at hf
  refine lv_iload_n hx hb dX10_laysImage_2 rfl (lv_at hl 3 rfl) ?_
  refine lv_aload_n hx hb dX10_laysImage_3 rfl (lv_at hl 0 rfl) ?_
  obtain ⟨v1, e1, hf⟩ := pb_rd (rd_gI _ _ _) hf
  refine r_gI C hW e1 flX10_192 rfl dX10_laysImage_4 ?_
  refine lv_icmp_ge (tgt := 30) hx hb dX10_laysImage_7 (by decide) (fun c2 => ?_) (fun c2 => ?_)
  · rw [if_pos c2] at hf
    obtain ⟨rfl, rfl⟩ := pp_some hf
    exact ke _ rfl _ _ _ _ _ hW (lv_sub hl [0, 1, 2] rfl)
  · rw [if_neg c2] at hf
    refine lv_aload_n hx hb dX10_laysImage_10 rfl (lv_at hl 0 rfl) ?_
    obtain ⟨v3, e3, hf⟩ := pb_rd (rd_gA _ _ _) hf
    refine r_gA C hW e3 flX10_81 rfl dX10_laysImage_11 ?_
    refine lv_iload_n hx hb dX10_laysImage_14 rfl (lv_at hl 3 rfl) ?_
    refine lv_lconst (v := 0) hx hb dX10_laysImage_15 (by decide) ?_
    obtain ⟨_, h4, e4, hf⟩ := pb_some hf
    refine r_last C hW e4 dX10_laysImage_16 (fun H locs hW => ?_)
    refine lv_aload_n hx hb dX10_laysImage_17 rfl (lv_at hl 0 rfl) ?_
    obtain ⟨v5, e5, hf⟩ := pb_rd (rd_gA _ _ _) hf
    refine r_gA C hW e5 flX10_84 rfl dX10_laysImage_18 ?_
    refine lv_iload_n hx hb dX10_laysImage_21 rfl (lv_at hl 3 rfl) ?_
    refine lv_lconst (v := 1) hx hb dX10_laysImage_22 (by decide) ?_
    obtain ⟨_, h6, e6, hf⟩ := pb_some hf
    refine r_last C hW e6 dX10_laysImage_23 (fun H locs hW => ?_)
    refine lv_iinc (v := (x3 + 1)) (lv' := [(3, .int (x3 + 1)), (0, .ref (ρ x0)), (1, .int x1), (2, .int x2)]) hx hb dX10_laysImage_24 hl (k := 3) rfl rfl (by decide) rfl (fun ls hl => ?_)
    refine lv_goto (tgt := 2) hx hb dX10_laysImage_27 (by decide) ?_
    obtain ⟨rfl, rfl⟩ := pp_some hf
    exact kc _ rfl _ _ _ _ _ hW (lv_sub hl [1, 2, 3, 0] rfl)
set_option maxHeartbeats 4000000 in
theorem wX10_laysImage_L2 {p : Program} {l : Launch} {e : Env} {s : State} {m : MethodId} {args : Array Value} {below : List Frame} {meth : Method} {c : Code} {G : GG} {ρ : Nat → Nat} {h0 hE hB : PH} {Q : State → Prop} {x0 : Nat} {x1 : Int32} {x2 : Int32} (C : Cx G "PairSymbolsModel" cX10_laysImage 7 none "laysImage" p s m args meth c) {z : (Unit)} (n : Nat) : ∀ (x : Int32) {h : PH} {H : Heap} {locs : List Loc} {cells slots : Nat} {ls : Array Slot}, (plo (fX10_laysImage_B2 x0 x1 x2) n x).1 h = some (z, hB) → Ext hB hE → Wd G ρ h0.length (sl h0) s.heap h H locs cells slots → lv_has ls 7 [(0, .ref (ρ x0)), (1, .int x1), (2, .int x2), (3, .int x)] → (ke : ∀ (H : Heap) (locs : List Loc) (c1 s1 : Nat) (ls : Array Slot), Wd G ρ h0.length (sl h0) s.heap hB H locs c1 s1 → lv_has ls 7 [(0, .ref (ρ x0)), (1, .int x1), (2, .int x2)] → W p l e (RM 4 105 h0 hE) s m args below meth c H locs c1 s1 Q (F0 m 30 ls [])) → W p l e (RM 4 105 h0 hE) s m args below meth c H locs cells slots Q (F0 m 2 ls []) := by
  induction n with
  | zero =>
    intro x h H locs cells slots ls hf
    rw [plo_0] at hf
    exact (pf_no hf).elim
  | succ n ih =>
    intro x h H locs cells slots ls hf hX hW hl ke
    rw [plo_s] at hf
    obtain ⟨r, h1, e1, hf⟩ := pb_some hf
    unfold fX10_laysImage_B2 at e1
    rw [frI_eq] at e1
    refine wX10_laysImage_B2 C e1 ((pext hf).tr hX) hW hl (fun y hr H locs c1 s1 ls hW hl => ?_) (fun y hr H locs c1 s1 ls hW hl => ?_)
    · subst hr
      exact ih y hf hX hW hl ke
    · subst hr
      obtain ⟨rfl, rfl⟩ := pp_some hf
      exact ke H locs c1 s1 ls hW hl
set_option maxHeartbeats 4000000 in
set_option maxRecDepth 100000 in
theorem wX10_laysImage_B58 {p : Program} {l : Launch} {e : Env} {s : State} {m : MethodId} {args : Array Value} {below : List Frame} {meth : Method} {c : Code} {G : GG} {ρ : Nat → Nat} {h0 hE hB : PH} {Q : State → Prop} {x0 : Nat} {x1 : Int32} {x2 : Int32} {x3 : Int32} {x4 : Int32} {x5 : Int32} (C : Cx G "PairSymbolsModel" cX10_laysImage 7 none "laysImage" p s m args meth c) {x6 : Int32} {h : PH} {H : Heap} {locs : List Loc} {cells slots : Nat} {ls : Array Slot} {r : (Int32) ⊕ (Unit)} (hf : (fX10_laysImage_b58 x0 x1 x2 x3 x4 x5 x6).1 h = some (r, hB)) (hX : Ext hB hE) (hW : Wd G ρ h0.length (sl h0) s.heap h H locs cells slots) (hl : lv_has ls 7 [(0, .ref (ρ x0)), (1, .int x1), (2, .int x2), (3, .int x3), (4, .int x4), (5, .int x5), (6, .int x6)]) (kc : ∀ y : Int32, r = .inl y → ∀ (H : Heap) (locs : List Loc) (c1 s1 : Nat) (ls : Array Slot), Wd G ρ h0.length (sl h0) s.heap hB H locs c1 s1 → lv_has ls 7 [(0, .ref (ρ x0)), (1, .int x1), (2, .int x2), (3, .int x3), (4, .int x4), (5, .int x5), (6, .int y)] → W p l e (RM 4 105 h0 hE) s m args below meth c H locs c1 s1 Q (F0 m 58 ls [])) (ke : ∀ z : Unit, r = .inr z → ∀ (H : Heap) (locs : List Loc) (c1 s1 : Nat) (ls : Array Slot), Wd G ρ h0.length (sl h0) s.heap hB H locs c1 s1 → lv_has ls 7 [(0, .ref (ρ x0)), (1, .int x1), (2, .int x2), (3, .int x3), (4, .int x4), (5, .int x5)] → W p l e (RM 4 105 h0 hE) s m args below meth c H locs c1 s1 Q (F0 m 130 ls [])) : W p l e (RM 4 105 h0 hE) s m args below meth c H locs cells slots Q (F0 m 58 ls []) := by
  have hx := C.1
  have hb := C.2.1
  unfold fX10_laysImage_b58 at hf
  refine lv_iload hx hb dX10_laysImage_58 (lv_at hl 6 rfl) ?_
  refine lv_iload hx hb dX10_laysImage_60 (lv_at hl 4 rfl) ?_
  refine lv_icmp_ge (tgt := 130) hx hb dX10_laysImage_62 (by decide) (fun c11 => ?_) (fun c11 => ?_)
  · rw [if_pos c11] at hf
    obtain ⟨rfl, rfl⟩ := pp_some hf
    exact ke _ rfl _ _ _ _ _ hW (lv_sub hl [0, 1, 2, 3, 4, 5] rfl)
  · rw [if_neg c11] at hf
    refine lv_iload_n hx hb dX10_laysImage_65 rfl (lv_at hl 3 rfl) ?_
    refine lv_iload hx hb dX10_laysImage_66 (lv_at hl 4 rfl) ?_
    refine lv_imul hx hb dX10_laysImage_68 ?_
    refine lv_iload hx hb dX10_laysImage_69 (lv_at hl 5 rfl) ?_
    refine lv_iload hx hb dX10_laysImage_71 (lv_at hl 6 rfl) ?_
    refine lv_imul hx hb dX10_laysImage_73 ?_
    refine lv_isub hx hb dX10_laysImage_74 ?_
    refine lv_iload_n hx hb dX10_laysImage_75 rfl (lv_at hl 1 rfl) ?_
    refine lv_icmp_ne (tgt := 124) hx hb dX10_laysImage_76 (by decide) (fun c12 => ?_) (fun c12 => ?_)
    · rw [if_neg c12] at hf
      refine lv_iinc (v := (x6 + 1)) (lv' := [(6, .int (x6 + 1)), (0, .ref (ρ x0)), (1, .int x1), (2, .int x2), (3, .int x3), (4, .int x4), (5, .int x5)]) hx hb dX10_laysImage_124 hl (k := 6) rfl rfl (by decide) rfl (fun ls hl => ?_)
      refine lv_goto (tgt := 58) hx hb dX10_laysImage_127 (by decide) ?_
      obtain ⟨rfl, rfl⟩ := pp_some hf
      exact kc _ rfl _ _ _ _ _ hW (lv_sub hl [1, 2, 3, 4, 5, 6, 0] rfl)
    · rw [if_pos c12] at hf
      refine lv_aload_n hx hb dX10_laysImage_79 rfl (lv_at hl 0 rfl) ?_
      refine lv_aload_n hx hb dX10_laysImage_80 rfl (lv_at hl 0 rfl) ?_
      refine lv_aload_n hx hb dX10_laysImage_81 rfl (lv_at hl 0 rfl) ?_
      obtain ⟨v13, e13, hf⟩ := pb_rd (rd_gA _ _ _) hf
      refine r_gA C hW e13 flX10_26 rfl dX10_laysImage_82 ?_
      refine lv_iload_n hx hb dX10_laysImage_85 rfl (lv_at hl 2 rfl) ?_
      obtain ⟨v14, e14, hf⟩ := pb_rd (rd_lI _ _ _) hf
      refine r_iald C hW e14 dX10_laysImage_86 ?_
      refine lv_iload_n hx hb dX10_laysImage_87 rfl (lv_at hl 3 rfl) ?_
      refine lv_imul hx hb dX10_laysImage_88 ?_
      refine lv_aload_n hx hb dX10_laysImage_89 rfl (lv_at hl 0 rfl) ?_
      obtain ⟨v15, e15, hf⟩ := pb_rd (rd_gA _ _ _) hf
      refine r_gA C hW e15 flX10_29 rfl dX10_laysImage_90 ?_
      refine lv_iload_n hx hb dX10_laysImage_93 rfl (lv_at hl 2 rfl) ?_
      obtain ⟨v16, e16, hf⟩ := pb_rd (rd_lI _ _ _) hf
      refine r_iald C hW e16 dX10_laysImage_94 ?_
      refine lv_iload hx hb dX10_laysImage_95 (lv_at hl 6 rfl) ?_
      refine lv_imul hx hb dX10_laysImage_97 ?_
      refine lv_iadd hx hb dX10_laysImage_98 ?_
      refine lv_aload_n hx hb dX10_laysImage_99 rfl (lv_at hl 0 rfl) ?_
      obtain ⟨v17, e17, hf⟩ := pb_rd (rd_gA _ _ _) hf
      refine r_gA C hW e17 flX10_26 rfl dX10_laysImage_100 ?_
      refine lv_iload_n hx hb dX10_laysImage_103 rfl (lv_at hl 2 rfl) ?_
      obtain ⟨v18, e18, hf⟩ := pb_rd (rd_lI _ _ _) hf
      refine r_iald C hW e18 dX10_laysImage_104 ?_
      refine lv_iload hx hb dX10_laysImage_105 (lv_at hl 5 rfl) ?_
      refine lv_imul hx hb dX10_laysImage_107 ?_
      refine lv_aload_n hx hb dX10_laysImage_108 rfl (lv_at hl 0 rfl) ?_
      obtain ⟨v19, e19, hf⟩ := pb_rd (rd_gA _ _ _) hf
      refine r_gA C hW e19 flX10_29 rfl dX10_laysImage_109 ?_
      refine lv_iload_n hx hb dX10_laysImage_112 rfl (lv_at hl 2 rfl) ?_
      obtain ⟨v20, e20, hf⟩ := pb_rd (rd_lI _ _ _) hf
      refine r_iald C hW e20 dX10_laysImage_113 ?_
      refine lv_iload hx hb dX10_laysImage_114 (lv_at hl 4 rfl) ?_
      refine lv_imul hx hb dX10_laysImage_116 ?_
      refine lv_iadd hx hb dX10_laysImage_117 ?_
      obtain ⟨v21, h21, e21, hf⟩ := pb_some hf
      obtain ⟨_, _, t22⟩ := tgX10_of e21
      refine r_calli hW (pext e21) (run_V (b := x0) (As := [.int ((v14 * x3) + (v16 * x6)), .int ((v18 * x5) + (v20 * x4))]) (rest := [.ref (ρ x0)]) C hW (metX10_of l G ρ e21) ⟨rfl, rfl⟩ kcX10_of (tq q_868 rfl) kiX10_of ksX10_of knX10_of kdX10_of t22 rfl rfl ⟨Nat.le_of_ble_eq_true rfl, Nat.le_of_ble_eq_true rfl⟩ hl.1 (Nat.le_of_ble_eq_true rfl) (room_of hW (pext e21) ((pext hf).tr hX)) dX10_laysImage_118 rfl) (fun H locs c1 s1 hW => ?_)
      obtain ⟨_, h23, e23, hf⟩ := pb_some hf
      obtain ⟨_, _, t24⟩ := tgX10_addsImage e23
      refine r_callv hW (pext e23) (run_V (b := x0) (As := [.int v21]) (rest := []) C hW (metX10_addsImage l G ρ e23) ⟨rfl, rfl⟩ kcX10_addsImage (tq q_1012 rfl) kiX10_addsImage ksX10_addsImage knX10_addsImage kdX10_addsImage t24 rfl rfl ⟨Nat.le_of_ble_eq_true rfl, Nat.le_of_ble_eq_true rfl⟩ hl.1 (Nat.le_of_ble_eq_true rfl) (room_of hW (pext e23) ((pext hf).tr hX)) dX10_laysImage_121 rfl) (fun H locs c1 s1 hW => ?_)
      refine lv_iinc (v := (x6 + 1)) (lv' := [(6, .int (x6 + 1)), (0, .ref (ρ x0)), (1, .int x1), (2, .int x2), (3, .int x3), (4, .int x4), (5, .int x5)]) hx hb dX10_laysImage_124 hl (k := 6) rfl rfl (by decide) rfl (fun ls hl => ?_)
      refine lv_goto (tgt := 58) hx hb dX10_laysImage_127 (by decide) ?_
      obtain ⟨rfl, rfl⟩ := pp_some hf
      exact kc _ rfl _ _ _ _ _ hW (lv_sub hl [1, 2, 3, 4, 5, 6, 0] rfl)
set_option maxHeartbeats 4000000 in
theorem wX10_laysImage_L58 {p : Program} {l : Launch} {e : Env} {s : State} {m : MethodId} {args : Array Value} {below : List Frame} {meth : Method} {c : Code} {G : GG} {ρ : Nat → Nat} {h0 hE hB : PH} {Q : State → Prop} {x0 : Nat} {x1 : Int32} {x2 : Int32} {x3 : Int32} {x4 : Int32} {x5 : Int32} (C : Cx G "PairSymbolsModel" cX10_laysImage 7 none "laysImage" p s m args meth c) {z : (Unit)} (n : Nat) : ∀ (x : Int32) {h : PH} {H : Heap} {locs : List Loc} {cells slots : Nat} {ls : Array Slot}, (plo (fX10_laysImage_B58 x0 x1 x2 x3 x4 x5) n x).1 h = some (z, hB) → Ext hB hE → Wd G ρ h0.length (sl h0) s.heap h H locs cells slots → lv_has ls 7 [(0, .ref (ρ x0)), (1, .int x1), (2, .int x2), (3, .int x3), (4, .int x4), (5, .int x5), (6, .int x)] → (ke : ∀ (H : Heap) (locs : List Loc) (c1 s1 : Nat) (ls : Array Slot), Wd G ρ h0.length (sl h0) s.heap hB H locs c1 s1 → lv_has ls 7 [(0, .ref (ρ x0)), (1, .int x1), (2, .int x2), (3, .int x3), (4, .int x4), (5, .int x5)] → W p l e (RM 4 105 h0 hE) s m args below meth c H locs c1 s1 Q (F0 m 130 ls [])) → W p l e (RM 4 105 h0 hE) s m args below meth c H locs cells slots Q (F0 m 58 ls []) := by
  induction n with
  | zero =>
    intro x h H locs cells slots ls hf
    rw [plo_0] at hf
    exact (pf_no hf).elim
  | succ n ih =>
    intro x h H locs cells slots ls hf hX hW hl ke
    rw [plo_s] at hf
    obtain ⟨r, h1, e1, hf⟩ := pb_some hf
    unfold fX10_laysImage_B58 at e1
    rw [frI_eq] at e1
    refine wX10_laysImage_B58 C e1 ((pext hf).tr hX) hW hl (fun y hr H locs c1 s1 ls hW hl => ?_) (fun y hr H locs c1 s1 ls hW hl => ?_)
    · subst hr
      exact ih y hf hX hW hl ke
    · subst hr
      obtain ⟨rfl, rfl⟩ := pp_some hf
      exact ke H locs c1 s1 ls hW hl
set_option maxHeartbeats 4000000 in
set_option maxRecDepth 100000 in
theorem wX10_laysImage_B49 {p : Program} {l : Launch} {e : Env} {s : State} {m : MethodId} {args : Array Value} {below : List Frame} {meth : Method} {c : Code} {G : GG} {ρ : Nat → Nat} {h0 hE hB : PH} {Q : State → Prop} {x0 : Nat} {x1 : Int32} {x2 : Int32} {x3 : Int32} {x4 : Int32} (C : Cx G "PairSymbolsModel" cX10_laysImage 7 none "laysImage" p s m args meth c) {x5 : Int32} {h : PH} {H : Heap} {locs : List Loc} {cells slots : Nat} {ls : Array Slot} {r : (Int32) ⊕ (Unit)} (hf : (fX10_laysImage_b49 x0 x1 x2 x3 x4 x5).1 h = some (r, hB)) (hX : Ext hB hE) (hW : Wd G ρ h0.length (sl h0) s.heap h H locs cells slots) (hl : lv_has ls 7 [(0, .ref (ρ x0)), (1, .int x1), (2, .int x2), (3, .int x3), (4, .int x4), (5, .int x5)]) (kc : ∀ y : Int32, r = .inl y → ∀ (H : Heap) (locs : List Loc) (c1 s1 : Nat) (ls : Array Slot), Wd G ρ h0.length (sl h0) s.heap hB H locs c1 s1 → lv_has ls 7 [(0, .ref (ρ x0)), (1, .int x1), (2, .int x2), (3, .int x3), (4, .int x4), (5, .int y)] → W p l e (RM 4 105 h0 hE) s m args below meth c H locs c1 s1 Q (F0 m 49 ls [])) (ke : ∀ z : Unit, r = .inr z → ∀ (H : Heap) (locs : List Loc) (c1 s1 : Nat) (ls : Array Slot), Wd G ρ h0.length (sl h0) s.heap hB H locs c1 s1 → lv_has ls 7 [(0, .ref (ρ x0)), (1, .int x1), (2, .int x2), (3, .int x3), (4, .int x4)] → W p l e (RM 4 105 h0 hE) s m args below meth c H locs c1 s1 Q (F0 m 136 ls [])) : W p l e (RM 4 105 h0 hE) s m args below meth c H locs cells slots Q (F0 m 49 ls []) := by
  have hx := C.1
  have hb := C.2.1
  unfold fX10_laysImage_b49 at hf
  refine lv_iload hx hb dX10_laysImage_49 (lv_at hl 5 rfl) ?_
  refine lv_iload_n hx hb dX10_laysImage_51 rfl (lv_at hl 3 rfl) ?_
  refine lv_icmp_ge (tgt := 136) hx hb dX10_laysImage_52 (by decide) (fun c10 => ?_) (fun c10 => ?_)
  · rw [if_pos c10] at hf
    obtain ⟨rfl, rfl⟩ := pp_some hf
    exact ke _ rfl _ _ _ _ _ hW (lv_sub hl [0, 1, 2, 3, 4] rfl)
  · rw [if_neg c10] at hf
    refine lv_iconst (v := 0) hx hb dX10_laysImage_55 (by decide) ?_
    refine lv_istore (lv' := [(6, .int (0 : Int32)), (0, .ref (ρ x0)), (1, .int x1), (2, .int x2), (3, .int x3), (4, .int x4), (5, .int x5)]) hx hb dX10_laysImage_56 hl (by decide) rfl (fun ls hl => ?_)
    obtain ⟨z25, h25, e25, hf⟩ := pb_some hf
    refine wX10_laysImage_L58 C fu _ e25 ((pext hf).tr hX) hW (lv_sub hl [1, 2, 3, 4, 5, 6, 0] rfl) (fun H locs c1 s1 ls hW hl => ?_)
    refine lv_iinc (v := (x5 + 1)) (lv' := [(5, .int (x5 + 1)), (0, .ref (ρ x0)), (1, .int x1), (2, .int x2), (3, .int x3), (4, .int x4)]) hx hb dX10_laysImage_130 hl (k := 5) rfl rfl (by decide) rfl (fun ls hl => ?_)
    refine lv_goto (tgt := 49) hx hb dX10_laysImage_133 (by decide) ?_
    obtain ⟨rfl, rfl⟩ := pp_some hf
    exact kc _ rfl _ _ _ _ _ hW (lv_sub hl [1, 2, 3, 4, 5, 0] rfl)
set_option maxHeartbeats 4000000 in
theorem wX10_laysImage_L49 {p : Program} {l : Launch} {e : Env} {s : State} {m : MethodId} {args : Array Value} {below : List Frame} {meth : Method} {c : Code} {G : GG} {ρ : Nat → Nat} {h0 hE hB : PH} {Q : State → Prop} {x0 : Nat} {x1 : Int32} {x2 : Int32} {x3 : Int32} {x4 : Int32} (C : Cx G "PairSymbolsModel" cX10_laysImage 7 none "laysImage" p s m args meth c) {z : (Unit)} (n : Nat) : ∀ (x : Int32) {h : PH} {H : Heap} {locs : List Loc} {cells slots : Nat} {ls : Array Slot}, (plo (fX10_laysImage_B49 x0 x1 x2 x3 x4) n x).1 h = some (z, hB) → Ext hB hE → Wd G ρ h0.length (sl h0) s.heap h H locs cells slots → lv_has ls 7 [(0, .ref (ρ x0)), (1, .int x1), (2, .int x2), (3, .int x3), (4, .int x4), (5, .int x)] → (ke : ∀ (H : Heap) (locs : List Loc) (c1 s1 : Nat) (ls : Array Slot), Wd G ρ h0.length (sl h0) s.heap hB H locs c1 s1 → lv_has ls 7 [(0, .ref (ρ x0)), (1, .int x1), (2, .int x2), (3, .int x3), (4, .int x4)] → W p l e (RM 4 105 h0 hE) s m args below meth c H locs c1 s1 Q (F0 m 136 ls [])) → W p l e (RM 4 105 h0 hE) s m args below meth c H locs cells slots Q (F0 m 49 ls []) := by
  induction n with
  | zero =>
    intro x h H locs cells slots ls hf
    rw [plo_0] at hf
    exact (pf_no hf).elim
  | succ n ih =>
    intro x h H locs cells slots ls hf hX hW hl ke
    rw [plo_s] at hf
    obtain ⟨r, h1, e1, hf⟩ := pb_some hf
    unfold fX10_laysImage_B49 at e1
    rw [frI_eq] at e1
    refine wX10_laysImage_B49 C e1 ((pext hf).tr hX) hW hl (fun y hr H locs c1 s1 ls hW hl => ?_) (fun y hr H locs c1 s1 ls hW hl => ?_)
    · subst hr
      exact ih y hf hX hW hl ke
    · subst hr
      obtain ⟨rfl, rfl⟩ := pp_some hf
      exact ke H locs c1 s1 ls hW hl
set_option maxHeartbeats 4000000 in
set_option maxRecDepth 100000 in
theorem wX10_laysImage_B40 {p : Program} {l : Launch} {e : Env} {s : State} {m : MethodId} {args : Array Value} {below : List Frame} {meth : Method} {c : Code} {G : GG} {ρ : Nat → Nat} {h0 hE hB : PH} {Q : State → Prop} {x0 : Nat} {x1 : Int32} {x2 : Int32} {x3 : Int32} (C : Cx G "PairSymbolsModel" cX10_laysImage 7 none "laysImage" p s m args meth c) {x4 : Int32} {h : PH} {H : Heap} {locs : List Loc} {cells slots : Nat} {ls : Array Slot} {r : (Int32) ⊕ (Unit)} (hf : (fX10_laysImage_b40 x0 x1 x2 x3 x4).1 h = some (r, hB)) (hX : Ext hB hE) (hW : Wd G ρ h0.length (sl h0) s.heap h H locs cells slots) (hl : lv_has ls 7 [(0, .ref (ρ x0)), (1, .int x1), (2, .int x2), (3, .int x3), (4, .int x4)]) (kc : ∀ y : Int32, r = .inl y → ∀ (H : Heap) (locs : List Loc) (c1 s1 : Nat) (ls : Array Slot), Wd G ρ h0.length (sl h0) s.heap hB H locs c1 s1 → lv_has ls 7 [(0, .ref (ρ x0)), (1, .int x1), (2, .int x2), (3, .int x3), (4, .int y)] → W p l e (RM 4 105 h0 hE) s m args below meth c H locs c1 s1 Q (F0 m 40 ls [])) (ke : ∀ z : Unit, r = .inr z → ∀ (H : Heap) (locs : List Loc) (c1 s1 : Nat) (ls : Array Slot), Wd G ρ h0.length (sl h0) s.heap hB H locs c1 s1 → lv_has ls 7 [(0, .ref (ρ x0)), (1, .int x1), (2, .int x2), (3, .int x3)] → W p l e (RM 4 105 h0 hE) s m args below meth c H locs c1 s1 Q (F0 m 142 ls [])) : W p l e (RM 4 105 h0 hE) s m args below meth c H locs cells slots Q (F0 m 40 ls []) := by
  have hx := C.1
  have hb := C.2.1
  unfold fX10_laysImage_b40 at hf
  refine lv_iload hx hb dX10_laysImage_40 (lv_at hl 4 rfl) ?_
  refine lv_iload_n hx hb dX10_laysImage_42 rfl (lv_at hl 1 rfl) ?_
  refine lv_icmp_gt (tgt := 142) hx hb dX10_laysImage_43 (by decide) (fun c9 => ?_) (fun c9 => ?_)
  · rw [if_pos c9] at hf
    obtain ⟨rfl, rfl⟩ := pp_some hf
    exact ke _ rfl _ _ _ _ _ hW (lv_sub hl [0, 1, 2, 3] rfl)
  · rw [if_neg c9] at hf
    refine lv_iconst (v := 0) hx hb dX10_laysImage_46 (by decide) ?_
    refine lv_istore (lv' := [(5, .int (0 : Int32)), (0, .ref (ρ x0)), (1, .int x1), (2, .int x2), (3, .int x3), (4, .int x4)]) hx hb dX10_laysImage_47 hl (by decide) rfl (fun ls hl => ?_)
    obtain ⟨z26, h26, e26, hf⟩ := pb_some hf
    refine wX10_laysImage_L49 C fu _ e26 ((pext hf).tr hX) hW (lv_sub hl [1, 2, 3, 4, 5, 0] rfl) (fun H locs c1 s1 ls hW hl => ?_)
    refine lv_iinc (v := (x4 + 1)) (lv' := [(4, .int (x4 + 1)), (0, .ref (ρ x0)), (1, .int x1), (2, .int x2), (3, .int x3)]) hx hb dX10_laysImage_136 hl (k := 4) rfl rfl (by decide) rfl (fun ls hl => ?_)
    refine lv_goto (tgt := 40) hx hb dX10_laysImage_139 (by decide) ?_
    obtain ⟨rfl, rfl⟩ := pp_some hf
    exact kc _ rfl _ _ _ _ _ hW (lv_sub hl [1, 2, 3, 4, 0] rfl)
set_option maxHeartbeats 4000000 in
theorem wX10_laysImage_L40 {p : Program} {l : Launch} {e : Env} {s : State} {m : MethodId} {args : Array Value} {below : List Frame} {meth : Method} {c : Code} {G : GG} {ρ : Nat → Nat} {h0 hE hB : PH} {Q : State → Prop} {x0 : Nat} {x1 : Int32} {x2 : Int32} {x3 : Int32} (C : Cx G "PairSymbolsModel" cX10_laysImage 7 none "laysImage" p s m args meth c) {z : (Unit)} (n : Nat) : ∀ (x : Int32) {h : PH} {H : Heap} {locs : List Loc} {cells slots : Nat} {ls : Array Slot}, (plo (fX10_laysImage_B40 x0 x1 x2 x3) n x).1 h = some (z, hB) → Ext hB hE → Wd G ρ h0.length (sl h0) s.heap h H locs cells slots → lv_has ls 7 [(0, .ref (ρ x0)), (1, .int x1), (2, .int x2), (3, .int x3), (4, .int x)] → (ke : ∀ (H : Heap) (locs : List Loc) (c1 s1 : Nat) (ls : Array Slot), Wd G ρ h0.length (sl h0) s.heap hB H locs c1 s1 → lv_has ls 7 [(0, .ref (ρ x0)), (1, .int x1), (2, .int x2), (3, .int x3)] → W p l e (RM 4 105 h0 hE) s m args below meth c H locs c1 s1 Q (F0 m 142 ls [])) → W p l e (RM 4 105 h0 hE) s m args below meth c H locs cells slots Q (F0 m 40 ls []) := by
  induction n with
  | zero =>
    intro x h H locs cells slots ls hf
    rw [plo_0] at hf
    exact (pf_no hf).elim
  | succ n ih =>
    intro x h H locs cells slots ls hf hX hW hl ke
    rw [plo_s] at hf
    obtain ⟨r, h1, e1, hf⟩ := pb_some hf
    unfold fX10_laysImage_B40 at e1
    rw [frI_eq] at e1
    refine wX10_laysImage_B40 C e1 ((pext hf).tr hX) hW hl (fun y hr H locs c1 s1 ls hW hl => ?_) (fun y hr H locs c1 s1 ls hW hl => ?_)
    · subst hr
      exact ih y hf hX hW hl ke
    · subst hr
      obtain ⟨rfl, rfl⟩ := pp_some hf
      exact ke H locs c1 s1 ls hW hl
set_option maxHeartbeats 4000000 in
set_option maxRecDepth 100000 in
theorem wX10_laysImage_B32 {p : Program} {l : Launch} {e : Env} {s : State} {m : MethodId} {args : Array Value} {below : List Frame} {meth : Method} {c : Code} {G : GG} {ρ : Nat → Nat} {h0 hE hB : PH} {Q : State → Prop} {x0 : Nat} {x1 : Int32} {x2 : Int32} (C : Cx G "PairSymbolsModel" cX10_laysImage 7 none "laysImage" p s m args meth c) {x3 : Int32} {h : PH} {H : Heap} {locs : List Loc} {cells slots : Nat} {ls : Array Slot} {r : (Int32) ⊕ (Unit)} (hf : (fX10_laysImage_b32 x0 x1 x2 x3).1 h = some (r, hB)) (hX : Ext hB hE) (hW : Wd G ρ h0.length (sl h0) s.heap h H locs cells slots) (hl : lv_has ls 7 [(0, .ref (ρ x0)), (1, .int x1), (2, .int x2), (3, .int x3)]) (kc : ∀ y : Int32, r = .inl y → ∀ (H : Heap) (locs : List Loc) (c1 s1 : Nat) (ls : Array Slot), Wd G ρ h0.length (sl h0) s.heap hB H locs c1 s1 → lv_has ls 7 [(0, .ref (ρ x0)), (1, .int x1), (2, .int x2), (3, .int y)] → W p l e (RM 4 105 h0 hE) s m args below meth c H locs c1 s1 Q (F0 m 32 ls [])) (ke : ∀ z : Unit, r = .inr z → ∀ (H : Heap) (locs : List Loc) (c1 s1 : Nat) (ls : Array Slot), Wd G ρ h0.length (sl h0) s.heap hB H locs c1 s1 → lv_has ls 7 [] → W p l e (RM 4 105 h0 hE) s m args below meth c H locs c1 s1 Q (F0 m 148 ls [])) : W p l e (RM 4 105 h0 hE) s m args below meth c H locs cells slots Q (F0 m 32 ls []) := by
  have hx := C.1
  have hb := C.2.1
  unfold fX10_laysImage_b32 at hf
  refine lv_iload_n hx hb dX10_laysImage_32 rfl (lv_at hl 3 rfl) ?_
  refine lv_iload_n hx hb dX10_laysImage_33 rfl (lv_at hl 1 rfl) ?_
  refine lv_icmp_gt (tgt := 148) hx hb dX10_laysImage_34 (by decide) (fun c8 => ?_) (fun c8 => ?_)
  · rw [if_pos c8] at hf
    obtain ⟨rfl, rfl⟩ := pp_some hf
    exact ke _ rfl _ _ _ _ _ hW (lv_sub hl [] rfl)
  · rw [if_neg c8] at hf
    refine lv_iconst (v := 1) hx hb dX10_laysImage_37 (by decide) ?_
    refine lv_istore (lv' := [(4, .int (1 : Int32)), (0, .ref (ρ x0)), (1, .int x1), (2, .int x2), (3, .int x3)]) hx hb dX10_laysImage_38 hl (by decide) rfl (fun ls hl => ?_)
    obtain ⟨z27, h27, e27, hf⟩ := pb_some hf
    refine wX10_laysImage_L40 C fu _ e27 ((pext hf).tr hX) hW (lv_sub hl [1, 2, 3, 4, 0] rfl) (fun H locs c1 s1 ls hW hl => ?_)
    refine lv_iinc (v := (x3 + 1)) (lv' := [(3, .int (x3 + 1)), (0, .ref (ρ x0)), (1, .int x1), (2, .int x2)]) hx hb dX10_laysImage_142 hl (k := 3) rfl rfl (by decide) rfl (fun ls hl => ?_)
    refine lv_goto (tgt := 32) hx hb dX10_laysImage_145 (by decide) ?_
    obtain ⟨rfl, rfl⟩ := pp_some hf
    exact kc _ rfl _ _ _ _ _ hW (lv_sub hl [1, 2, 3, 0] rfl)
set_option maxHeartbeats 4000000 in
theorem wX10_laysImage_L32 {p : Program} {l : Launch} {e : Env} {s : State} {m : MethodId} {args : Array Value} {below : List Frame} {meth : Method} {c : Code} {G : GG} {ρ : Nat → Nat} {h0 hE hB : PH} {Q : State → Prop} {x0 : Nat} {x1 : Int32} {x2 : Int32} (C : Cx G "PairSymbolsModel" cX10_laysImage 7 none "laysImage" p s m args meth c) {z : (Unit)} (n : Nat) : ∀ (x : Int32) {h : PH} {H : Heap} {locs : List Loc} {cells slots : Nat} {ls : Array Slot}, (plo (fX10_laysImage_B32 x0 x1 x2) n x).1 h = some (z, hB) → Ext hB hE → Wd G ρ h0.length (sl h0) s.heap h H locs cells slots → lv_has ls 7 [(0, .ref (ρ x0)), (1, .int x1), (2, .int x2), (3, .int x)] → (ke : ∀ (H : Heap) (locs : List Loc) (c1 s1 : Nat) (ls : Array Slot), Wd G ρ h0.length (sl h0) s.heap hB H locs c1 s1 → lv_has ls 7 [] → W p l e (RM 4 105 h0 hE) s m args below meth c H locs c1 s1 Q (F0 m 148 ls [])) → W p l e (RM 4 105 h0 hE) s m args below meth c H locs cells slots Q (F0 m 32 ls []) := by
  induction n with
  | zero =>
    intro x h H locs cells slots ls hf
    rw [plo_0] at hf
    exact (pf_no hf).elim
  | succ n ih =>
    intro x h H locs cells slots ls hf hX hW hl ke
    rw [plo_s] at hf
    obtain ⟨r, h1, e1, hf⟩ := pb_some hf
    unfold fX10_laysImage_B32 at e1
    rw [frI_eq] at e1
    refine wX10_laysImage_B32 C e1 ((pext hf).tr hX) hW hl (fun y hr H locs c1 s1 ls hW hl => ?_) (fun y hr H locs c1 s1 ls hW hl => ?_)
    · subst hr
      exact ih y hf hX hW hl ke
    · subst hr
      obtain ⟨rfl, rfl⟩ := pp_some hf
      exact ke H locs c1 s1 ls hW hl
set_option maxHeartbeats 4000000 in
set_option maxRecDepth 100000 in
theorem metX10_laysImage (l : Launch) (G : GG) (ρ : Nat → Nat) {z : Nat} {x0 : Nat} {x1 : Int32} {x2 : Int32} {h hE : PH} {v : Unit} (hf : (fX10_laysImage x0 x1 x2).1 h = some (v, hE)) : Met l yX10_laysImage (wsY yX10_laysImage cX10_laysImage 7 none) (RM 4 105 h hE) (va_Pc [.ref (ρ x0), .int x1, .int x2] (PcB G ρ h z)) (QV G ρ hE h.length z) (DC h hE) (DS h hE) (Af ρ h.length z) := by
  refine met_start (by decide) (Nat.le_of_ble_eq_true rfl) ?_
  intro p e s m below meth c ls hz C hW hl
  subst hz
  have C : Cx G "PairSymbolsModel" cX10_laysImage 7 none "laysImage" p s m _ meth c := C
  have hx := C.1
  have hb := C.2.1
  have hX : Ext hE hE := Ext.rf hE
  have hl : lv_has ls 7 [(0, .ref (ρ x0)), (1, .int x1), (2, .int x2)] := hl
  have hW : Wd G ρ h.length (sl h) s.heap h s.heap [] 0 0 := hW
  unfold fX10_laysImage at hf
  obtain ⟨_, e0, hf⟩ := pb_rd (rd_chk _ _) hf
  refine lv_iconst (v := 0) hx hb dX10_laysImage_0 (by decide) ?_
  refine lv_istore_n (lv' := [(3, .int (0 : Int32)), (0, .ref (ρ x0)), (1, .int x1), (2, .int x2)]) hx hb dX10_laysImage_1 rfl hl (by decide) rfl (fun ls hl => ?_)
  obtain ⟨z7, h7, e7, hf⟩ := pb_some hf
  refine wX10_laysImage_L2 C fu _ e7 ((pext hf).tr hX) hW (lv_sub hl [1, 2, 3, 0] rfl) (fun H locs c1 s1 ls hW hl => ?_)
  refine lv_iconst (v := 1) hx hb dX10_laysImage_30 (by decide) ?_
  refine lv_istore_n (lv' := [(3, .int (1 : Int32)), (0, .ref (ρ x0)), (1, .int x1), (2, .int x2)]) hx hb dX10_laysImage_31 rfl hl (by decide) rfl (fun ls hl => ?_)
  obtain ⟨z28, h28, e28, hf⟩ := pb_some hf
  refine wX10_laysImage_L32 C fu _ e28 ((pext hf).tr hX) hW (lv_sub hl [1, 2, 3, 0] rfl) (fun H locs c1 s1 ls hW hl => ?_)
  obtain ⟨rfl, rfl⟩ := pp_some hf
  exact r_vret C hW dX10_laysImage_148

theorem dX10_laysOperator_0 : decode cX10_laysOperator 0 = .ok (.aload_n 0, 1) := by decide +kernel
theorem dX10_laysOperator_1 : decode cX10_laysOperator 1 = .ok (.invokevirtual 249, 3) := by decide +kernel
theorem dX10_laysOperator_4 : decode cX10_laysOperator 4 = .ok (.iconst 0, 1) := by decide +kernel
theorem dX10_laysOperator_5 : decode cX10_laysOperator 5 = .ok (.istore_n 2, 1) := by decide +kernel
theorem dX10_laysOperator_6 : decode cX10_laysOperator 6 = .ok (.iload_n 2, 1) := by decide +kernel
theorem dX10_laysOperator_7 : decode cX10_laysOperator 7 = .ok (.aload_n 0, 1) := by decide +kernel
theorem dX10_laysOperator_8 : decode cX10_laysOperator 8 = .ok (.getfield 192, 3) := by decide +kernel
theorem dX10_laysOperator_11 : decode cX10_laysOperator 11 = .ok (.if_icmp .ge 70, 3) := by decide +kernel
theorem dX10_laysOperator_14 : decode cX10_laysOperator 14 = .ok (.aload_n 0, 1) := by decide +kernel
theorem dX10_laysOperator_15 : decode cX10_laysOperator 15 = .ok (.iload_n 1, 1) := by decide +kernel
theorem dX10_laysOperator_16 : decode cX10_laysOperator 16 = .ok (.aload_n 0, 1) := by decide +kernel
theorem dX10_laysOperator_17 : decode cX10_laysOperator 17 = .ok (.getfield 38, 3) := by decide +kernel
theorem dX10_laysOperator_20 : decode cX10_laysOperator 20 = .ok (.iload_n 2, 1) := by decide +kernel
theorem dX10_laysOperator_21 : decode cX10_laysOperator 21 = .ok (.iaload, 1) := by decide +kernel
theorem dX10_laysOperator_22 : decode cX10_laysOperator 22 = .ok (.invokevirtual 284, 3) := by decide +kernel
theorem dX10_laysOperator_25 : decode cX10_laysOperator 25 = .ok (.iconst 0, 1) := by decide +kernel
theorem dX10_laysOperator_26 : decode cX10_laysOperator 26 = .ok (.istore_n 3, 1) := by decide +kernel
theorem dX10_laysOperator_27 : decode cX10_laysOperator 27 = .ok (.iload_n 3, 1) := by decide +kernel
theorem dX10_laysOperator_28 : decode cX10_laysOperator 28 = .ok (.aload_n 0, 1) := by decide +kernel
theorem dX10_laysOperator_29 : decode cX10_laysOperator 29 = .ok (.getfield 192, 3) := by decide +kernel
theorem dX10_laysOperator_32 : decode cX10_laysOperator 32 = .ok (.if_icmp .ge 43, 3) := by decide +kernel
theorem dX10_laysOperator_35 : decode cX10_laysOperator 35 = .ok (.aload_n 0, 1) := by decide +kernel
theorem dX10_laysOperator_36 : decode cX10_laysOperator 36 = .ok (.getfield 87, 3) := by decide +kernel
theorem dX10_laysOperator_39 : decode cX10_laysOperator 39 = .ok (.bipush 16, 2) := by decide +kernel
theorem dX10_laysOperator_41 : decode cX10_laysOperator 41 = .ok (.iload_n 3, 1) := by decide +kernel
theorem dX10_laysOperator_42 : decode cX10_laysOperator 42 = .ok (.imul, 1) := by decide +kernel
theorem dX10_laysOperator_43 : decode cX10_laysOperator 43 = .ok (.iload_n 2, 1) := by decide +kernel
theorem dX10_laysOperator_44 : decode cX10_laysOperator 44 = .ok (.iadd, 1) := by decide +kernel
theorem dX10_laysOperator_45 : decode cX10_laysOperator 45 = .ok (.aload_n 0, 1) := by decide +kernel
theorem dX10_laysOperator_46 : decode cX10_laysOperator 46 = .ok (.getfield 81, 3) := by decide +kernel
theorem dX10_laysOperator_49 : decode cX10_laysOperator 49 = .ok (.iload_n 3, 1) := by decide +kernel
theorem dX10_laysOperator_50 : decode cX10_laysOperator 50 = .ok (.laload, 1) := by decide +kernel
theorem dX10_laysOperator_51 : decode cX10_laysOperator 51 = .ok (.lastore, 1) := by decide +kernel
theorem dX10_laysOperator_52 : decode cX10_laysOperator 52 = .ok (.aload_n 0, 1) := by decide +kernel
theorem dX10_laysOperator_53 : decode cX10_laysOperator 53 = .ok (.getfield 90, 3) := by decide +kernel
theorem dX10_laysOperator_56 : decode cX10_laysOperator 56 = .ok (.bipush 16, 2) := by decide +kernel
theorem dX10_laysOperator_58 : decode cX10_laysOperator 58 = .ok (.iload_n 3, 1) := by decide +kernel
theorem dX10_laysOperator_59 : decode cX10_laysOperator 59 = .ok (.imul, 1) := by decide +kernel
theorem dX10_laysOperator_60 : decode cX10_laysOperator 60 = .ok (.iload_n 2, 1) := by decide +kernel
theorem dX10_laysOperator_61 : decode cX10_laysOperator 61 = .ok (.iadd, 1) := by decide +kernel
theorem dX10_laysOperator_62 : decode cX10_laysOperator 62 = .ok (.aload_n 0, 1) := by decide +kernel
theorem dX10_laysOperator_63 : decode cX10_laysOperator 63 = .ok (.getfield 84, 3) := by decide +kernel
theorem dX10_laysOperator_66 : decode cX10_laysOperator 66 = .ok (.iload_n 3, 1) := by decide +kernel
theorem dX10_laysOperator_67 : decode cX10_laysOperator 67 = .ok (.laload, 1) := by decide +kernel
theorem dX10_laysOperator_68 : decode cX10_laysOperator 68 = .ok (.lastore, 1) := by decide +kernel
theorem dX10_laysOperator_69 : decode cX10_laysOperator 69 = .ok (.iinc 3 1, 3) := by decide +kernel
theorem dX10_laysOperator_72 : decode cX10_laysOperator 72 = .ok (.goto (-45), 3) := by decide +kernel
theorem dX10_laysOperator_75 : decode cX10_laysOperator 75 = .ok (.iinc 2 1, 3) := by decide +kernel
theorem dX10_laysOperator_78 : decode cX10_laysOperator 78 = .ok (.goto (-72), 3) := by decide +kernel
theorem dX10_laysOperator_81 : decode cX10_laysOperator 81 = .ok (.return_, 1) := by decide +kernel
theorem kcX10_laysOperator : Cond.code yX10_laysOperator cX10_laysOperator 4 none ∈ tb := tq q_1007 rfl
theorem knX10_laysOperator : Cond.initialized yX10_laysOperator.cls ∈ tb := (tq q_10 rfl)
theorem kdX10_laysOperator : yX10_laysOperator.cls ≠ "java/lang/invoke/MethodHandle" ∧ yX10_laysOperator.cls ≠ "java/lang/invoke/VarHandle" ∧ (parseMethodDescriptor yX10_laysOperator.desc).map (fun d => d.parameters.length) = some 1 := ⟨by decide +kernel, by decide +kernel, by decide +kernel⟩
theorem kiX10_laysOperator : Cond.instanceMethod yX10_laysOperator ∈ tb := (tq q_1006 rfl)
theorem ksX10_laysOperator : Cond.selects yX10_laysOperator.cls yX10_laysOperator yX10_laysOperator ∈ tb := (tq z_58 rfl)
theorem tgX10_laysOperator {x0 : Nat} {x1 : Int32} {h : PH} {r : Unit × PH} (hf : (fX10_laysOperator x0 x1).1 h = some r) : ∃ n x, nth h x0 = some (9, n, x) := by
  obtain ⟨_, _, e, _⟩ := pb_some hf
  exact (chk_some e).2
set_option maxHeartbeats 4000000 in
set_option maxRecDepth 100000 in
theorem wX10_laysOperator_B27 {p : Program} {l : Launch} {e : Env} {s : State} {m : MethodId} {args : Array Value} {below : List Frame} {meth : Method} {c : Code} {G : GG} {ρ : Nat → Nat} {h0 hE hB : PH} {Q : State → Prop} {x0 : Nat} {x1 : Int32} {x2 : Int32} (C : Cx G "PairSymbolsModel" cX10_laysOperator 4 none "laysOperato\x72" p s m args meth c) {x3 : Int32} {h : PH} {H : Heap} {locs : List Loc} {cells slots : Nat} {ls : Array Slot} {r : (Int32) ⊕ (Unit)} (hf : (fX10_laysOperator_b27 x0 x1 x2 x3).1 h = some (r, hB)) (hX : Ext hB hE) (hW : Wd G ρ h0.length (sl h0) s.heap h H locs cells slots) (hl : lv_has ls 4 [(0, .ref (ρ x0)), (1, .int x1), (2, .int x2), (3, .int x3)]) (kc : ∀ y : Int32, r = .inl y → ∀ (H : Heap) (locs : List Loc) (c1 s1 : Nat) (ls : Array Slot), Wd G ρ h0.length (sl h0) s.heap hB H locs c1 s1 → lv_has ls 4 [(0, .ref (ρ x0)), (1, .int x1), (2, .int x2), (3, .int y)] → W p l e (RM 8 207 h0 hE) s m args below meth c H locs c1 s1 Q (F0 m 27 ls [])) (ke : ∀ z : Unit, r = .inr z → ∀ (H : Heap) (locs : List Loc) (c1 s1 : Nat) (ls : Array Slot), Wd G ρ h0.length (sl h0) s.heap hB H locs c1 s1 → lv_has ls 4 [(0, .ref (ρ x0)), (1, .int x1), (2, .int x2)] → W p l e (RM 8 207 h0 hE) s m args below meth c H locs c1 s1 Q (F0 m 75 ls [])) : W p l e (RM 8 207 h0 hE) s m args below meth c H locs cells slots Q (F0 m 27 ls []) := by
  have hx := C.1
  have hb := C.2.1
  unfold fX10_laysOperator_b27 at hf
  refine lv_iload_n hx hb dX10_laysOperator_27 rfl (lv_at hl 3 rfl) ?_
  refine lv_aload_n hx hb dX10_laysOperator_28 rfl (lv_at hl 0 rfl) ?_
  obtain ⟨v9, e9, hf⟩ := pb_rd (rd_gI _ _ _) hf
  refine r_gI C hW e9 flX10_192 rfl dX10_laysOperator_29 ?_
  refine lv_icmp_ge (tgt := 75) hx hb dX10_laysOperator_32 (by decide) (fun c10 => ?_) (fun c10 => ?_)
  · rw [if_pos c10] at hf
    obtain ⟨rfl, rfl⟩ := pp_some hf
    exact ke _ rfl _ _ _ _ _ hW (lv_sub hl [0, 1, 2] rfl)
  · rw [if_neg c10] at hf
    refine lv_aload_n hx hb dX10_laysOperator_35 rfl (lv_at hl 0 rfl) ?_
    obtain ⟨v11, e11, hf⟩ := pb_rd (rd_gA _ _ _) hf
    refine r_gA C hW e11 flX10_87 rfl dX10_laysOperator_36 ?_
    refine lv_bipush (v := 16) hx hb dX10_laysOperator_39 (by decide) ?_
    refine lv_iload_n hx hb dX10_laysOperator_41 rfl (lv_at hl 3 rfl) ?_
    refine lv_imul hx hb dX10_laysOperator_42 ?_
    refine lv_iload_n hx hb dX10_laysOperator_43 rfl (lv_at hl 2 rfl) ?_
    refine lv_iadd hx hb dX10_laysOperator_44 ?_
    refine lv_aload_n hx hb dX10_laysOperator_45 rfl (lv_at hl 0 rfl) ?_
    obtain ⟨v12, e12, hf⟩ := pb_rd (rd_gA _ _ _) hf
    refine r_gA C hW e12 flX10_81 rfl dX10_laysOperator_46 ?_
    refine lv_iload_n hx hb dX10_laysOperator_49 rfl (lv_at hl 3 rfl) ?_
    obtain ⟨v13, e13, hf⟩ := pb_rd (rd_lJ _ _ _) hf
    refine r_lald C hW e13 dX10_laysOperator_50 ?_
    obtain ⟨_, h14, e14, hf⟩ := pb_some hf
    refine r_last C hW e14 dX10_laysOperator_51 (fun H locs hW => ?_)
    refine lv_aload_n hx hb dX10_laysOperator_52 rfl (lv_at hl 0 rfl) ?_
    obtain ⟨v15, e15, hf⟩ := pb_rd (rd_gA _ _ _) hf
    refine r_gA C hW e15 flX10_90 rfl dX10_laysOperator_53 ?_
    refine lv_bipush (v := 16) hx hb dX10_laysOperator_56 (by decide) ?_
    refine lv_iload_n hx hb dX10_laysOperator_58 rfl (lv_at hl 3 rfl) ?_
    refine lv_imul hx hb dX10_laysOperator_59 ?_
    refine lv_iload_n hx hb dX10_laysOperator_60 rfl (lv_at hl 2 rfl) ?_
    refine lv_iadd hx hb dX10_laysOperator_61 ?_
    refine lv_aload_n hx hb dX10_laysOperator_62 rfl (lv_at hl 0 rfl) ?_
    obtain ⟨v16, e16, hf⟩ := pb_rd (rd_gA _ _ _) hf
    refine r_gA C hW e16 flX10_84 rfl dX10_laysOperator_63 ?_
    refine lv_iload_n hx hb dX10_laysOperator_66 rfl (lv_at hl 3 rfl) ?_
    obtain ⟨v17, e17, hf⟩ := pb_rd (rd_lJ _ _ _) hf
    refine r_lald C hW e17 dX10_laysOperator_67 ?_
    obtain ⟨_, h18, e18, hf⟩ := pb_some hf
    refine r_last C hW e18 dX10_laysOperator_68 (fun H locs hW => ?_)
    refine lv_iinc (v := (x3 + 1)) (lv' := [(3, .int (x3 + 1)), (0, .ref (ρ x0)), (1, .int x1), (2, .int x2)]) hx hb dX10_laysOperator_69 hl (k := 3) rfl rfl (by decide) rfl (fun ls hl => ?_)
    refine lv_goto (tgt := 27) hx hb dX10_laysOperator_72 (by decide) ?_
    obtain ⟨rfl, rfl⟩ := pp_some hf
    exact kc _ rfl _ _ _ _ _ hW (lv_sub hl [1, 2, 3, 0] rfl)
set_option maxHeartbeats 4000000 in
theorem wX10_laysOperator_L27 {p : Program} {l : Launch} {e : Env} {s : State} {m : MethodId} {args : Array Value} {below : List Frame} {meth : Method} {c : Code} {G : GG} {ρ : Nat → Nat} {h0 hE hB : PH} {Q : State → Prop} {x0 : Nat} {x1 : Int32} {x2 : Int32} (C : Cx G "PairSymbolsModel" cX10_laysOperator 4 none "laysOperato\x72" p s m args meth c) {z : (Unit)} (n : Nat) : ∀ (x : Int32) {h : PH} {H : Heap} {locs : List Loc} {cells slots : Nat} {ls : Array Slot}, (plo (fX10_laysOperator_B27 x0 x1 x2) n x).1 h = some (z, hB) → Ext hB hE → Wd G ρ h0.length (sl h0) s.heap h H locs cells slots → lv_has ls 4 [(0, .ref (ρ x0)), (1, .int x1), (2, .int x2), (3, .int x)] → (ke : ∀ (H : Heap) (locs : List Loc) (c1 s1 : Nat) (ls : Array Slot), Wd G ρ h0.length (sl h0) s.heap hB H locs c1 s1 → lv_has ls 4 [(0, .ref (ρ x0)), (1, .int x1), (2, .int x2)] → W p l e (RM 8 207 h0 hE) s m args below meth c H locs c1 s1 Q (F0 m 75 ls [])) → W p l e (RM 8 207 h0 hE) s m args below meth c H locs cells slots Q (F0 m 27 ls []) := by
  induction n with
  | zero =>
    intro x h H locs cells slots ls hf
    rw [plo_0] at hf
    exact (pf_no hf).elim
  | succ n ih =>
    intro x h H locs cells slots ls hf hX hW hl ke
    rw [plo_s] at hf
    obtain ⟨r, h1, e1, hf⟩ := pb_some hf
    unfold fX10_laysOperator_B27 at e1
    rw [frI_eq] at e1
    refine wX10_laysOperator_B27 C e1 ((pext hf).tr hX) hW hl (fun y hr H locs c1 s1 ls hW hl => ?_) (fun y hr H locs c1 s1 ls hW hl => ?_)
    · subst hr
      exact ih y hf hX hW hl ke
    · subst hr
      obtain ⟨rfl, rfl⟩ := pp_some hf
      exact ke H locs c1 s1 ls hW hl
set_option maxHeartbeats 4000000 in
set_option maxRecDepth 100000 in
theorem wX10_laysOperator_B6 {p : Program} {l : Launch} {e : Env} {s : State} {m : MethodId} {args : Array Value} {below : List Frame} {meth : Method} {c : Code} {G : GG} {ρ : Nat → Nat} {h0 hE hB : PH} {Q : State → Prop} {x0 : Nat} {x1 : Int32} (C : Cx G "PairSymbolsModel" cX10_laysOperator 4 none "laysOperato\x72" p s m args meth c) {x2 : Int32} {h : PH} {H : Heap} {locs : List Loc} {cells slots : Nat} {ls : Array Slot} {r : (Int32) ⊕ (Unit)} (hf : (fX10_laysOperator_b6 x0 x1 x2).1 h = some (r, hB)) (hX : Ext hB hE) (hW : Wd G ρ h0.length (sl h0) s.heap h H locs cells slots) (hl : lv_has ls 4 [(0, .ref (ρ x0)), (1, .int x1), (2, .int x2)]) (kc : ∀ y : Int32, r = .inl y → ∀ (H : Heap) (locs : List Loc) (c1 s1 : Nat) (ls : Array Slot), Wd G ρ h0.length (sl h0) s.heap hB H locs c1 s1 → lv_has ls 4 [(0, .ref (ρ x0)), (1, .int x1), (2, .int y)] → W p l e (RM 8 207 h0 hE) s m args below meth c H locs c1 s1 Q (F0 m 6 ls [])) (ke : ∀ z : Unit, r = .inr z → ∀ (H : Heap) (locs : List Loc) (c1 s1 : Nat) (ls : Array Slot), Wd G ρ h0.length (sl h0) s.heap hB H locs c1 s1 → lv_has ls 4 [] → W p l e (RM 8 207 h0 hE) s m args below meth c H locs c1 s1 Q (F0 m 81 ls [])) : W p l e (RM 8 207 h0 hE) s m args below meth c H locs cells slots Q (F0 m 6 ls []) := by
  have hx := C.1
  have hb := C.2.1
  unfold fX10_laysOperator_b6 at hf
  refine lv_iload_n hx hb dX10_laysOperator_6 rfl (lv_at hl 2 rfl) ?_
  refine lv_aload_n hx hb dX10_laysOperator_7 rfl (lv_at hl 0 rfl) ?_
  obtain ⟨v3, e3, hf⟩ := pb_rd (rd_gI _ _ _) hf
  refine r_gI C hW e3 flX10_192 rfl dX10_laysOperator_8 ?_
  refine lv_icmp_ge (tgt := 81) hx hb dX10_laysOperator_11 (by decide) (fun c4 => ?_) (fun c4 => ?_)
  · rw [if_pos c4] at hf
    obtain ⟨rfl, rfl⟩ := pp_some hf
    exact ke _ rfl _ _ _ _ _ hW (lv_sub hl [] rfl)
  · rw [if_neg c4] at hf
    refine lv_aload_n hx hb dX10_laysOperator_14 rfl (lv_at hl 0 rfl) ?_
    refine lv_iload_n hx hb dX10_laysOperator_15 rfl (lv_at hl 1 rfl) ?_
    refine lv_aload_n hx hb dX10_laysOperator_16 rfl (lv_at hl 0 rfl) ?_
    obtain ⟨v5, e5, hf⟩ := pb_rd (rd_gA _ _ _) hf
    refine r_gA C hW e5 flX10_38 rfl dX10_laysOperator_17 ?_
    refine lv_iload_n hx hb dX10_laysOperator_20 rfl (lv_at hl 2 rfl) ?_
    obtain ⟨v6, e6, hf⟩ := pb_rd (rd_lI _ _ _) hf
    refine r_iald C hW e6 dX10_laysOperator_21 ?_
    obtain ⟨_, h7, e7, hf⟩ := pb_some hf
    obtain ⟨_, _, t8⟩ := tgX10_laysImage e7
    refine r_callv hW (pext e7) (run_V (b := x0) (As := [.int x1, .int v6]) (rest := []) C hW (metX10_laysImage l G ρ e7) ⟨rfl, rfl⟩ kcX10_laysImage (tq q_1008 rfl) kiX10_laysImage ksX10_laysImage knX10_laysImage kdX10_laysImage t8 rfl rfl ⟨Nat.le_of_ble_eq_true rfl, Nat.le_of_ble_eq_true rfl⟩ hl.1 (Nat.le_of_ble_eq_true rfl) (room_of hW (pext e7) ((pext hf).tr hX)) dX10_laysOperator_22 rfl) (fun H locs c1 s1 hW => ?_)
    refine lv_iconst (v := 0) hx hb dX10_laysOperator_25 (by decide) ?_
    refine lv_istore_n (lv' := [(3, .int (0 : Int32)), (0, .ref (ρ x0)), (1, .int x1), (2, .int x2)]) hx hb dX10_laysOperator_26 rfl hl (by decide) rfl (fun ls hl => ?_)
    obtain ⟨z19, h19, e19, hf⟩ := pb_some hf
    refine wX10_laysOperator_L27 C fu _ e19 ((pext hf).tr hX) hW (lv_sub hl [1, 2, 3, 0] rfl) (fun H locs c1 s1 ls hW hl => ?_)
    refine lv_iinc (v := (x2 + 1)) (lv' := [(2, .int (x2 + 1)), (0, .ref (ρ x0)), (1, .int x1)]) hx hb dX10_laysOperator_75 hl (k := 2) rfl rfl (by decide) rfl (fun ls hl => ?_)
    refine lv_goto (tgt := 6) hx hb dX10_laysOperator_78 (by decide) ?_
    obtain ⟨rfl, rfl⟩ := pp_some hf
    exact kc _ rfl _ _ _ _ _ hW (lv_sub hl [1, 2, 0] rfl)
set_option maxHeartbeats 4000000 in
theorem wX10_laysOperator_L6 {p : Program} {l : Launch} {e : Env} {s : State} {m : MethodId} {args : Array Value} {below : List Frame} {meth : Method} {c : Code} {G : GG} {ρ : Nat → Nat} {h0 hE hB : PH} {Q : State → Prop} {x0 : Nat} {x1 : Int32} (C : Cx G "PairSymbolsModel" cX10_laysOperator 4 none "laysOperato\x72" p s m args meth c) {z : (Unit)} (n : Nat) : ∀ (x : Int32) {h : PH} {H : Heap} {locs : List Loc} {cells slots : Nat} {ls : Array Slot}, (plo (fX10_laysOperator_B6 x0 x1) n x).1 h = some (z, hB) → Ext hB hE → Wd G ρ h0.length (sl h0) s.heap h H locs cells slots → lv_has ls 4 [(0, .ref (ρ x0)), (1, .int x1), (2, .int x)] → (ke : ∀ (H : Heap) (locs : List Loc) (c1 s1 : Nat) (ls : Array Slot), Wd G ρ h0.length (sl h0) s.heap hB H locs c1 s1 → lv_has ls 4 [] → W p l e (RM 8 207 h0 hE) s m args below meth c H locs c1 s1 Q (F0 m 81 ls [])) → W p l e (RM 8 207 h0 hE) s m args below meth c H locs cells slots Q (F0 m 6 ls []) := by
  induction n with
  | zero =>
    intro x h H locs cells slots ls hf
    rw [plo_0] at hf
    exact (pf_no hf).elim
  | succ n ih =>
    intro x h H locs cells slots ls hf hX hW hl ke
    rw [plo_s] at hf
    obtain ⟨r, h1, e1, hf⟩ := pb_some hf
    unfold fX10_laysOperator_B6 at e1
    rw [frI_eq] at e1
    refine wX10_laysOperator_B6 C e1 ((pext hf).tr hX) hW hl (fun y hr H locs c1 s1 ls hW hl => ?_) (fun y hr H locs c1 s1 ls hW hl => ?_)
    · subst hr
      exact ih y hf hX hW hl ke
    · subst hr
      obtain ⟨rfl, rfl⟩ := pp_some hf
      exact ke H locs c1 s1 ls hW hl
set_option maxHeartbeats 4000000 in
set_option maxRecDepth 100000 in
theorem metX10_laysOperator (l : Launch) (G : GG) (ρ : Nat → Nat) {z : Nat} {x0 : Nat} {x1 : Int32} {h hE : PH} {v : Unit} (hf : (fX10_laysOperator x0 x1).1 h = some (v, hE)) : Met l yX10_laysOperator (wsY yX10_laysOperator cX10_laysOperator 4 none) (RM 8 207 h hE) (va_Pc [.ref (ρ x0), .int x1] (PcB G ρ h z)) (QV G ρ hE h.length z) (DC h hE) (DS h hE) (Af ρ h.length z) := by
  refine met_start (by decide) (Nat.le_of_ble_eq_true rfl) ?_
  intro p e s m below meth c ls hz C hW hl
  subst hz
  have C : Cx G "PairSymbolsModel" cX10_laysOperator 4 none "laysOperato\x72" p s m _ meth c := C
  have hx := C.1
  have hb := C.2.1
  have hX : Ext hE hE := Ext.rf hE
  have hl : lv_has ls 4 [(0, .ref (ρ x0)), (1, .int x1)] := hl
  have hW : Wd G ρ h.length (sl h) s.heap h s.heap [] 0 0 := hW
  unfold fX10_laysOperator at hf
  obtain ⟨_, e0, hf⟩ := pb_rd (rd_chk _ _) hf
  refine lv_aload_n hx hb dX10_laysOperator_0 rfl (lv_at hl 0 rfl) ?_
  obtain ⟨_, h1, e1, hf⟩ := pb_some hf
  obtain ⟨_, _, t2⟩ := tgX10_lays e1
  refine r_callv hW (pext e1) (run_V (b := x0) (As := []) (rest := []) C hW (metX10_lays l G ρ e1) ⟨rfl, rfl⟩ kcX10_lays (tq q_857 rfl) kiX10_lays ksX10_lays knX10_lays kdX10_lays t2 rfl rfl ⟨Nat.le_of_ble_eq_true rfl, Nat.le_of_ble_eq_true rfl⟩ hl.1 (Nat.le_of_ble_eq_true rfl) (room_of hW (pext e1) ((pext hf).tr hX)) dX10_laysOperator_1 rfl) (fun H locs c1 s1 hW => ?_)
  refine lv_iconst (v := 0) hx hb dX10_laysOperator_4 (by decide) ?_
  refine lv_istore_n (lv' := [(2, .int (0 : Int32)), (0, .ref (ρ x0)), (1, .int x1)]) hx hb dX10_laysOperator_5 rfl hl (by decide) rfl (fun ls hl => ?_)
  obtain ⟨z20, h20, e20, hf⟩ := pb_some hf
  refine wX10_laysOperator_L6 C fu _ e20 ((pext hf).tr hX) hW (lv_sub hl [1, 2, 0] rfl) (fun H locs c1 s1 ls hW hl => ?_)
  obtain ⟨rfl, rfl⟩ := pp_some hf
  exact r_vret C hW dX10_laysOperator_81

theorem dX10_table_0 : decode cX10_table 0 = .ok (.aload_n 0, 1) := by decide +kernel
theorem dX10_table_1 : decode cX10_table 1 = .ok (.iload_n 1, 1) := by decide +kernel
theorem dX10_table_2 : decode cX10_table 2 = .ok (.invokevirtual 287, 3) := by decide +kernel
theorem dX10_table_5 : decode cX10_table 5 = .ok (.istore 5, 2) := by decide +kernel
theorem dX10_table_7 : decode cX10_table 7 = .ok (.aload_n 0, 1) := by decide +kernel
theorem dX10_table_8 : decode cX10_table 8 = .ok (.invokevirtual 249, 3) := by decide +kernel
theorem dX10_table_11 : decode cX10_table 11 = .ok (.iload 5, 2) := by decide +kernel
theorem dX10_table_13 : decode cX10_table 13 = .ok (.bipush (-2), 2) := by decide +kernel
theorem dX10_table_15 : decode cX10_table 15 = .ok (.if_icmp .eq 46, 3) := by decide +kernel
theorem dX10_table_18 : decode cX10_table 18 = .ok (.iload_n 2, 1) := by decide +kernel
theorem dX10_table_19 : decode cX10_table 19 = .ok (.i2l, 1) := by decide +kernel
theorem dX10_table_20 : decode cX10_table 20 = .ok (.lconst 0, 1) := by decide +kernel
theorem dX10_table_21 : decode cX10_table 21 = .ok (.aload_n 0, 1) := by decide +kernel
theorem dX10_table_22 : decode cX10_table 22 = .ok (.getfield 192, 3) := by decide +kernel
theorem dX10_table_25 : decode cX10_table 25 = .ok (.iconst 1, 1) := by decide +kernel
theorem dX10_table_26 : decode cX10_table 26 = .ok (.isub, 1) := by decide +kernel
theorem dX10_table_27 : decode cX10_table 27 = .ok (.i2l, 1) := by decide +kernel
theorem dX10_table_28 : decode cX10_table 28 = .ok (.invokestatic 236, 3) := by decide +kernel
theorem dX10_table_31 : decode cX10_table 31 = .ok (.ifCond .eq 30, 3) := by decide +kernel
theorem dX10_table_34 : decode cX10_table 34 = .ok (.iload_n 3, 1) := by decide +kernel
theorem dX10_table_35 : decode cX10_table 35 = .ok (.i2l, 1) := by decide +kernel
theorem dX10_table_36 : decode cX10_table 36 = .ok (.lconst 0, 1) := by decide +kernel
theorem dX10_table_37 : decode cX10_table 37 = .ok (.aload_n 0, 1) := by decide +kernel
theorem dX10_table_38 : decode cX10_table 38 = .ok (.getfield 192, 3) := by decide +kernel
theorem dX10_table_41 : decode cX10_table 41 = .ok (.iconst 1, 1) := by decide +kernel
theorem dX10_table_42 : decode cX10_table 42 = .ok (.isub, 1) := by decide +kernel
theorem dX10_table_43 : decode cX10_table 43 = .ok (.i2l, 1) := by decide +kernel
theorem dX10_table_44 : decode cX10_table 44 = .ok (.invokestatic 236, 3) := by decide +kernel
theorem dX10_table_47 : decode cX10_table 47 = .ok (.ifCond .eq 14, 3) := by decide +kernel
theorem dX10_table_50 : decode cX10_table 50 = .ok (.iload 4, 2) := by decide +kernel
theorem dX10_table_52 : decode cX10_table 52 = .ok (.i2l, 1) := by decide +kernel
theorem dX10_table_53 : decode cX10_table 53 = .ok (.lconst 0, 1) := by decide +kernel
theorem dX10_table_54 : decode cX10_table 54 = .ok (.lconst 1, 1) := by decide +kernel
theorem dX10_table_55 : decode cX10_table 55 = .ok (.invokestatic 236, 3) := by decide +kernel
theorem dX10_table_58 : decode cX10_table 58 = .ok (.ifCond .ne 11, 3) := by decide +kernel
theorem dX10_table_61 : decode cX10_table 61 = .ok (.aload_n 0, 1) := by decide +kernel
theorem dX10_table_62 : decode cX10_table 62 = .ok (.bipush (-2), 2) := by decide +kernel
theorem dX10_table_64 : decode cX10_table 64 = .ok (.invokevirtual 240, 3) := by decide +kernel
theorem dX10_table_67 : decode cX10_table 67 = .ok (.i2l, 1) := by decide +kernel
theorem dX10_table_68 : decode cX10_table 68 = .ok (.lreturn, 1) := by decide +kernel
theorem dX10_table_69 : decode cX10_table 69 = .ok (.iload 5, 2) := by decide +kernel
theorem dX10_table_71 : decode cX10_table 71 = .ok (.bipush (-3), 2) := by decide +kernel
theorem dX10_table_73 : decode cX10_table 73 = .ok (.if_icmp .ne 11, 3) := by decide +kernel
theorem dX10_table_76 : decode cX10_table 76 = .ok (.aload_n 0, 1) := by decide +kernel
theorem dX10_table_77 : decode cX10_table 77 = .ok (.bipush (-3), 2) := by decide +kernel
theorem dX10_table_79 : decode cX10_table 79 = .ok (.invokevirtual 240, 3) := by decide +kernel
theorem dX10_table_82 : decode cX10_table 82 = .ok (.i2l, 1) := by decide +kernel
theorem dX10_table_83 : decode cX10_table 83 = .ok (.lreturn, 1) := by decide +kernel
theorem dX10_table_84 : decode cX10_table 84 = .ok (.aload_n 0, 1) := by decide +kernel
theorem dX10_table_85 : decode cX10_table 85 = .ok (.iload_n 1, 1) := by decide +kernel
theorem dX10_table_86 : decode cX10_table 86 = .ok (.invokevirtual 290, 3) := by decide +kernel
theorem dX10_table_89 : decode cX10_table 89 = .ok (.iload 4, 2) := by decide +kernel
theorem dX10_table_91 : decode cX10_table 91 = .ok (.ifCond .ne 17, 3) := by decide +kernel
theorem dX10_table_94 : decode cX10_table 94 = .ok (.aload_n 0, 1) := by decide +kernel
theorem dX10_table_95 : decode cX10_table 95 = .ok (.getfield 87, 3) := by decide +kernel
theorem dX10_table_98 : decode cX10_table 98 = .ok (.bipush 16, 2) := by decide +kernel
theorem dX10_table_100 : decode cX10_table 100 = .ok (.iload_n 2, 1) := by decide +kernel
theorem dX10_table_101 : decode cX10_table 101 = .ok (.imul, 1) := by decide +kernel
theorem dX10_table_102 : decode cX10_table 102 = .ok (.iload_n 3, 1) := by decide +kernel
theorem dX10_table_103 : decode cX10_table 103 = .ok (.iadd, 1) := by decide +kernel
theorem dX10_table_104 : decode cX10_table 104 = .ok (.laload, 1) := by decide +kernel
theorem dX10_table_105 : decode cX10_table 105 = .ok (.goto 14, 3) := by decide +kernel
theorem dX10_table_108 : decode cX10_table 108 = .ok (.aload_n 0, 1) := by decide +kernel
theorem dX10_table_109 : decode cX10_table 109 = .ok (.getfield 90, 3) := by decide +kernel
theorem dX10_table_112 : decode cX10_table 112 = .ok (.bipush 16, 2) := by decide +kernel
theorem dX10_table_114 : decode cX10_table 114 = .ok (.iload_n 2, 1) := by decide +kernel
theorem dX10_table_115 : decode cX10_table 115 = .ok (.imul, 1) := by decide +kernel
theorem dX10_table_116 : decode cX10_table 116 = .ok (.iload_n 3, 1) := by decide +kernel
theorem dX10_table_117 : decode cX10_table 117 = .ok (.iadd, 1) := by decide +kernel
theorem dX10_table_118 : decode cX10_table 118 = .ok (.laload, 1) := by decide +kernel
theorem dX10_table_119 : decode cX10_table 119 = .ok (.lreturn, 1) := by decide +kernel
theorem kcX10_table : Cond.code yX10_table cX10_table 6 (some .long) ∈ tb := tq q_998 rfl
theorem knX10_table : Cond.initialized yX10_table.cls ∈ tb := (tq q_10 rfl)
theorem kdX10_table : yX10_table.cls ≠ "java/lang/invoke/MethodHandle" ∧ yX10_table.cls ≠ "java/lang/invoke/VarHandle" ∧ (parseMethodDescriptor yX10_table.desc).map (fun d => d.parameters.length) = some 4 := ⟨by decide +kernel, by decide +kernel, by decide +kernel⟩
theorem kiX10_table : Cond.instanceMethod yX10_table ∈ tb := (tq q_996 rfl)
theorem ksX10_table : Cond.selects yX10_table.cls yX10_table yX10_table ∈ tb := (tq q_997 rfl)
theorem tgX10_table {x0 : Nat} {x1 : Int32} {x2 : Int32} {x3 : Int32} {x4 : Int32} {h : PH} {r : Int64 × PH} (hf : (fX10_table x0 x1 x2 x3 x4).1 h = some r) : ∃ n x, nth h x0 = some (9, n, x) := by
  obtain ⟨_, _, e, _⟩ := pb_some hf
  exact (chk_some e).2
set_option maxHeartbeats 4000000 in
set_option maxRecDepth 100000 in
theorem metX10_table (l : Launch) (G : GG) (ρ : Nat → Nat) {z : Nat} {x0 : Nat} {x1 : Int32} {x2 : Int32} {x3 : Int32} {x4 : Int32} {h hE : PH} {v : Int64} (hf : (fX10_table x0 x1 x2 x3 x4).1 h = some (v, hE)) : Met l yX10_table (wsY yX10_table cX10_table 6 (some .long)) (RM 9 230 h hE) (va_Pc [.ref (ρ x0), .int x1, .int x2, .int x3, .int x4] (PcB G ρ h z)) (QL G ρ v hE h.length z) (DC h hE) (DS h hE) (Af ρ h.length z) := by
  refine met_start (by decide) (Nat.le_of_ble_eq_true rfl) ?_
  intro p e s m below meth c ls hz C hW hl
  subst hz
  have C : Cx G "PairSymbolsModel" cX10_table 6 (some .long) "table" p s m _ meth c := C
  have hx := C.1
  have hb := C.2.1
  have hX : Ext hE hE := Ext.rf hE
  have hl : lv_has ls 6 [(0, .ref (ρ x0)), (1, .int x1), (2, .int x2), (3, .int x3), (4, .int x4)] := hl
  have hW : Wd G ρ h.length (sl h) s.heap h s.heap [] 0 0 := hW
  unfold fX10_table at hf
  obtain ⟨_, e0, hf⟩ := pb_rd (rd_chk _ _) hf
  refine lv_aload_n hx hb dX10_table_0 rfl (lv_at hl 0 rfl) ?_
  refine lv_iload_n hx hb dX10_table_1 rfl (lv_at hl 1 rfl) ?_
  obtain ⟨v1, h1, e1, hf⟩ := pb_some hf
  obtain ⟨_, _, t2⟩ := tgX10_canOperate e1
  refine r_calli hW (pext e1) (run_V (b := x0) (As := [.int x1]) (rest := []) C hW (metX10_canOperate l G ρ e1) ⟨rfl, rfl⟩ kcX10_canOperate (tq q_999 rfl) kiX10_canOperate ksX10_canOperate knX10_canOperate kdX10_canOperate t2 rfl rfl ⟨Nat.le_of_ble_eq_true rfl, Nat.le_of_ble_eq_true rfl⟩ hl.1 (Nat.le_of_ble_eq_true rfl) (room_of hW (pext e1) ((pext hf).tr hX)) dX10_table_2 rfl) (fun H locs c1 s1 hW => ?_)
  refine lv_istore (lv' := [(5, .int v1), (0, .ref (ρ x0)), (1, .int x1), (2, .int x2), (3, .int x3), (4, .int x4)]) hx hb dX10_table_5 hl (by decide) rfl (fun ls hl => ?_)
  refine lv_aload_n hx hb dX10_table_7 rfl (lv_at hl 1 rfl) ?_
  obtain ⟨_, h3, e3, hf⟩ := pb_some hf
  obtain ⟨_, _, t4⟩ := tgX10_lays e3
  refine r_callv hW (pext e3) (run_V (b := x0) (As := []) (rest := []) C hW (metX10_lays l G ρ e3) ⟨rfl, rfl⟩ kcX10_lays (tq q_857 rfl) kiX10_lays ksX10_lays knX10_lays kdX10_lays t4 rfl rfl ⟨Nat.le_of_ble_eq_true rfl, Nat.le_of_ble_eq_true rfl⟩ hl.1 (Nat.le_of_ble_eq_true rfl) (room_of hW (pext e3) ((pext hf).tr hX)) dX10_table_8 rfl) (fun H locs c1 s1 hW => ?_)
  refine lv_iload hx hb dX10_table_11 (lv_at hl 0 rfl) ?_
  refine lv_bipush (v := -2) hx hb dX10_table_13 (by decide) ?_
  refine lv_icmp_eq (tgt := 61) hx hb dX10_table_15 (by decide) (fun c5 => ?_) (fun c5 => ?_)
  · rw [if_pos c5] at hf
    refine lv_aload_n hx hb dX10_table_61 rfl (lv_at hl 1 rfl) ?_
    refine lv_bipush (v := -2) hx hb dX10_table_62 (by decide) ?_
    obtain ⟨v6, h6, e6, hf⟩ := pb_some hf
    obtain ⟨_, _, t7⟩ := tgX10_refuses e6
    refine r_calli hW (pext e6) (run_V (b := x0) (As := [.int (-2 : Int32)]) (rest := []) C hW (metX10_refuses l G ρ e6) ⟨rfl, rfl⟩ kcX10_refuses (tq q_837 rfl) kiX10_refuses ksX10_refuses knX10_refuses kdX10_refuses t7 rfl rfl ⟨Nat.le_of_ble_eq_true rfl, Nat.le_of_ble_eq_true rfl⟩ hl.1 (Nat.le_of_ble_eq_true rfl) (room_of hW (pext e6) ((pext hf).tr hX)) dX10_table_64 rfl) (fun H locs c1 s1 hW => ?_)
    refine lv_i2l (v := v6.toInt64) hx hb dX10_table_67 rfl ?_
    obtain ⟨rfl, rfl⟩ := pp_some hf
    exact r_lret C hW dX10_table_68
  · rw [if_neg c5] at hf
    refine lv_iload_n hx hb dX10_table_18 rfl (lv_at hl 3 rfl) ?_
    refine lv_i2l (v := x2.toInt64) hx hb dX10_table_19 rfl ?_
    refine lv_lconst (v := 0) hx hb dX10_table_20 (by decide) ?_
    refine lv_aload_n hx hb dX10_table_21 rfl (lv_at hl 1 rfl) ?_
    obtain ⟨v8, e8, hf⟩ := pb_rd (rd_gI _ _ _) hf
    refine r_gI C hW e8 flX10_192 rfl dX10_table_22 ?_
    refine lv_iconst (v := 1) hx hb dX10_table_25 (by decide) ?_
    refine lv_isub hx hb dX10_table_26 ?_
    refine lv_i2l (v := (v8 - (1 : Int32)).toInt64) hx hb dX10_table_27 rfl ?_
    obtain ⟨v9, h9, e9, hf⟩ := pb_some hf
    refine r_calli hW (pext e9) (run_S (As := [.long x2.toInt64, .long (0 : Int64), .long (v8 - (1 : Int32)).toInt64]) (rest := []) C hW (metX10_in l G ρ e9) ⟨rfl, rfl⟩ kcX10_in (tq q_834 rfl) kiX10_in knX10_in kdX10_in ⟨Nat.le_of_ble_eq_true rfl, Nat.le_of_ble_eq_true rfl⟩ hl.1 (Nat.le_of_ble_eq_true rfl) (room_of hW (pext e9) ((pext hf).tr hX)) dX10_table_28 rfl) (fun H locs c1 s1 hW => ?_)
    refine lv_if_eq (tgt := 61) hx hb dX10_table_31 (by decide) (fun c10 => ?_) (fun c10 => ?_)
    · rw [if_pos c10] at hf
      refine lv_aload_n hx hb dX10_table_61 rfl (lv_at hl 1 rfl) ?_
      refine lv_bipush (v := -2) hx hb dX10_table_62 (by decide) ?_
      obtain ⟨v11, h11, e11, hf⟩ := pb_some hf
      obtain ⟨_, _, t12⟩ := tgX10_refuses e11
      refine r_calli hW (pext e11) (run_V (b := x0) (As := [.int (-2 : Int32)]) (rest := []) C hW (metX10_refuses l G ρ e11) ⟨rfl, rfl⟩ kcX10_refuses (tq q_837 rfl) kiX10_refuses ksX10_refuses knX10_refuses kdX10_refuses t12 rfl rfl ⟨Nat.le_of_ble_eq_true rfl, Nat.le_of_ble_eq_true rfl⟩ hl.1 (Nat.le_of_ble_eq_true rfl) (room_of hW (pext e11) ((pext hf).tr hX)) dX10_table_64 rfl) (fun H locs c1 s1 hW => ?_)
      refine lv_i2l (v := v11.toInt64) hx hb dX10_table_67 rfl ?_
      obtain ⟨rfl, rfl⟩ := pp_some hf
      exact r_lret C hW dX10_table_68
    · rw [if_neg c10] at hf
      refine lv_iload_n hx hb dX10_table_34 rfl (lv_at hl 4 rfl) ?_
      refine lv_i2l (v := x3.toInt64) hx hb dX10_table_35 rfl ?_
      refine lv_lconst (v := 0) hx hb dX10_table_36 (by decide) ?_
      refine lv_aload_n hx hb dX10_table_37 rfl (lv_at hl 1 rfl) ?_
      obtain ⟨v13, e13, hf⟩ := pb_rd (rd_gI _ _ _) hf
      refine r_gI C hW e13 flX10_192 rfl dX10_table_38 ?_
      refine lv_iconst (v := 1) hx hb dX10_table_41 (by decide) ?_
      refine lv_isub hx hb dX10_table_42 ?_
      refine lv_i2l (v := (v13 - (1 : Int32)).toInt64) hx hb dX10_table_43 rfl ?_
      obtain ⟨v14, h14, e14, hf⟩ := pb_some hf
      refine r_calli hW (pext e14) (run_S (As := [.long x3.toInt64, .long (0 : Int64), .long (v13 - (1 : Int32)).toInt64]) (rest := []) C hW (metX10_in l G ρ e14) ⟨rfl, rfl⟩ kcX10_in (tq q_834 rfl) kiX10_in knX10_in kdX10_in ⟨Nat.le_of_ble_eq_true rfl, Nat.le_of_ble_eq_true rfl⟩ hl.1 (Nat.le_of_ble_eq_true rfl) (room_of hW (pext e14) ((pext hf).tr hX)) dX10_table_44 rfl) (fun H locs c1 s1 hW => ?_)
      refine lv_if_eq (tgt := 61) hx hb dX10_table_47 (by decide) (fun c15 => ?_) (fun c15 => ?_)
      · rw [if_pos c15] at hf
        refine lv_aload_n hx hb dX10_table_61 rfl (lv_at hl 1 rfl) ?_
        refine lv_bipush (v := -2) hx hb dX10_table_62 (by decide) ?_
        obtain ⟨v16, h16, e16, hf⟩ := pb_some hf
        obtain ⟨_, _, t17⟩ := tgX10_refuses e16
        refine r_calli hW (pext e16) (run_V (b := x0) (As := [.int (-2 : Int32)]) (rest := []) C hW (metX10_refuses l G ρ e16) ⟨rfl, rfl⟩ kcX10_refuses (tq q_837 rfl) kiX10_refuses ksX10_refuses knX10_refuses kdX10_refuses t17 rfl rfl ⟨Nat.le_of_ble_eq_true rfl, Nat.le_of_ble_eq_true rfl⟩ hl.1 (Nat.le_of_ble_eq_true rfl) (room_of hW (pext e16) ((pext hf).tr hX)) dX10_table_64 rfl) (fun H locs c1 s1 hW => ?_)
        refine lv_i2l (v := v16.toInt64) hx hb dX10_table_67 rfl ?_
        obtain ⟨rfl, rfl⟩ := pp_some hf
        exact r_lret C hW dX10_table_68
      · rw [if_neg c15] at hf
        refine lv_iload hx hb dX10_table_50 (lv_at hl 5 rfl) ?_
        refine lv_i2l (v := x4.toInt64) hx hb dX10_table_52 rfl ?_
        refine lv_lconst (v := 0) hx hb dX10_table_53 (by decide) ?_
        refine lv_lconst (v := 1) hx hb dX10_table_54 (by decide) ?_
        obtain ⟨v18, h18, e18, hf⟩ := pb_some hf
        refine r_calli hW (pext e18) (run_S (As := [.long x4.toInt64, .long (0 : Int64), .long (1 : Int64)]) (rest := []) C hW (metX10_in l G ρ e18) ⟨rfl, rfl⟩ kcX10_in (tq q_834 rfl) kiX10_in knX10_in kdX10_in ⟨Nat.le_of_ble_eq_true rfl, Nat.le_of_ble_eq_true rfl⟩ hl.1 (Nat.le_of_ble_eq_true rfl) (room_of hW (pext e18) ((pext hf).tr hX)) dX10_table_55 rfl) (fun H locs c1 s1 hW => ?_)
        refine lv_if_ne (tgt := 69) hx hb dX10_table_58 (by decide) (fun c19 => ?_) (fun c19 => ?_)
        · rw [if_neg c19] at hf
          refine lv_iload hx hb dX10_table_69 (lv_at hl 0 rfl) ?_
          refine lv_bipush (v := -3) hx hb dX10_table_71 (by decide) ?_
          refine lv_icmp_ne (tgt := 84) hx hb dX10_table_73 (by decide) (fun c20 => ?_) (fun c20 => ?_)
          · rw [if_neg c20] at hf
            refine lv_aload_n hx hb dX10_table_84 rfl (lv_at hl 1 rfl) ?_
            refine lv_iload_n hx hb dX10_table_85 rfl (lv_at hl 2 rfl) ?_
            obtain ⟨_, h21, e21, hf⟩ := pb_some hf
            obtain ⟨_, _, t22⟩ := tgX10_laysOperator e21
            refine r_callv hW (pext e21) (run_V (b := x0) (As := [.int x1]) (rest := []) C hW (metX10_laysOperator l G ρ e21) ⟨rfl, rfl⟩ kcX10_laysOperator (tq q_1004 rfl) kiX10_laysOperator ksX10_laysOperator knX10_laysOperator kdX10_laysOperator t22 rfl rfl ⟨Nat.le_of_ble_eq_true rfl, Nat.le_of_ble_eq_true rfl⟩ hl.1 (Nat.le_of_ble_eq_true rfl) (room_of hW (pext e21) ((pext hf).tr hX)) dX10_table_86 rfl) (fun H locs c1 s1 hW => ?_)
            refine lv_iload hx hb dX10_table_89 (lv_at hl 5 rfl) ?_
            refine lv_if_ne (tgt := 108) hx hb dX10_table_91 (by decide) (fun c23 => ?_) (fun c23 => ?_)
            · rw [if_neg c23] at hf
              refine lv_aload_n hx hb dX10_table_108 rfl (lv_at hl 1 rfl) ?_
              obtain ⟨v24, e24, hf⟩ := pb_rd (rd_gA _ _ _) hf
              refine r_gA C hW e24 flX10_90 rfl dX10_table_109 ?_
              refine lv_bipush (v := 16) hx hb dX10_table_112 (by decide) ?_
              refine lv_iload_n hx hb dX10_table_114 rfl (lv_at hl 3 rfl) ?_
              refine lv_imul hx hb dX10_table_115 ?_
              refine lv_iload_n hx hb dX10_table_116 rfl (lv_at hl 4 rfl) ?_
              refine lv_iadd hx hb dX10_table_117 ?_
              obtain ⟨v25, e25, hf⟩ := pb_rd (rd_lJ _ _ _) hf
              refine r_lald C hW e25 dX10_table_118 ?_
              obtain ⟨rfl, rfl⟩ := pp_some hf
              exact r_lret C hW dX10_table_119
            · rw [if_pos c23] at hf
              refine lv_aload_n hx hb dX10_table_94 rfl (lv_at hl 1 rfl) ?_
              obtain ⟨v26, e26, hf⟩ := pb_rd (rd_gA _ _ _) hf
              refine r_gA C hW e26 flX10_87 rfl dX10_table_95 ?_
              refine lv_bipush (v := 16) hx hb dX10_table_98 (by decide) ?_
              refine lv_iload_n hx hb dX10_table_100 rfl (lv_at hl 3 rfl) ?_
              refine lv_imul hx hb dX10_table_101 ?_
              refine lv_iload_n hx hb dX10_table_102 rfl (lv_at hl 4 rfl) ?_
              refine lv_iadd hx hb dX10_table_103 ?_
              obtain ⟨v27, e27, hf⟩ := pb_rd (rd_lJ _ _ _) hf
              refine r_lald C hW e27 dX10_table_104 ?_
              refine lv_goto (tgt := 119) hx hb dX10_table_105 (by decide) ?_
              obtain ⟨rfl, rfl⟩ := pp_some hf
              exact r_lret C hW dX10_table_119
          · rw [if_pos c20] at hf
            refine lv_aload_n hx hb dX10_table_76 rfl (lv_at hl 1 rfl) ?_
            refine lv_bipush (v := -3) hx hb dX10_table_77 (by decide) ?_
            obtain ⟨v28, h28, e28, hf⟩ := pb_some hf
            obtain ⟨_, _, t29⟩ := tgX10_refuses e28
            refine r_calli hW (pext e28) (run_V (b := x0) (As := [.int (-3 : Int32)]) (rest := []) C hW (metX10_refuses l G ρ e28) ⟨rfl, rfl⟩ kcX10_refuses (tq q_837 rfl) kiX10_refuses ksX10_refuses knX10_refuses kdX10_refuses t29 rfl rfl ⟨Nat.le_of_ble_eq_true rfl, Nat.le_of_ble_eq_true rfl⟩ hl.1 (Nat.le_of_ble_eq_true rfl) (room_of hW (pext e28) ((pext hf).tr hX)) dX10_table_79 rfl) (fun H locs c1 s1 hW => ?_)
            refine lv_i2l (v := v28.toInt64) hx hb dX10_table_82 rfl ?_
            obtain ⟨rfl, rfl⟩ := pp_some hf
            exact r_lret C hW dX10_table_83
        · rw [if_pos c19] at hf
          refine lv_aload_n hx hb dX10_table_61 rfl (lv_at hl 1 rfl) ?_
          refine lv_bipush (v := -2) hx hb dX10_table_62 (by decide) ?_
          obtain ⟨v30, h30, e30, hf⟩ := pb_some hf
          obtain ⟨_, _, t31⟩ := tgX10_refuses e30
          refine r_calli hW (pext e30) (run_V (b := x0) (As := [.int (-2 : Int32)]) (rest := []) C hW (metX10_refuses l G ρ e30) ⟨rfl, rfl⟩ kcX10_refuses (tq q_837 rfl) kiX10_refuses ksX10_refuses knX10_refuses kdX10_refuses t31 rfl rfl ⟨Nat.le_of_ble_eq_true rfl, Nat.le_of_ble_eq_true rfl⟩ hl.1 (Nat.le_of_ble_eq_true rfl) (room_of hW (pext e30) ((pext hf).tr hX)) dX10_table_64 rfl) (fun H locs c1 s1 hW => ?_)
          refine lv_i2l (v := v30.toInt64) hx hb dX10_table_67 rfl ?_
          obtain ⟨rfl, rfl⟩ := pp_some hf
          exact r_lret C hW dX10_table_68

theorem dX10_laysTable_0 : decode cX10_laysTable 0 = .ok (.aload_n 0, 1) := by decide +kernel
theorem dX10_laysTable_1 : decode cX10_laysTable 1 = .ok (.iload_n 1, 1) := by decide +kernel
theorem dX10_laysTable_2 : decode cX10_laysTable 2 = .ok (.invokevirtual 290, 3) := by decide +kernel
theorem dX10_laysTable_5 : decode cX10_laysTable 5 = .ok (.iload_n 2, 1) := by decide +kernel
theorem dX10_laysTable_6 : decode cX10_laysTable 6 = .ok (.ifCond .ne 51, 3) := by decide +kernel
theorem dX10_laysTable_9 : decode cX10_laysTable 9 = .ok (.aload_n 0, 1) := by decide +kernel
theorem dX10_laysTable_10 : decode cX10_laysTable 10 = .ok (.aload_n 0, 1) := by decide +kernel
theorem dX10_laysTable_11 : decode cX10_laysTable 11 = .ok (.getfield 192, 3) := by decide +kernel
theorem dX10_laysTable_14 : decode cX10_laysTable 14 = .ok (.putfield 293, 3) := by decide +kernel
theorem dX10_laysTable_17 : decode cX10_laysTable 17 = .ok (.iconst 0, 1) := by decide +kernel
theorem dX10_laysTable_18 : decode cX10_laysTable 18 = .ok (.istore_n 3, 1) := by decide +kernel
theorem dX10_laysTable_19 : decode cX10_laysTable 19 = .ok (.iload_n 3, 1) := by decide +kernel
theorem dX10_laysTable_20 : decode cX10_laysTable 20 = .ok (.sipush 256, 3) := by decide +kernel
theorem dX10_laysTable_23 : decode cX10_laysTable 23 = .ok (.if_icmp .ge 33, 3) := by decide +kernel
theorem dX10_laysTable_26 : decode cX10_laysTable 26 = .ok (.aload_n 0, 1) := by decide +kernel
theorem dX10_laysTable_27 : decode cX10_laysTable 27 = .ok (.getfield 63, 3) := by decide +kernel
theorem dX10_laysTable_30 : decode cX10_laysTable 30 = .ok (.iload_n 3, 1) := by decide +kernel
theorem dX10_laysTable_31 : decode cX10_laysTable 31 = .ok (.aload_n 0, 1) := by decide +kernel
theorem dX10_laysTable_32 : decode cX10_laysTable 32 = .ok (.getfield 87, 3) := by decide +kernel
theorem dX10_laysTable_35 : decode cX10_laysTable 35 = .ok (.iload_n 3, 1) := by decide +kernel
theorem dX10_laysTable_36 : decode cX10_laysTable 36 = .ok (.laload, 1) := by decide +kernel
theorem dX10_laysTable_37 : decode cX10_laysTable 37 = .ok (.lastore, 1) := by decide +kernel
theorem dX10_laysTable_38 : decode cX10_laysTable 38 = .ok (.aload_n 0, 1) := by decide +kernel
theorem dX10_laysTable_39 : decode cX10_laysTable 39 = .ok (.getfield 66, 3) := by decide +kernel
theorem dX10_laysTable_42 : decode cX10_laysTable 42 = .ok (.iload_n 3, 1) := by decide +kernel
theorem dX10_laysTable_43 : decode cX10_laysTable 43 = .ok (.aload_n 0, 1) := by decide +kernel
theorem dX10_laysTable_44 : decode cX10_laysTable 44 = .ok (.getfield 90, 3) := by decide +kernel
theorem dX10_laysTable_47 : decode cX10_laysTable 47 = .ok (.iload_n 3, 1) := by decide +kernel
theorem dX10_laysTable_48 : decode cX10_laysTable 48 = .ok (.laload, 1) := by decide +kernel
theorem dX10_laysTable_49 : decode cX10_laysTable 49 = .ok (.lastore, 1) := by decide +kernel
theorem dX10_laysTable_50 : decode cX10_laysTable 50 = .ok (.iinc 3 1, 3) := by decide +kernel
theorem dX10_laysTable_53 : decode cX10_laysTable 53 = .ok (.goto (-34), 3) := by decide +kernel
theorem dX10_laysTable_56 : decode cX10_laysTable 56 = .ok (.return_, 1) := by decide +kernel
theorem dX10_laysTable_57 : decode cX10_laysTable 57 = .ok (.aload_n 0, 1) := by decide +kernel
theorem dX10_laysTable_58 : decode cX10_laysTable 58 = .ok (.invokevirtual 265, 3) := by decide +kernel
theorem dX10_laysTable_61 : decode cX10_laysTable 61 = .ok (.aload_n 0, 1) := by decide +kernel
theorem dX10_laysTable_62 : decode cX10_laysTable 62 = .ok (.aload_n 0, 1) := by decide +kernel
theorem dX10_laysTable_63 : decode cX10_laysTable 63 = .ok (.getfield 231, 3) := by decide +kernel
theorem dX10_laysTable_66 : decode cX10_laysTable 66 = .ok (.putfield 293, 3) := by decide +kernel
theorem dX10_laysTable_69 : decode cX10_laysTable 69 = .ok (.iconst 0, 1) := by decide +kernel
theorem dX10_laysTable_70 : decode cX10_laysTable 70 = .ok (.istore_n 3, 1) := by decide +kernel
theorem dX10_laysTable_71 : decode cX10_laysTable 71 = .ok (.iload_n 3, 1) := by decide +kernel
theorem dX10_laysTable_72 : decode cX10_laysTable 72 = .ok (.aload_n 0, 1) := by decide +kernel
theorem dX10_laysTable_73 : decode cX10_laysTable 73 = .ok (.getfield 293, 3) := by decide +kernel
theorem dX10_laysTable_76 : decode cX10_laysTable 76 = .ok (.if_icmp .ge 159, 3) := by decide +kernel
theorem dX10_laysTable_79 : decode cX10_laysTable 79 = .ok (.iconst 0, 1) := by decide +kernel
theorem dX10_laysTable_80 : decode cX10_laysTable 80 = .ok (.istore 4, 2) := by decide +kernel
theorem dX10_laysTable_82 : decode cX10_laysTable 82 = .ok (.iload 4, 2) := by decide +kernel
theorem dX10_laysTable_84 : decode cX10_laysTable 84 = .ok (.aload_n 0, 1) := by decide +kernel
theorem dX10_laysTable_85 : decode cX10_laysTable 85 = .ok (.getfield 293, 3) := by decide +kernel
theorem dX10_laysTable_88 : decode cX10_laysTable 88 = .ok (.if_icmp .ge 141, 3) := by decide +kernel
theorem dX10_laysTable_91 : decode cX10_laysTable 91 = .ok (.lconst 0, 1) := by decide +kernel
theorem dX10_laysTable_92 : decode cX10_laysTable 92 = .ok (.lstore 5, 2) := by decide +kernel
theorem dX10_laysTable_94 : decode cX10_laysTable 94 = .ok (.lconst 1, 1) := by decide +kernel
theorem dX10_laysTable_95 : decode cX10_laysTable 95 = .ok (.lstore 7, 2) := by decide +kernel
theorem dX10_laysTable_97 : decode cX10_laysTable 97 = .ok (.iconst 0, 1) := by decide +kernel
theorem dX10_laysTable_98 : decode cX10_laysTable 98 = .ok (.istore 9, 2) := by decide +kernel
theorem dX10_laysTable_100 : decode cX10_laysTable 100 = .ok (.iload 9, 2) := by decide +kernel
theorem dX10_laysTable_102 : decode cX10_laysTable 102 = .ok (.aload_n 0, 1) := by decide +kernel
theorem dX10_laysTable_103 : decode cX10_laysTable 103 = .ok (.getfield 192, 3) := by decide +kernel
theorem dX10_laysTable_106 : decode cX10_laysTable 106 = .ok (.if_icmp .ge 89, 3) := by decide +kernel
theorem dX10_laysTable_109 : decode cX10_laysTable 109 = .ok (.aload_n 0, 1) := by decide +kernel
theorem dX10_laysTable_110 : decode cX10_laysTable 110 = .ok (.lload 5, 2) := by decide +kernel
theorem dX10_laysTable_112 : decode cX10_laysTable 112 = .ok (.lload 7, 2) := by decide +kernel
theorem dX10_laysTable_114 : decode cX10_laysTable 114 = .ok (.aload_n 0, 1) := by decide +kernel
theorem dX10_laysTable_115 : decode cX10_laysTable 115 = .ok (.getfield 87, 3) := by decide +kernel
theorem dX10_laysTable_118 : decode cX10_laysTable 118 = .ok (.bipush 16, 2) := by decide +kernel
theorem dX10_laysTable_120 : decode cX10_laysTable 120 = .ok (.aload_n 0, 1) := by decide +kernel
theorem dX10_laysTable_121 : decode cX10_laysTable 121 = .ok (.getfield 69, 3) := by decide +kernel
theorem dX10_laysTable_124 : decode cX10_laysTable 124 = .ok (.iload_n 3, 1) := by decide +kernel
theorem dX10_laysTable_125 : decode cX10_laysTable 125 = .ok (.iaload, 1) := by decide +kernel
theorem dX10_laysTable_126 : decode cX10_laysTable 126 = .ok (.imul, 1) := by decide +kernel
theorem dX10_laysTable_127 : decode cX10_laysTable 127 = .ok (.iload 9, 2) := by decide +kernel
theorem dX10_laysTable_129 : decode cX10_laysTable 129 = .ok (.iadd, 1) := by decide +kernel
theorem dX10_laysTable_130 : decode cX10_laysTable 130 = .ok (.laload, 1) := by decide +kernel
theorem dX10_laysTable_131 : decode cX10_laysTable 131 = .ok (.aload_n 0, 1) := by decide +kernel
theorem dX10_laysTable_132 : decode cX10_laysTable 132 = .ok (.getfield 90, 3) := by decide +kernel
theorem dX10_laysTable_135 : decode cX10_laysTable 135 = .ok (.bipush 16, 2) := by decide +kernel
theorem dX10_laysTable_137 : decode cX10_laysTable 137 = .ok (.aload_n 0, 1) := by decide +kernel
theorem dX10_laysTable_138 : decode cX10_laysTable 138 = .ok (.getfield 69, 3) := by decide +kernel
theorem dX10_laysTable_141 : decode cX10_laysTable 141 = .ok (.iload_n 3, 1) := by decide +kernel
theorem dX10_laysTable_142 : decode cX10_laysTable 142 = .ok (.iaload, 1) := by decide +kernel
theorem dX10_laysTable_143 : decode cX10_laysTable 143 = .ok (.imul, 1) := by decide +kernel
theorem dX10_laysTable_144 : decode cX10_laysTable 144 = .ok (.iload 9, 2) := by decide +kernel
theorem dX10_laysTable_146 : decode cX10_laysTable 146 = .ok (.iadd, 1) := by decide +kernel
theorem dX10_laysTable_147 : decode cX10_laysTable 147 = .ok (.laload, 1) := by decide +kernel
theorem dX10_laysTable_148 : decode cX10_laysTable 148 = .ok (.aload_n 0, 1) := by decide +kernel
theorem dX10_laysTable_149 : decode cX10_laysTable 149 = .ok (.getfield 72, 3) := by decide +kernel
theorem dX10_laysTable_152 : decode cX10_laysTable 152 = .ok (.bipush 16, 2) := by decide +kernel
theorem dX10_laysTable_154 : decode cX10_laysTable 154 = .ok (.iload 4, 2) := by decide +kernel
theorem dX10_laysTable_156 : decode cX10_laysTable 156 = .ok (.imul, 1) := by decide +kernel
theorem dX10_laysTable_157 : decode cX10_laysTable 157 = .ok (.iload 9, 2) := by decide +kernel
theorem dX10_laysTable_159 : decode cX10_laysTable 159 = .ok (.iadd, 1) := by decide +kernel
theorem dX10_laysTable_160 : decode cX10_laysTable 160 = .ok (.laload, 1) := by decide +kernel
theorem dX10_laysTable_161 : decode cX10_laysTable 161 = .ok (.aload_n 0, 1) := by decide +kernel
theorem dX10_laysTable_162 : decode cX10_laysTable 162 = .ok (.getfield 75, 3) := by decide +kernel
theorem dX10_laysTable_165 : decode cX10_laysTable 165 = .ok (.bipush 16, 2) := by decide +kernel
theorem dX10_laysTable_167 : decode cX10_laysTable 167 = .ok (.iload 4, 2) := by decide +kernel
theorem dX10_laysTable_169 : decode cX10_laysTable 169 = .ok (.imul, 1) := by decide +kernel
theorem dX10_laysTable_170 : decode cX10_laysTable 170 = .ok (.iload 9, 2) := by decide +kernel
theorem dX10_laysTable_172 : decode cX10_laysTable 172 = .ok (.iadd, 1) := by decide +kernel
theorem dX10_laysTable_173 : decode cX10_laysTable 173 = .ok (.laload, 1) := by decide +kernel
theorem dX10_laysTable_174 : decode cX10_laysTable 174 = .ok (.invokevirtual 169, 3) := by decide +kernel
theorem dX10_laysTable_177 : decode cX10_laysTable 177 = .ok (.aload_n 0, 1) := by decide +kernel
theorem dX10_laysTable_178 : decode cX10_laysTable 178 = .ok (.getfield 133, 3) := by decide +kernel
theorem dX10_laysTable_181 : decode cX10_laysTable 181 = .ok (.lstore 5, 2) := by decide +kernel
theorem dX10_laysTable_183 : decode cX10_laysTable 183 = .ok (.aload_n 0, 1) := by decide +kernel
theorem dX10_laysTable_184 : decode cX10_laysTable 184 = .ok (.getfield 137, 3) := by decide +kernel
theorem dX10_laysTable_187 : decode cX10_laysTable 187 = .ok (.lstore 7, 2) := by decide +kernel
theorem dX10_laysTable_189 : decode cX10_laysTable 189 = .ok (.iinc 9 1, 3) := by decide +kernel
theorem dX10_laysTable_192 : decode cX10_laysTable 192 = .ok (.goto (-92), 3) := by decide +kernel
theorem dX10_laysTable_195 : decode cX10_laysTable 195 = .ok (.aload_n 0, 1) := by decide +kernel
theorem dX10_laysTable_196 : decode cX10_laysTable 196 = .ok (.getfield 63, 3) := by decide +kernel
theorem dX10_laysTable_199 : decode cX10_laysTable 199 = .ok (.bipush 16, 2) := by decide +kernel
theorem dX10_laysTable_201 : decode cX10_laysTable 201 = .ok (.iload_n 3, 1) := by decide +kernel
theorem dX10_laysTable_202 : decode cX10_laysTable 202 = .ok (.imul, 1) := by decide +kernel
theorem dX10_laysTable_203 : decode cX10_laysTable 203 = .ok (.iload 4, 2) := by decide +kernel
theorem dX10_laysTable_205 : decode cX10_laysTable 205 = .ok (.iadd, 1) := by decide +kernel
theorem dX10_laysTable_206 : decode cX10_laysTable 206 = .ok (.lload 5, 2) := by decide +kernel
theorem dX10_laysTable_208 : decode cX10_laysTable 208 = .ok (.lastore, 1) := by decide +kernel
theorem dX10_laysTable_209 : decode cX10_laysTable 209 = .ok (.aload_n 0, 1) := by decide +kernel
theorem dX10_laysTable_210 : decode cX10_laysTable 210 = .ok (.getfield 66, 3) := by decide +kernel
theorem dX10_laysTable_213 : decode cX10_laysTable 213 = .ok (.bipush 16, 2) := by decide +kernel
theorem dX10_laysTable_215 : decode cX10_laysTable 215 = .ok (.iload_n 3, 1) := by decide +kernel
theorem dX10_laysTable_216 : decode cX10_laysTable 216 = .ok (.imul, 1) := by decide +kernel
theorem dX10_laysTable_217 : decode cX10_laysTable 217 = .ok (.iload 4, 2) := by decide +kernel
theorem dX10_laysTable_219 : decode cX10_laysTable 219 = .ok (.iadd, 1) := by decide +kernel
theorem dX10_laysTable_220 : decode cX10_laysTable 220 = .ok (.lload 7, 2) := by decide +kernel
theorem dX10_laysTable_222 : decode cX10_laysTable 222 = .ok (.lastore, 1) := by decide +kernel
theorem dX10_laysTable_223 : decode cX10_laysTable 223 = .ok (.iinc 4 1, 3) := by decide +kernel
theorem dX10_laysTable_226 : decode cX10_laysTable 226 = .ok (.goto (-144), 3) := by decide +kernel
theorem dX10_laysTable_229 : decode cX10_laysTable 229 = .ok (.iinc 3 1, 3) := by decide +kernel
theorem dX10_laysTable_232 : decode cX10_laysTable 232 = .ok (.goto (-161), 3) := by decide +kernel
theorem dX10_laysTable_235 : decode cX10_laysTable 235 = .ok (.return_, 1) := by decide +kernel
theorem kcX10_laysTable : Cond.code yX10_laysTable cX10_laysTable 10 none ∈ tb := tq q_1028 rfl
theorem knX10_laysTable : Cond.initialized yX10_laysTable.cls ∈ tb := (tq q_10 rfl)
theorem kdX10_laysTable : yX10_laysTable.cls ≠ "java/lang/invoke/MethodHandle" ∧ yX10_laysTable.cls ≠ "java/lang/invoke/VarHandle" ∧ (parseMethodDescriptor yX10_laysTable.desc).map (fun d => d.parameters.length) = some 2 := ⟨by decide +kernel, by decide +kernel, by decide +kernel⟩
theorem kiX10_laysTable : Cond.instanceMethod yX10_laysTable ∈ tb := (tq q_1027 rfl)
theorem ksX10_laysTable : Cond.selects yX10_laysTable.cls yX10_laysTable yX10_laysTable ∈ tb := (tq z_62 rfl)
theorem tgX10_laysTable {x0 : Nat} {x1 : Int32} {x2 : Int32} {h : PH} {r : Unit × PH} (hf : (fX10_laysTable x0 x1 x2).1 h = some r) : ∃ n x, nth h x0 = some (9, n, x) := by
  obtain ⟨_, _, e, _⟩ := pb_some hf
  exact (chk_some e).2
set_option maxHeartbeats 4000000 in
set_option maxRecDepth 100000 in
theorem wX10_laysTable_B100 {p : Program} {l : Launch} {e : Env} {s : State} {m : MethodId} {args : Array Value} {below : List Frame} {meth : Method} {c : Code} {G : GG} {ρ : Nat → Nat} {h0 hE hB : PH} {Q : State → Prop} {x0 : Nat} {x3 : Int32} {x4 : Int32} (C : Cx G "PairSymbolsModel" cX10_laysTable 10 none "laysTable" p s m args meth c) {x5 : Int64} {x7 : Int64} {x9 : Int32} {h : PH} {H : Heap} {locs : List Loc} {cells slots : Nat} {ls : Array Slot} {r : (Int64 × Int64 × Int32) ⊕ (Int64 × Int64)} (hf : (fX10_laysTable_b100 x0 x3 x4 x5 x7 x9).1 h = some (r, hB)) (hX : Ext hB hE) (hW : Wd G ρ h0.length (sl h0) s.heap h H locs cells slots) (hl : lv_has ls 10 [(0, .ref (ρ x0)), (3, .int x3), (4, .int x4), (5, .long x5), (7, .long x7), (9, .int x9)]) (kc : ∀ y : Int64 × Int64 × Int32, r = .inl y → ∀ (H : Heap) (locs : List Loc) (c1 s1 : Nat) (ls : Array Slot), Wd G ρ h0.length (sl h0) s.heap hB H locs c1 s1 → lv_has ls 10 [(0, .ref (ρ x0)), (3, .int x3), (4, .int x4), (5, .long y.1), (7, .long y.2.1), (9, .int y.2.2)] → W p l e (RM 9 230 h0 hE) s m args below meth c H locs c1 s1 Q (F0 m 100 ls [])) (ke : ∀ z : Int64 × Int64, r = .inr z → ∀ (H : Heap) (locs : List Loc) (c1 s1 : Nat) (ls : Array Slot), Wd G ρ h0.length (sl h0) s.heap hB H locs c1 s1 → lv_has ls 10 [(0, .ref (ρ x0)), (3, .int x3), (4, .int x4), (5, .long z.1), (7, .long z.2)] → W p l e (RM 9 230 h0 hE) s m args below meth c H locs c1 s1 Q (F0 m 195 ls [])) : W p l e (RM 9 230 h0 hE) s m args below meth c H locs cells slots Q (F0 m 100 ls []) := by
  have hx := C.1
  have hb := C.2.1
  unfold fX10_laysTable_b100 at hf
  refine lv_iload hx hb dX10_laysTable_100 (lv_at hl 5 rfl) ?_
  refine lv_aload_n hx hb dX10_laysTable_102 rfl (lv_at hl 0 rfl) ?_
  obtain ⟨v12, e12, hf⟩ := pb_rd (rd_gI _ _ _) hf
  refine r_gI C hW e12 flX10_192 rfl dX10_laysTable_103 ?_
  refine lv_icmp_ge (tgt := 195) hx hb dX10_laysTable_106 (by decide) (fun c13 => ?_) (fun c13 => ?_)
  · rw [if_pos c13] at hf
    obtain ⟨rfl, rfl⟩ := pp_some hf
    exact ke _ rfl _ _ _ _ _ hW (lv_sub hl [0, 1, 2, 3, 4] rfl)
  · rw [if_neg c13] at hf
    refine lv_aload_n hx hb dX10_laysTable_109 rfl (lv_at hl 0 rfl) ?_
    refine lv_lload hx hb dX10_laysTable_110 (lv_at hl 3 rfl) ?_
    refine lv_lload hx hb dX10_laysTable_112 (lv_at hl 4 rfl) ?_
    refine lv_aload_n hx hb dX10_laysTable_114 rfl (lv_at hl 0 rfl) ?_
    obtain ⟨v14, e14, hf⟩ := pb_rd (rd_gA _ _ _) hf
    refine r_gA C hW e14 flX10_87 rfl dX10_laysTable_115 ?_
    refine lv_bipush (v := 16) hx hb dX10_laysTable_118 (by decide) ?_
    refine lv_aload_n hx hb dX10_laysTable_120 rfl (lv_at hl 0 rfl) ?_
    obtain ⟨v15, e15, hf⟩ := pb_rd (rd_gA _ _ _) hf
    refine r_gA C hW e15 flX10_69 rfl dX10_laysTable_121 ?_
    refine lv_iload_n hx hb dX10_laysTable_124 rfl (lv_at hl 1 rfl) ?_
    obtain ⟨v16, e16, hf⟩ := pb_rd (rd_lI _ _ _) hf
    refine r_iald C hW e16 dX10_laysTable_125 ?_
    refine lv_imul hx hb dX10_laysTable_126 ?_
    refine lv_iload hx hb dX10_laysTable_127 (lv_at hl 5 rfl) ?_
    refine lv_iadd hx hb dX10_laysTable_129 ?_
    obtain ⟨v17, e17, hf⟩ := pb_rd (rd_lJ _ _ _) hf
    refine r_lald C hW e17 dX10_laysTable_130 ?_
    refine lv_aload_n hx hb dX10_laysTable_131 rfl (lv_at hl 0 rfl) ?_
    obtain ⟨v18, e18, hf⟩ := pb_rd (rd_gA _ _ _) hf
    refine r_gA C hW e18 flX10_90 rfl dX10_laysTable_132 ?_
    refine lv_bipush (v := 16) hx hb dX10_laysTable_135 (by decide) ?_
    refine lv_aload_n hx hb dX10_laysTable_137 rfl (lv_at hl 0 rfl) ?_
    obtain ⟨v19, e19, hf⟩ := pb_rd (rd_gA _ _ _) hf
    refine r_gA C hW e19 flX10_69 rfl dX10_laysTable_138 ?_
    refine lv_iload_n hx hb dX10_laysTable_141 rfl (lv_at hl 1 rfl) ?_
    obtain ⟨v20, e20, hf⟩ := pb_rd (rd_lI _ _ _) hf
    refine r_iald C hW e20 dX10_laysTable_142 ?_
    refine lv_imul hx hb dX10_laysTable_143 ?_
    refine lv_iload hx hb dX10_laysTable_144 (lv_at hl 5 rfl) ?_
    refine lv_iadd hx hb dX10_laysTable_146 ?_
    obtain ⟨v21, e21, hf⟩ := pb_rd (rd_lJ _ _ _) hf
    refine r_lald C hW e21 dX10_laysTable_147 ?_
    refine lv_aload_n hx hb dX10_laysTable_148 rfl (lv_at hl 0 rfl) ?_
    obtain ⟨v22, e22, hf⟩ := pb_rd (rd_gA _ _ _) hf
    refine r_gA C hW e22 flX10_72 rfl dX10_laysTable_149 ?_
    refine lv_bipush (v := 16) hx hb dX10_laysTable_152 (by decide) ?_
    refine lv_iload hx hb dX10_laysTable_154 (lv_at hl 2 rfl) ?_
    refine lv_imul hx hb dX10_laysTable_156 ?_
    refine lv_iload hx hb dX10_laysTable_157 (lv_at hl 5 rfl) ?_
    refine lv_iadd hx hb dX10_laysTable_159 ?_
    obtain ⟨v23, e23, hf⟩ := pb_rd (rd_lJ _ _ _) hf
    refine r_lald C hW e23 dX10_laysTable_160 ?_
    refine lv_aload_n hx hb dX10_laysTable_161 rfl (lv_at hl 0 rfl) ?_
    obtain ⟨v24, e24, hf⟩ := pb_rd (rd_gA _ _ _) hf
    refine r_gA C hW e24 flX10_75 rfl dX10_laysTable_162 ?_
    refine lv_bipush (v := 16) hx hb dX10_laysTable_165 (by decide) ?_
    refine lv_iload hx hb dX10_laysTable_167 (lv_at hl 2 rfl) ?_
    refine lv_imul hx hb dX10_laysTable_169 ?_
    refine lv_iload hx hb dX10_laysTable_170 (lv_at hl 5 rfl) ?_
    refine lv_iadd hx hb dX10_laysTable_172 ?_
    obtain ⟨v25, e25, hf⟩ := pb_rd (rd_lJ _ _ _) hf
    refine r_lald C hW e25 dX10_laysTable_173 ?_
    obtain ⟨_, h26, e26, hf⟩ := pb_some hf
    obtain ⟨_, _, t27⟩ := tgX10_more e26
    refine r_callv hW (pext e26) (run_V (b := x0) (As := [.long x5, .long x7, .long v17, .long v21, .long v23, .long v25]) (rest := []) C hW (metX10_more l G ρ e26) ⟨rfl, rfl⟩ kcX10_more (tq q_919 rfl) kiX10_more ksX10_more knX10_more kdX10_more t27 rfl rfl ⟨Nat.le_of_ble_eq_true rfl, Nat.le_of_ble_eq_true rfl⟩ hl.1 (Nat.le_of_ble_eq_true rfl) (room_of hW (pext e26) ((pext hf).tr hX)) dX10_laysTable_174 rfl) (fun H locs c1 s1 hW => ?_)
    refine lv_aload_n hx hb dX10_laysTable_177 rfl (lv_at hl 0 rfl) ?_
    obtain ⟨v28, e28, hf⟩ := pb_rd (rd_gJ _ _ _) hf
    refine r_gJ C hW e28 flX10_133 rfl dX10_laysTable_178 ?_
    refine lv_lstore (lv' := [(5, .long v28), (0, .ref (ρ x0)), (3, .int x3), (4, .int x4), (7, .long x7), (9, .int x9)]) hx hb dX10_laysTable_181 hl (by decide) rfl (fun ls hl => ?_)
    refine lv_aload_n hx hb dX10_laysTable_183 rfl (lv_at hl 1 rfl) ?_
    obtain ⟨v29, e29, hf⟩ := pb_rd (rd_gJ _ _ _) hf
    refine r_gJ C hW e29 flX10_137 rfl dX10_laysTable_184 ?_
    refine lv_lstore (lv' := [(7, .long v29), (5, .long v28), (0, .ref (ρ x0)), (3, .int x3), (4, .int x4), (9, .int x9)]) hx hb dX10_laysTable_187 hl (by decide) rfl (fun ls hl => ?_)
    refine lv_iinc (v := (x9 + 1)) (lv' := [(9, .int (x9 + 1)), (7, .long v29), (5, .long v28), (0, .ref (ρ x0)), (3, .int x3), (4, .int x4)]) hx hb dX10_laysTable_189 hl (k := 5) rfl rfl (by decide) rfl (fun ls hl => ?_)
    refine lv_goto (tgt := 100) hx hb dX10_laysTable_192 (by decide) ?_
    obtain ⟨rfl, rfl⟩ := pp_some hf
    exact kc _ rfl _ _ _ _ _ hW (lv_sub hl [3, 4, 5, 2, 1, 0] rfl)
set_option maxHeartbeats 4000000 in
theorem wX10_laysTable_L100 {p : Program} {l : Launch} {e : Env} {s : State} {m : MethodId} {args : Array Value} {below : List Frame} {meth : Method} {c : Code} {G : GG} {ρ : Nat → Nat} {h0 hE hB : PH} {Q : State → Prop} {x0 : Nat} {x3 : Int32} {x4 : Int32} (C : Cx G "PairSymbolsModel" cX10_laysTable 10 none "laysTable" p s m args meth c) {z : (Int64 × Int64)} (n : Nat) : ∀ (x : Int64 × Int64 × Int32) {h : PH} {H : Heap} {locs : List Loc} {cells slots : Nat} {ls : Array Slot}, (plo (fX10_laysTable_B100 x0 x3 x4) n x).1 h = some (z, hB) → Ext hB hE → Wd G ρ h0.length (sl h0) s.heap h H locs cells slots → lv_has ls 10 [(0, .ref (ρ x0)), (3, .int x3), (4, .int x4), (5, .long x.1), (7, .long x.2.1), (9, .int x.2.2)] → (ke : ∀ (H : Heap) (locs : List Loc) (c1 s1 : Nat) (ls : Array Slot), Wd G ρ h0.length (sl h0) s.heap hB H locs c1 s1 → lv_has ls 10 [(0, .ref (ρ x0)), (3, .int x3), (4, .int x4), (5, .long z.1), (7, .long z.2)] → W p l e (RM 9 230 h0 hE) s m args below meth c H locs c1 s1 Q (F0 m 195 ls [])) → W p l e (RM 9 230 h0 hE) s m args below meth c H locs cells slots Q (F0 m 100 ls []) := by
  induction n with
  | zero =>
    intro x h H locs cells slots ls hf
    rw [plo_0] at hf
    exact (pf_no hf).elim
  | succ n ih =>
    intro x h H locs cells slots ls hf hX hW hl ke
    rw [plo_s] at hf
    obtain ⟨r, h1, e1, hf⟩ := pb_some hf
    unfold fX10_laysTable_B100 at e1
    rw [frJ_eq, frJ_eq, frI_eq] at e1
    refine wX10_laysTable_B100 C e1 ((pext hf).tr hX) hW hl (fun y hr H locs c1 s1 ls hW hl => ?_) (fun y hr H locs c1 s1 ls hW hl => ?_)
    · subst hr
      exact ih y hf hX hW hl ke
    · subst hr
      obtain ⟨rfl, rfl⟩ := pp_some hf
      exact ke H locs c1 s1 ls hW hl
set_option maxHeartbeats 4000000 in
set_option maxRecDepth 100000 in
theorem wX10_laysTable_B82 {p : Program} {l : Launch} {e : Env} {s : State} {m : MethodId} {args : Array Value} {below : List Frame} {meth : Method} {c : Code} {G : GG} {ρ : Nat → Nat} {h0 hE hB : PH} {Q : State → Prop} {x0 : Nat} {x3 : Int32} (C : Cx G "PairSymbolsModel" cX10_laysTable 10 none "laysTable" p s m args meth c) {x4 : Int32} {h : PH} {H : Heap} {locs : List Loc} {cells slots : Nat} {ls : Array Slot} {r : (Int32) ⊕ (Unit)} (hf : (fX10_laysTable_b82 x0 x3 x4).1 h = some (r, hB)) (hX : Ext hB hE) (hW : Wd G ρ h0.length (sl h0) s.heap h H locs cells slots) (hl : lv_has ls 10 [(0, .ref (ρ x0)), (3, .int x3), (4, .int x4)]) (kc : ∀ y : Int32, r = .inl y → ∀ (H : Heap) (locs : List Loc) (c1 s1 : Nat) (ls : Array Slot), Wd G ρ h0.length (sl h0) s.heap hB H locs c1 s1 → lv_has ls 10 [(0, .ref (ρ x0)), (3, .int x3), (4, .int y)] → W p l e (RM 9 230 h0 hE) s m args below meth c H locs c1 s1 Q (F0 m 82 ls [])) (ke : ∀ z : Unit, r = .inr z → ∀ (H : Heap) (locs : List Loc) (c1 s1 : Nat) (ls : Array Slot), Wd G ρ h0.length (sl h0) s.heap hB H locs c1 s1 → lv_has ls 10 [(0, .ref (ρ x0)), (3, .int x3)] → W p l e (RM 9 230 h0 hE) s m args below meth c H locs c1 s1 Q (F0 m 229 ls [])) : W p l e (RM 9 230 h0 hE) s m args below meth c H locs cells slots Q (F0 m 82 ls []) := by
  have hx := C.1
  have hb := C.2.1
  unfold fX10_laysTable_b82 at hf
  refine lv_iload hx hb dX10_laysTable_82 (lv_at hl 2 rfl) ?_
  refine lv_aload_n hx hb dX10_laysTable_84 rfl (lv_at hl 0 rfl) ?_
  obtain ⟨v10, e10, hf⟩ := pb_rd (rd_gI _ _ _) hf
  refine r_gI C hW e10 flX10_293 rfl dX10_laysTable_85 ?_
  refine lv_icmp_ge (tgt := 229) hx hb dX10_laysTable_88 (by decide) (fun c11 => ?_) (fun c11 => ?_)
  · rw [if_pos c11] at hf
    obtain ⟨rfl, rfl⟩ := pp_some hf
    exact ke _ rfl _ _ _ _ _ hW (lv_sub hl [0, 1] rfl)
  · rw [if_neg c11] at hf
    refine lv_lconst (v := 0) hx hb dX10_laysTable_91 (by decide) ?_
    refine lv_lstore (lv' := [(5, .long (0 : Int64)), (0, .ref (ρ x0)), (3, .int x3), (4, .int x4)]) hx hb dX10_laysTable_92 hl (by decide) rfl (fun ls hl => ?_)
    refine lv_lconst (v := 1) hx hb dX10_laysTable_94 (by decide) ?_
    refine lv_lstore (lv' := [(7, .long (1 : Int64)), (5, .long (0 : Int64)), (0, .ref (ρ x0)), (3, .int x3), (4, .int x4)]) hx hb dX10_laysTable_95 hl (by decide) rfl (fun ls hl => ?_)
    refine lv_iconst (v := 0) hx hb dX10_laysTable_97 (by decide) ?_
    refine lv_istore (lv' := [(9, .int (0 : Int32)), (7, .long (1 : Int64)), (5, .long (0 : Int64)), (0, .ref (ρ x0)), (3, .int x3), (4, .int x4)]) hx hb dX10_laysTable_98 hl (by decide) rfl (fun ls hl => ?_)
    obtain ⟨z30, h30, e30, hf⟩ := pb_some hf
    refine wX10_laysTable_L100 C fu _ e30 ((pext hf).tr hX) hW (lv_sub hl [3, 4, 5, 2, 1, 0] rfl) (fun H locs c1 s1 ls hW hl => ?_)
    refine lv_aload_n hx hb dX10_laysTable_195 rfl (lv_at hl 0 rfl) ?_
    obtain ⟨v31, e31, hf⟩ := pb_rd (rd_gA _ _ _) hf
    refine r_gA C hW e31 flX10_63 rfl dX10_laysTable_196 ?_
    refine lv_bipush (v := 16) hx hb dX10_laysTable_199 (by decide) ?_
    refine lv_iload_n hx hb dX10_laysTable_201 rfl (lv_at hl 1 rfl) ?_
    refine lv_imul hx hb dX10_laysTable_202 ?_
    refine lv_iload hx hb dX10_laysTable_203 (lv_at hl 2 rfl) ?_
    refine lv_iadd hx hb dX10_laysTable_205 ?_
    refine lv_lload hx hb dX10_laysTable_206 (lv_at hl 3 rfl) ?_
    obtain ⟨_, h32, e32, hf⟩ := pb_some hf
    refine r_last C hW e32 dX10_laysTable_208 (fun H locs hW => ?_)
    refine lv_aload_n hx hb dX10_laysTable_209 rfl (lv_at hl 0 rfl) ?_
    obtain ⟨v33, e33, hf⟩ := pb_rd (rd_gA _ _ _) hf
    refine r_gA C hW e33 flX10_66 rfl dX10_laysTable_210 ?_
    refine lv_bipush (v := 16) hx hb dX10_laysTable_213 (by decide) ?_
    refine lv_iload_n hx hb dX10_laysTable_215 rfl (lv_at hl 1 rfl) ?_
    refine lv_imul hx hb dX10_laysTable_216 ?_
    refine lv_iload hx hb dX10_laysTable_217 (lv_at hl 2 rfl) ?_
    refine lv_iadd hx hb dX10_laysTable_219 ?_
    refine lv_lload hx hb dX10_laysTable_220 (lv_at hl 4 rfl) ?_
    obtain ⟨_, h34, e34, hf⟩ := pb_some hf
    refine r_last C hW e34 dX10_laysTable_222 (fun H locs hW => ?_)
    refine lv_iinc (v := (x4 + 1)) (lv' := [(4, .int (x4 + 1)), (0, .ref (ρ x0)), (3, .int x3), (5, .long z30.1), (7, .long z30.2)]) hx hb dX10_laysTable_223 hl (k := 2) rfl rfl (by decide) rfl (fun ls hl => ?_)
    refine lv_goto (tgt := 82) hx hb dX10_laysTable_226 (by decide) ?_
    obtain ⟨rfl, rfl⟩ := pp_some hf
    exact kc _ rfl _ _ _ _ _ hW (lv_sub hl [1, 2, 0] rfl)
set_option maxHeartbeats 4000000 in
theorem wX10_laysTable_L82 {p : Program} {l : Launch} {e : Env} {s : State} {m : MethodId} {args : Array Value} {below : List Frame} {meth : Method} {c : Code} {G : GG} {ρ : Nat → Nat} {h0 hE hB : PH} {Q : State → Prop} {x0 : Nat} {x3 : Int32} (C : Cx G "PairSymbolsModel" cX10_laysTable 10 none "laysTable" p s m args meth c) {z : (Unit)} (n : Nat) : ∀ (x : Int32) {h : PH} {H : Heap} {locs : List Loc} {cells slots : Nat} {ls : Array Slot}, (plo (fX10_laysTable_B82 x0 x3) n x).1 h = some (z, hB) → Ext hB hE → Wd G ρ h0.length (sl h0) s.heap h H locs cells slots → lv_has ls 10 [(0, .ref (ρ x0)), (3, .int x3), (4, .int x)] → (ke : ∀ (H : Heap) (locs : List Loc) (c1 s1 : Nat) (ls : Array Slot), Wd G ρ h0.length (sl h0) s.heap hB H locs c1 s1 → lv_has ls 10 [(0, .ref (ρ x0)), (3, .int x3)] → W p l e (RM 9 230 h0 hE) s m args below meth c H locs c1 s1 Q (F0 m 229 ls [])) → W p l e (RM 9 230 h0 hE) s m args below meth c H locs cells slots Q (F0 m 82 ls []) := by
  induction n with
  | zero =>
    intro x h H locs cells slots ls hf
    rw [plo_0] at hf
    exact (pf_no hf).elim
  | succ n ih =>
    intro x h H locs cells slots ls hf hX hW hl ke
    rw [plo_s] at hf
    obtain ⟨r, h1, e1, hf⟩ := pb_some hf
    unfold fX10_laysTable_B82 at e1
    rw [frI_eq] at e1
    refine wX10_laysTable_B82 C e1 ((pext hf).tr hX) hW hl (fun y hr H locs c1 s1 ls hW hl => ?_) (fun y hr H locs c1 s1 ls hW hl => ?_)
    · subst hr
      exact ih y hf hX hW hl ke
    · subst hr
      obtain ⟨rfl, rfl⟩ := pp_some hf
      exact ke H locs c1 s1 ls hW hl
set_option maxHeartbeats 4000000 in
set_option maxRecDepth 100000 in
theorem wX10_laysTable_B71 {p : Program} {l : Launch} {e : Env} {s : State} {m : MethodId} {args : Array Value} {below : List Frame} {meth : Method} {c : Code} {G : GG} {ρ : Nat → Nat} {h0 hE hB : PH} {Q : State → Prop} {x0 : Nat} (C : Cx G "PairSymbolsModel" cX10_laysTable 10 none "laysTable" p s m args meth c) {x3 : Int32} {h : PH} {H : Heap} {locs : List Loc} {cells slots : Nat} {ls : Array Slot} {r : (Int32) ⊕ (Unit)} (hf : (fX10_laysTable_b71 x0 x3).1 h = some (r, hB)) (hX : Ext hB hE) (hW : Wd G ρ h0.length (sl h0) s.heap h H locs cells slots) (hl : lv_has ls 10 [(0, .ref (ρ x0)), (3, .int x3)]) (kc : ∀ y : Int32, r = .inl y → ∀ (H : Heap) (locs : List Loc) (c1 s1 : Nat) (ls : Array Slot), Wd G ρ h0.length (sl h0) s.heap hB H locs c1 s1 → lv_has ls 10 [(0, .ref (ρ x0)), (3, .int y)] → W p l e (RM 9 230 h0 hE) s m args below meth c H locs c1 s1 Q (F0 m 71 ls [])) (ke : ∀ z : Unit, r = .inr z → ∀ (H : Heap) (locs : List Loc) (c1 s1 : Nat) (ls : Array Slot), Wd G ρ h0.length (sl h0) s.heap hB H locs c1 s1 → lv_has ls 10 [] → W p l e (RM 9 230 h0 hE) s m args below meth c H locs c1 s1 Q (F0 m 235 ls [])) : W p l e (RM 9 230 h0 hE) s m args below meth c H locs cells slots Q (F0 m 71 ls []) := by
  have hx := C.1
  have hb := C.2.1
  unfold fX10_laysTable_b71 at hf
  refine lv_iload_n hx hb dX10_laysTable_71 rfl (lv_at hl 1 rfl) ?_
  refine lv_aload_n hx hb dX10_laysTable_72 rfl (lv_at hl 0 rfl) ?_
  obtain ⟨v8, e8, hf⟩ := pb_rd (rd_gI _ _ _) hf
  refine r_gI C hW e8 flX10_293 rfl dX10_laysTable_73 ?_
  refine lv_icmp_ge (tgt := 235) hx hb dX10_laysTable_76 (by decide) (fun c9 => ?_) (fun c9 => ?_)
  · rw [if_pos c9] at hf
    obtain ⟨rfl, rfl⟩ := pp_some hf
    exact ke _ rfl _ _ _ _ _ hW (lv_sub hl [] rfl)
  · rw [if_neg c9] at hf
    refine lv_iconst (v := 0) hx hb dX10_laysTable_79 (by decide) ?_
    refine lv_istore (lv' := [(4, .int (0 : Int32)), (0, .ref (ρ x0)), (3, .int x3)]) hx hb dX10_laysTable_80 hl (by decide) rfl (fun ls hl => ?_)
    obtain ⟨z35, h35, e35, hf⟩ := pb_some hf
    refine wX10_laysTable_L82 C fu _ e35 ((pext hf).tr hX) hW (lv_sub hl [1, 2, 0] rfl) (fun H locs c1 s1 ls hW hl => ?_)
    refine lv_iinc (v := (x3 + 1)) (lv' := [(3, .int (x3 + 1)), (0, .ref (ρ x0))]) hx hb dX10_laysTable_229 hl (k := 1) rfl rfl (by decide) rfl (fun ls hl => ?_)
    refine lv_goto (tgt := 71) hx hb dX10_laysTable_232 (by decide) ?_
    obtain ⟨rfl, rfl⟩ := pp_some hf
    exact kc _ rfl _ _ _ _ _ hW (lv_sub hl [1, 0] rfl)
set_option maxHeartbeats 4000000 in
theorem wX10_laysTable_L71 {p : Program} {l : Launch} {e : Env} {s : State} {m : MethodId} {args : Array Value} {below : List Frame} {meth : Method} {c : Code} {G : GG} {ρ : Nat → Nat} {h0 hE hB : PH} {Q : State → Prop} {x0 : Nat} (C : Cx G "PairSymbolsModel" cX10_laysTable 10 none "laysTable" p s m args meth c) {z : (Unit)} (n : Nat) : ∀ (x : Int32) {h : PH} {H : Heap} {locs : List Loc} {cells slots : Nat} {ls : Array Slot}, (plo (fX10_laysTable_B71 x0) n x).1 h = some (z, hB) → Ext hB hE → Wd G ρ h0.length (sl h0) s.heap h H locs cells slots → lv_has ls 10 [(0, .ref (ρ x0)), (3, .int x)] → (ke : ∀ (H : Heap) (locs : List Loc) (c1 s1 : Nat) (ls : Array Slot), Wd G ρ h0.length (sl h0) s.heap hB H locs c1 s1 → lv_has ls 10 [] → W p l e (RM 9 230 h0 hE) s m args below meth c H locs c1 s1 Q (F0 m 235 ls [])) → W p l e (RM 9 230 h0 hE) s m args below meth c H locs cells slots Q (F0 m 71 ls []) := by
  induction n with
  | zero =>
    intro x h H locs cells slots ls hf
    rw [plo_0] at hf
    exact (pf_no hf).elim
  | succ n ih =>
    intro x h H locs cells slots ls hf hX hW hl ke
    rw [plo_s] at hf
    obtain ⟨r, h1, e1, hf⟩ := pb_some hf
    unfold fX10_laysTable_B71 at e1
    rw [frI_eq] at e1
    refine wX10_laysTable_B71 C e1 ((pext hf).tr hX) hW hl (fun y hr H locs c1 s1 ls hW hl => ?_) (fun y hr H locs c1 s1 ls hW hl => ?_)
    · subst hr
      exact ih y hf hX hW hl ke
    · subst hr
      obtain ⟨rfl, rfl⟩ := pp_some hf
      exact ke H locs c1 s1 ls hW hl
set_option maxHeartbeats 4000000 in
set_option maxRecDepth 100000 in
theorem wX10_laysTable_B19 {p : Program} {l : Launch} {e : Env} {s : State} {m : MethodId} {args : Array Value} {below : List Frame} {meth : Method} {c : Code} {G : GG} {ρ : Nat → Nat} {h0 hE hB : PH} {Q : State → Prop} {x0 : Nat} (C : Cx G "PairSymbolsModel" cX10_laysTable 10 none "laysTable" p s m args meth c) {x3 : Int32} {h : PH} {H : Heap} {locs : List Loc} {cells slots : Nat} {ls : Array Slot} {r : (Int32) ⊕ (Unit)} (hf : (fX10_laysTable_b19 x0 x3).1 h = some (r, hB)) (hX : Ext hB hE) (hW : Wd G ρ h0.length (sl h0) s.heap h H locs cells slots) (hl : lv_has ls 10 [(0, .ref (ρ x0)), (3, .int x3)]) (kc : ∀ y : Int32, r = .inl y → ∀ (H : Heap) (locs : List Loc) (c1 s1 : Nat) (ls : Array Slot), Wd G ρ h0.length (sl h0) s.heap hB H locs c1 s1 → lv_has ls 10 [(0, .ref (ρ x0)), (3, .int y)] → W p l e (RM 9 230 h0 hE) s m args below meth c H locs c1 s1 Q (F0 m 19 ls [])) (ke : ∀ z : Unit, r = .inr z → ∀ (H : Heap) (locs : List Loc) (c1 s1 : Nat) (ls : Array Slot), Wd G ρ h0.length (sl h0) s.heap hB H locs c1 s1 → lv_has ls 10 [] → W p l e (RM 9 230 h0 hE) s m args below meth c H locs c1 s1 Q (F0 m 56 ls [])) : W p l e (RM 9 230 h0 hE) s m args below meth c H locs cells slots Q (F0 m 19 ls []) := by
  have hx := C.1
  have hb := C.2.1
  unfold fX10_laysTable_b19 at hf
  refine lv_iload_n hx hb dX10_laysTable_19 rfl (lv_at hl 1 rfl) ?_
  refine lv_sipush (v := 256) hx hb dX10_laysTable_20 (by decide) ?_
  refine lv_icmp_ge (tgt := 56) hx hb dX10_laysTable_23 (by decide) (fun c39 => ?_) (fun c39 => ?_)
  · rw [if_pos c39] at hf
    obtain ⟨rfl, rfl⟩ := pp_some hf
    exact ke _ rfl _ _ _ _ _ hW (lv_sub hl [] rfl)
  · rw [if_neg c39] at hf
    refine lv_aload_n hx hb dX10_laysTable_26 rfl (lv_at hl 0 rfl) ?_
    obtain ⟨v40, e40, hf⟩ := pb_rd (rd_gA _ _ _) hf
    refine r_gA C hW e40 flX10_63 rfl dX10_laysTable_27 ?_
    refine lv_iload_n hx hb dX10_laysTable_30 rfl (lv_at hl 1 rfl) ?_
    refine lv_aload_n hx hb dX10_laysTable_31 rfl (lv_at hl 0 rfl) ?_
    obtain ⟨v41, e41, hf⟩ := pb_rd (rd_gA _ _ _) hf
    refine r_gA C hW e41 flX10_87 rfl dX10_laysTable_32 ?_
    refine lv_iload_n hx hb dX10_laysTable_35 rfl (lv_at hl 1 rfl) ?_
    obtain ⟨v42, e42, hf⟩ := pb_rd (rd_lJ _ _ _) hf
    refine r_lald C hW e42 dX10_laysTable_36 ?_
    obtain ⟨_, h43, e43, hf⟩ := pb_some hf
    refine r_last C hW e43 dX10_laysTable_37 (fun H locs hW => ?_)
    refine lv_aload_n hx hb dX10_laysTable_38 rfl (lv_at hl 0 rfl) ?_
    obtain ⟨v44, e44, hf⟩ := pb_rd (rd_gA _ _ _) hf
    refine r_gA C hW e44 flX10_66 rfl dX10_laysTable_39 ?_
    refine lv_iload_n hx hb dX10_laysTable_42 rfl (lv_at hl 1 rfl) ?_
    refine lv_aload_n hx hb dX10_laysTable_43 rfl (lv_at hl 0 rfl) ?_
    obtain ⟨v45, e45, hf⟩ := pb_rd (rd_gA _ _ _) hf
    refine r_gA C hW e45 flX10_90 rfl dX10_laysTable_44 ?_
    refine lv_iload_n hx hb dX10_laysTable_47 rfl (lv_at hl 1 rfl) ?_
    obtain ⟨v46, e46, hf⟩ := pb_rd (rd_lJ _ _ _) hf
    refine r_lald C hW e46 dX10_laysTable_48 ?_
    obtain ⟨_, h47, e47, hf⟩ := pb_some hf
    refine r_last C hW e47 dX10_laysTable_49 (fun H locs hW => ?_)
    refine lv_iinc (v := (x3 + 1)) (lv' := [(3, .int (x3 + 1)), (0, .ref (ρ x0))]) hx hb dX10_laysTable_50 hl (k := 1) rfl rfl (by decide) rfl (fun ls hl => ?_)
    refine lv_goto (tgt := 19) hx hb dX10_laysTable_53 (by decide) ?_
    obtain ⟨rfl, rfl⟩ := pp_some hf
    exact kc _ rfl _ _ _ _ _ hW (lv_sub hl [1, 0] rfl)
set_option maxHeartbeats 4000000 in
theorem wX10_laysTable_L19 {p : Program} {l : Launch} {e : Env} {s : State} {m : MethodId} {args : Array Value} {below : List Frame} {meth : Method} {c : Code} {G : GG} {ρ : Nat → Nat} {h0 hE hB : PH} {Q : State → Prop} {x0 : Nat} (C : Cx G "PairSymbolsModel" cX10_laysTable 10 none "laysTable" p s m args meth c) {z : (Unit)} (n : Nat) : ∀ (x : Int32) {h : PH} {H : Heap} {locs : List Loc} {cells slots : Nat} {ls : Array Slot}, (plo (fX10_laysTable_B19 x0) n x).1 h = some (z, hB) → Ext hB hE → Wd G ρ h0.length (sl h0) s.heap h H locs cells slots → lv_has ls 10 [(0, .ref (ρ x0)), (3, .int x)] → (ke : ∀ (H : Heap) (locs : List Loc) (c1 s1 : Nat) (ls : Array Slot), Wd G ρ h0.length (sl h0) s.heap hB H locs c1 s1 → lv_has ls 10 [] → W p l e (RM 9 230 h0 hE) s m args below meth c H locs c1 s1 Q (F0 m 56 ls [])) → W p l e (RM 9 230 h0 hE) s m args below meth c H locs cells slots Q (F0 m 19 ls []) := by
  induction n with
  | zero =>
    intro x h H locs cells slots ls hf
    rw [plo_0] at hf
    exact (pf_no hf).elim
  | succ n ih =>
    intro x h H locs cells slots ls hf hX hW hl ke
    rw [plo_s] at hf
    obtain ⟨r, h1, e1, hf⟩ := pb_some hf
    unfold fX10_laysTable_B19 at e1
    rw [frI_eq] at e1
    refine wX10_laysTable_B19 C e1 ((pext hf).tr hX) hW hl (fun y hr H locs c1 s1 ls hW hl => ?_) (fun y hr H locs c1 s1 ls hW hl => ?_)
    · subst hr
      exact ih y hf hX hW hl ke
    · subst hr
      obtain ⟨rfl, rfl⟩ := pp_some hf
      exact ke H locs c1 s1 ls hW hl
set_option maxHeartbeats 4000000 in
set_option maxRecDepth 100000 in
theorem metX10_laysTable (l : Launch) (G : GG) (ρ : Nat → Nat) {z : Nat} {x0 : Nat} {x1 : Int32} {x2 : Int32} {h hE : PH} {v : Unit} (hf : (fX10_laysTable x0 x1 x2).1 h = some (v, hE)) : Met l yX10_laysTable (wsY yX10_laysTable cX10_laysTable 10 none) (RM 9 230 h hE) (va_Pc [.ref (ρ x0), .int x1, .int x2] (PcB G ρ h z)) (QV G ρ hE h.length z) (DC h hE) (DS h hE) (Af ρ h.length z) := by
  refine met_start (by decide) (Nat.le_of_ble_eq_true rfl) ?_
  intro p e s m below meth c ls hz C hW hl
  subst hz
  have C : Cx G "PairSymbolsModel" cX10_laysTable 10 none "laysTable" p s m _ meth c := C
  have hx := C.1
  have hb := C.2.1
  have hX : Ext hE hE := Ext.rf hE
  have hl : lv_has ls 10 [(0, .ref (ρ x0)), (1, .int x1), (2, .int x2)] := hl
  have hW : Wd G ρ h.length (sl h) s.heap h s.heap [] 0 0 := hW
  unfold fX10_laysTable at hf
  obtain ⟨_, e0, hf⟩ := pb_rd (rd_chk _ _) hf
  refine lv_aload_n hx hb dX10_laysTable_0 rfl (lv_at hl 0 rfl) ?_
  refine lv_iload_n hx hb dX10_laysTable_1 rfl (lv_at hl 1 rfl) ?_
  obtain ⟨_, h1, e1, hf⟩ := pb_some hf
  obtain ⟨_, _, t2⟩ := tgX10_laysOperator e1
  refine r_callv hW (pext e1) (run_V (b := x0) (As := [.int x1]) (rest := []) C hW (metX10_laysOperator l G ρ e1) ⟨rfl, rfl⟩ kcX10_laysOperator (tq q_1004 rfl) kiX10_laysOperator ksX10_laysOperator knX10_laysOperator kdX10_laysOperator t2 rfl rfl ⟨Nat.le_of_ble_eq_true rfl, Nat.le_of_ble_eq_true rfl⟩ hl.1 (Nat.le_of_ble_eq_true rfl) (room_of hW (pext e1) ((pext hf).tr hX)) dX10_laysTable_2 rfl) (fun H locs c1 s1 hW => ?_)
  refine lv_iload_n hx hb dX10_laysTable_5 rfl (lv_at hl 2 rfl) ?_
  refine lv_if_ne (tgt := 57) hx hb dX10_laysTable_6 (by decide) (fun c3 => ?_) (fun c3 => ?_)
  · rw [if_neg c3] at hf
    refine lv_aload_n hx hb dX10_laysTable_57 rfl (lv_at hl 0 rfl) ?_
    obtain ⟨_, h4, e4, hf⟩ := pb_some hf
    obtain ⟨_, _, t5⟩ := tgX10_laysCuspidals e4
    refine r_callv hW (pext e4) (run_V (b := x0) (As := []) (rest := []) C hW (metX10_laysCuspidals l G ρ e4) ⟨rfl, rfl⟩ kcX10_laysCuspidals (tq q_963 rfl) kiX10_laysCuspidals ksX10_laysCuspidals knX10_laysCuspidals kdX10_laysCuspidals t5 rfl rfl ⟨Nat.le_of_ble_eq_true rfl, Nat.le_of_ble_eq_true rfl⟩ hl.1 (Nat.le_of_ble_eq_true rfl) (room_of hW (pext e4) ((pext hf).tr hX)) dX10_laysTable_58 rfl) (fun H locs c1 s1 hW => ?_)
    refine lv_aload_n hx hb dX10_laysTable_61 rfl (lv_at hl 0 rfl) ?_
    refine lv_aload_n hx hb dX10_laysTable_62 rfl (lv_at hl 0 rfl) ?_
    obtain ⟨v6, e6, hf⟩ := pb_rd (rd_gI _ _ _) hf
    refine r_gI C hW e6 flX10_231 rfl dX10_laysTable_63 ?_
    obtain ⟨_, h7, e7, hf⟩ := pb_some hf
    refine r_sI C hW e7 flX10_293 (Or.inl rfl) rfl dX10_laysTable_66 (fun H locs hW => ?_)
    refine lv_iconst (v := 0) hx hb dX10_laysTable_69 (by decide) ?_
    refine lv_istore_n (lv' := [(3, .int (0 : Int32)), (0, .ref (ρ x0)), (1, .int x1), (2, .int x2)]) hx hb dX10_laysTable_70 rfl hl (by decide) rfl (fun ls hl => ?_)
    obtain ⟨z36, h36, e36, hf⟩ := pb_some hf
    refine wX10_laysTable_L71 C fu _ e36 ((pext hf).tr hX) hW (lv_sub hl [1, 0] rfl) (fun H locs c1 s1 ls hW hl => ?_)
    obtain ⟨rfl, rfl⟩ := pp_some hf
    exact r_vret C hW dX10_laysTable_235
  · rw [if_pos c3] at hf
    refine lv_aload_n hx hb dX10_laysTable_9 rfl (lv_at hl 0 rfl) ?_
    refine lv_aload_n hx hb dX10_laysTable_10 rfl (lv_at hl 0 rfl) ?_
    obtain ⟨v37, e37, hf⟩ := pb_rd (rd_gI _ _ _) hf
    refine r_gI C hW e37 flX10_192 rfl dX10_laysTable_11 ?_
    obtain ⟨_, h38, e38, hf⟩ := pb_some hf
    refine r_sI C hW e38 flX10_293 (Or.inl rfl) rfl dX10_laysTable_14 (fun H locs hW => ?_)
    refine lv_iconst (v := 0) hx hb dX10_laysTable_17 (by decide) ?_
    refine lv_istore_n (lv' := [(3, .int (0 : Int32)), (0, .ref (ρ x0)), (1, .int x1), (2, .int x2)]) hx hb dX10_laysTable_18 rfl hl (by decide) rfl (fun ls hl => ?_)
    obtain ⟨z48, h48, e48, hf⟩ := pb_some hf
    refine wX10_laysTable_L19 C fu _ e48 ((pext hf).tr hX) hW (lv_sub hl [1, 0] rfl) (fun H locs c1 s1 ls hW hl => ?_)
    obtain ⟨rfl, rfl⟩ := pp_some hf
    exact r_vret C hW dX10_laysTable_56

theorem dX10_laysTrace_0 : decode cX10_laysTrace 0 = .ok (.aload_n 0, 1) := by decide +kernel
theorem dX10_laysTrace_1 : decode cX10_laysTrace 1 = .ok (.lconst 0, 1) := by decide +kernel
theorem dX10_laysTrace_2 : decode cX10_laysTrace 2 = .ok (.putfield 133, 3) := by decide +kernel
theorem dX10_laysTrace_5 : decode cX10_laysTrace 5 = .ok (.aload_n 0, 1) := by decide +kernel
theorem dX10_laysTrace_6 : decode cX10_laysTrace 6 = .ok (.lconst 1, 1) := by decide +kernel
theorem dX10_laysTrace_7 : decode cX10_laysTrace 7 = .ok (.putfield 137, 3) := by decide +kernel
theorem dX10_laysTrace_10 : decode cX10_laysTrace 10 = .ok (.return_, 1) := by decide +kernel
theorem kcX10_laysTrace : Cond.code yX10_laysTrace cX10_laysTrace 1 none ∈ tb := tq q_1036 rfl
theorem knX10_laysTrace : Cond.initialized yX10_laysTrace.cls ∈ tb := (tq q_10 rfl)
theorem kdX10_laysTrace : yX10_laysTrace.cls ≠ "java/lang/invoke/MethodHandle" ∧ yX10_laysTrace.cls ≠ "java/lang/invoke/VarHandle" ∧ (parseMethodDescriptor yX10_laysTrace.desc).map (fun d => d.parameters.length) = some 0 := ⟨by decide +kernel, by decide +kernel, by decide +kernel⟩
theorem kiX10_laysTrace : Cond.instanceMethod yX10_laysTrace ∈ tb := (tq q_1035 rfl)
theorem ksX10_laysTrace : Cond.selects yX10_laysTrace.cls yX10_laysTrace yX10_laysTrace ∈ tb := (tq z_64 rfl)
theorem tgX10_laysTrace {x0 : Nat} {h : PH} {r : Unit × PH} (hf : (fX10_laysTrace x0).1 h = some r) : ∃ n x, nth h x0 = some (9, n, x) := by
  obtain ⟨_, _, e, _⟩ := pb_some hf
  exact (chk_some e).2
set_option maxHeartbeats 4000000 in
set_option maxRecDepth 100000 in
theorem metX10_laysTrace (l : Launch) (G : GG) (ρ : Nat → Nat) {z : Nat} {x0 : Nat} {h hE : PH} {v : Unit} (hf : (fX10_laysTrace x0).1 h = some (v, hE)) : Met l yX10_laysTrace (wsY yX10_laysTrace cX10_laysTrace 1 none) (RM 0 0 h hE) (va_Pc [.ref (ρ x0)] (PcB G ρ h z)) (QV G ρ hE h.length z) (DC h hE) (DS h hE) (Af ρ h.length z) := by
  refine met_start (by decide) (Nat.le_of_ble_eq_true rfl) ?_
  intro p e s m below meth c ls hz C hW hl
  subst hz
  have C : Cx G "PairSymbolsModel" cX10_laysTrace 1 none "laysTrace" p s m _ meth c := C
  have hx := C.1
  have hb := C.2.1
  have hX : Ext hE hE := Ext.rf hE
  have hl : lv_has ls 1 [(0, .ref (ρ x0))] := hl
  have hW : Wd G ρ h.length (sl h) s.heap h s.heap [] 0 0 := hW
  unfold fX10_laysTrace at hf
  obtain ⟨_, e0, hf⟩ := pb_rd (rd_chk _ _) hf
  refine lv_aload_n hx hb dX10_laysTrace_0 rfl (lv_at hl 0 rfl) ?_
  refine lv_lconst (v := 0) hx hb dX10_laysTrace_1 (by decide) ?_
  obtain ⟨_, h1, e1, hf⟩ := pb_some hf
  refine r_sJ C hW e1 flX10_133 (Or.inl rfl) rfl dX10_laysTrace_2 (fun H locs hW => ?_)
  refine lv_aload_n hx hb dX10_laysTrace_5 rfl (lv_at hl 0 rfl) ?_
  refine lv_lconst (v := 1) hx hb dX10_laysTrace_6 (by decide) ?_
  obtain ⟨_, h2, e2, hf⟩ := pb_some hf
  refine r_sJ C hW e2 flX10_137 (Or.inl rfl) rfl dX10_laysTrace_7 (fun H locs hW => ?_)
  obtain ⟨rfl, rfl⟩ := pp_some hf
  exact r_vret C hW dX10_laysTrace_10

theorem dX10_diagonal_0 : decode cX10_diagonal 0 = .ok (.aload_n 0, 1) := by decide +kernel
theorem dX10_diagonal_1 : decode cX10_diagonal 1 = .ok (.invokevirtual 296, 3) := by decide +kernel
theorem dX10_diagonal_4 : decode cX10_diagonal 4 = .ok (.iconst 0, 1) := by decide +kernel
theorem dX10_diagonal_5 : decode cX10_diagonal 5 = .ok (.istore_n 1, 1) := by decide +kernel
theorem dX10_diagonal_6 : decode cX10_diagonal 6 = .ok (.iload_n 1, 1) := by decide +kernel
theorem dX10_diagonal_7 : decode cX10_diagonal 7 = .ok (.aload_n 0, 1) := by decide +kernel
theorem dX10_diagonal_8 : decode cX10_diagonal 8 = .ok (.getfield 293, 3) := by decide +kernel
theorem dX10_diagonal_11 : decode cX10_diagonal 11 = .ok (.if_icmp .ge 39, 3) := by decide +kernel
theorem dX10_diagonal_14 : decode cX10_diagonal 14 = .ok (.aload_n 0, 1) := by decide +kernel
theorem dX10_diagonal_15 : decode cX10_diagonal 15 = .ok (.aload_n 0, 1) := by decide +kernel
theorem dX10_diagonal_16 : decode cX10_diagonal 16 = .ok (.getfield 133, 3) := by decide +kernel
theorem dX10_diagonal_19 : decode cX10_diagonal 19 = .ok (.aload_n 0, 1) := by decide +kernel
theorem dX10_diagonal_20 : decode cX10_diagonal 20 = .ok (.getfield 137, 3) := by decide +kernel
theorem dX10_diagonal_23 : decode cX10_diagonal 23 = .ok (.aload_n 0, 1) := by decide +kernel
theorem dX10_diagonal_24 : decode cX10_diagonal 24 = .ok (.getfield 99, 3) := by decide +kernel
theorem dX10_diagonal_27 : decode cX10_diagonal 27 = .ok (.bipush 17, 2) := by decide +kernel
theorem dX10_diagonal_29 : decode cX10_diagonal 29 = .ok (.iload_n 1, 1) := by decide +kernel
theorem dX10_diagonal_30 : decode cX10_diagonal 30 = .ok (.imul, 1) := by decide +kernel
theorem dX10_diagonal_31 : decode cX10_diagonal 31 = .ok (.laload, 1) := by decide +kernel
theorem dX10_diagonal_32 : decode cX10_diagonal 32 = .ok (.aload_n 0, 1) := by decide +kernel
theorem dX10_diagonal_33 : decode cX10_diagonal 33 = .ok (.getfield 102, 3) := by decide +kernel
theorem dX10_diagonal_36 : decode cX10_diagonal 36 = .ok (.bipush 17, 2) := by decide +kernel
theorem dX10_diagonal_38 : decode cX10_diagonal 38 = .ok (.iload_n 1, 1) := by decide +kernel
theorem dX10_diagonal_39 : decode cX10_diagonal 39 = .ok (.imul, 1) := by decide +kernel
theorem dX10_diagonal_40 : decode cX10_diagonal 40 = .ok (.laload, 1) := by decide +kernel
theorem dX10_diagonal_41 : decode cX10_diagonal 41 = .ok (.invokevirtual 144, 3) := by decide +kernel
theorem dX10_diagonal_44 : decode cX10_diagonal 44 = .ok (.iinc 1 1, 3) := by decide +kernel
theorem dX10_diagonal_47 : decode cX10_diagonal 47 = .ok (.goto (-41), 3) := by decide +kernel
theorem dX10_diagonal_50 : decode cX10_diagonal 50 = .ok (.aload_n 0, 1) := by decide +kernel
theorem dX10_diagonal_51 : decode cX10_diagonal 51 = .ok (.getfield 133, 3) := by decide +kernel
theorem dX10_diagonal_54 : decode cX10_diagonal 54 = .ok (.aload_n 0, 1) := by decide +kernel
theorem dX10_diagonal_55 : decode cX10_diagonal 55 = .ok (.getfield 137, 3) := by decide +kernel
theorem dX10_diagonal_58 : decode cX10_diagonal 58 = .ok (.ldiv, 1) := by decide +kernel
theorem dX10_diagonal_59 : decode cX10_diagonal 59 = .ok (.lreturn, 1) := by decide +kernel
theorem kcX10_diagonal : Cond.code yX10_diagonal cX10_diagonal 2 (some .long) ∈ tb := tq q_1032 rfl
theorem knX10_diagonal : Cond.initialized yX10_diagonal.cls ∈ tb := (tq q_10 rfl)
theorem kdX10_diagonal : yX10_diagonal.cls ≠ "java/lang/invoke/MethodHandle" ∧ yX10_diagonal.cls ≠ "java/lang/invoke/VarHandle" ∧ (parseMethodDescriptor yX10_diagonal.desc).map (fun d => d.parameters.length) = some 0 := ⟨by decide +kernel, by decide +kernel, by decide +kernel⟩
theorem kiX10_diagonal : Cond.instanceMethod yX10_diagonal ∈ tb := (tq q_1031 rfl)
theorem ksX10_diagonal : Cond.selects yX10_diagonal.cls yX10_diagonal yX10_diagonal ∈ tb := (tq z_63 rfl)
theorem tgX10_diagonal {x0 : Nat} {h : PH} {r : Int64 × PH} (hf : (fX10_diagonal x0).1 h = some r) : ∃ n x, nth h x0 = some (9, n, x) := by
  obtain ⟨_, _, e, _⟩ := pb_some hf
  exact (chk_some e).2
set_option maxHeartbeats 4000000 in
set_option maxRecDepth 100000 in
theorem wX10_diagonal_B6 {p : Program} {l : Launch} {e : Env} {s : State} {m : MethodId} {args : Array Value} {below : List Frame} {meth : Method} {c : Code} {G : GG} {ρ : Nat → Nat} {h0 hE hB : PH} {Q : State → Prop} {x0 : Nat} (C : Cx G "PairSymbolsModel" cX10_diagonal 2 (some .long) "diagonal" p s m args meth c) {x1 : Int32} {h : PH} {H : Heap} {locs : List Loc} {cells slots : Nat} {ls : Array Slot} {r : (Int32) ⊕ (Unit)} (hf : (fX10_diagonal_b6 x0 x1).1 h = some (r, hB)) (hX : Ext hB hE) (hW : Wd G ρ h0.length (sl h0) s.heap h H locs cells slots) (hl : lv_has ls 2 [(0, .ref (ρ x0)), (1, .int x1)]) (kc : ∀ y : Int32, r = .inl y → ∀ (H : Heap) (locs : List Loc) (c1 s1 : Nat) (ls : Array Slot), Wd G ρ h0.length (sl h0) s.heap hB H locs c1 s1 → lv_has ls 2 [(0, .ref (ρ x0)), (1, .int y)] → W p l e (RM 3 83 h0 hE) s m args below meth c H locs c1 s1 Q (F0 m 6 ls [])) (ke : ∀ z : Unit, r = .inr z → ∀ (H : Heap) (locs : List Loc) (c1 s1 : Nat) (ls : Array Slot), Wd G ρ h0.length (sl h0) s.heap hB H locs c1 s1 → lv_has ls 2 [(0, .ref (ρ x0))] → W p l e (RM 3 83 h0 hE) s m args below meth c H locs c1 s1 Q (F0 m 50 ls [])) : W p l e (RM 3 83 h0 hE) s m args below meth c H locs cells slots Q (F0 m 6 ls []) := by
  have hx := C.1
  have hb := C.2.1
  unfold fX10_diagonal_b6 at hf
  refine lv_iload_n hx hb dX10_diagonal_6 rfl (lv_at hl 1 rfl) ?_
  refine lv_aload_n hx hb dX10_diagonal_7 rfl (lv_at hl 0 rfl) ?_
  obtain ⟨v3, e3, hf⟩ := pb_rd (rd_gI _ _ _) hf
  refine r_gI C hW e3 flX10_293 rfl dX10_diagonal_8 ?_
  refine lv_icmp_ge (tgt := 50) hx hb dX10_diagonal_11 (by decide) (fun c4 => ?_) (fun c4 => ?_)
  · rw [if_pos c4] at hf
    obtain ⟨rfl, rfl⟩ := pp_some hf
    exact ke _ rfl _ _ _ _ _ hW (lv_sub hl [0] rfl)
  · rw [if_neg c4] at hf
    refine lv_aload_n hx hb dX10_diagonal_14 rfl (lv_at hl 0 rfl) ?_
    refine lv_aload_n hx hb dX10_diagonal_15 rfl (lv_at hl 0 rfl) ?_
    obtain ⟨v5, e5, hf⟩ := pb_rd (rd_gJ _ _ _) hf
    refine r_gJ C hW e5 flX10_133 rfl dX10_diagonal_16 ?_
    refine lv_aload_n hx hb dX10_diagonal_19 rfl (lv_at hl 0 rfl) ?_
    obtain ⟨v6, e6, hf⟩ := pb_rd (rd_gJ _ _ _) hf
    refine r_gJ C hW e6 flX10_137 rfl dX10_diagonal_20 ?_
    refine lv_aload_n hx hb dX10_diagonal_23 rfl (lv_at hl 0 rfl) ?_
    obtain ⟨v7, e7, hf⟩ := pb_rd (rd_gA _ _ _) hf
    refine r_gA C hW e7 flX10_99 rfl dX10_diagonal_24 ?_
    refine lv_bipush (v := 17) hx hb dX10_diagonal_27 (by decide) ?_
    refine lv_iload_n hx hb dX10_diagonal_29 rfl (lv_at hl 1 rfl) ?_
    refine lv_imul hx hb dX10_diagonal_30 ?_
    obtain ⟨v8, e8, hf⟩ := pb_rd (rd_lJ _ _ _) hf
    refine r_lald C hW e8 dX10_diagonal_31 ?_
    refine lv_aload_n hx hb dX10_diagonal_32 rfl (lv_at hl 0 rfl) ?_
    obtain ⟨v9, e9, hf⟩ := pb_rd (rd_gA _ _ _) hf
    refine r_gA C hW e9 flX10_102 rfl dX10_diagonal_33 ?_
    refine lv_bipush (v := 17) hx hb dX10_diagonal_36 (by decide) ?_
    refine lv_iload_n hx hb dX10_diagonal_38 rfl (lv_at hl 1 rfl) ?_
    refine lv_imul hx hb dX10_diagonal_39 ?_
    obtain ⟨v10, e10, hf⟩ := pb_rd (rd_lJ _ _ _) hf
    refine r_lald C hW e10 dX10_diagonal_40 ?_
    obtain ⟨_, h11, e11, hf⟩ := pb_some hf
    obtain ⟨_, _, t12⟩ := tgX10_sumOf e11
    refine r_callv hW (pext e11) (run_V (b := x0) (As := [.long v5, .long v6, .long v8, .long v10]) (rest := []) C hW (metX10_sumOf l G ρ e11) ⟨rfl, rfl⟩ kcX10_sumOf (tq q_899 rfl) kiX10_sumOf ksX10_sumOf knX10_sumOf kdX10_sumOf t12 rfl rfl ⟨Nat.le_of_ble_eq_true rfl, Nat.le_of_ble_eq_true rfl⟩ hl.1 (Nat.le_of_ble_eq_true rfl) (room_of hW (pext e11) ((pext hf).tr hX)) dX10_diagonal_41 rfl) (fun H locs c1 s1 hW => ?_)
    refine lv_iinc (v := (x1 + 1)) (lv' := [(1, .int (x1 + 1)), (0, .ref (ρ x0))]) hx hb dX10_diagonal_44 hl (k := 1) rfl rfl (by decide) rfl (fun ls hl => ?_)
    refine lv_goto (tgt := 6) hx hb dX10_diagonal_47 (by decide) ?_
    obtain ⟨rfl, rfl⟩ := pp_some hf
    exact kc _ rfl _ _ _ _ _ hW (lv_sub hl [1, 0] rfl)
set_option maxHeartbeats 4000000 in
theorem wX10_diagonal_L6 {p : Program} {l : Launch} {e : Env} {s : State} {m : MethodId} {args : Array Value} {below : List Frame} {meth : Method} {c : Code} {G : GG} {ρ : Nat → Nat} {h0 hE hB : PH} {Q : State → Prop} {x0 : Nat} (C : Cx G "PairSymbolsModel" cX10_diagonal 2 (some .long) "diagonal" p s m args meth c) {z : (Unit)} (n : Nat) : ∀ (x : Int32) {h : PH} {H : Heap} {locs : List Loc} {cells slots : Nat} {ls : Array Slot}, (plo (fX10_diagonal_B6 x0) n x).1 h = some (z, hB) → Ext hB hE → Wd G ρ h0.length (sl h0) s.heap h H locs cells slots → lv_has ls 2 [(0, .ref (ρ x0)), (1, .int x)] → (ke : ∀ (H : Heap) (locs : List Loc) (c1 s1 : Nat) (ls : Array Slot), Wd G ρ h0.length (sl h0) s.heap hB H locs c1 s1 → lv_has ls 2 [(0, .ref (ρ x0))] → W p l e (RM 3 83 h0 hE) s m args below meth c H locs c1 s1 Q (F0 m 50 ls [])) → W p l e (RM 3 83 h0 hE) s m args below meth c H locs cells slots Q (F0 m 6 ls []) := by
  induction n with
  | zero =>
    intro x h H locs cells slots ls hf
    rw [plo_0] at hf
    exact (pf_no hf).elim
  | succ n ih =>
    intro x h H locs cells slots ls hf hX hW hl ke
    rw [plo_s] at hf
    obtain ⟨r, h1, e1, hf⟩ := pb_some hf
    unfold fX10_diagonal_B6 at e1
    rw [frI_eq] at e1
    refine wX10_diagonal_B6 C e1 ((pext hf).tr hX) hW hl (fun y hr H locs c1 s1 ls hW hl => ?_) (fun y hr H locs c1 s1 ls hW hl => ?_)
    · subst hr
      exact ih y hf hX hW hl ke
    · subst hr
      obtain ⟨rfl, rfl⟩ := pp_some hf
      exact ke H locs c1 s1 ls hW hl
set_option maxHeartbeats 4000000 in
set_option maxRecDepth 100000 in
theorem metX10_diagonal (l : Launch) (G : GG) (ρ : Nat → Nat) {z : Nat} {x0 : Nat} {h hE : PH} {v : Int64} (hf : (fX10_diagonal x0).1 h = some (v, hE)) : Met l yX10_diagonal (wsY yX10_diagonal cX10_diagonal 2 (some .long)) (RM 3 83 h hE) (va_Pc [.ref (ρ x0)] (PcB G ρ h z)) (QL G ρ v hE h.length z) (DC h hE) (DS h hE) (Af ρ h.length z) := by
  refine met_start (by decide) (Nat.le_of_ble_eq_true rfl) ?_
  intro p e s m below meth c ls hz C hW hl
  subst hz
  have C : Cx G "PairSymbolsModel" cX10_diagonal 2 (some .long) "diagonal" p s m _ meth c := C
  have hx := C.1
  have hb := C.2.1
  have hX : Ext hE hE := Ext.rf hE
  have hl : lv_has ls 2 [(0, .ref (ρ x0))] := hl
  have hW : Wd G ρ h.length (sl h) s.heap h s.heap [] 0 0 := hW
  unfold fX10_diagonal at hf
  obtain ⟨_, e0, hf⟩ := pb_rd (rd_chk _ _) hf
  refine lv_aload_n hx hb dX10_diagonal_0 rfl (lv_at hl 0 rfl) ?_
  obtain ⟨_, h1, e1, hf⟩ := pb_some hf
  obtain ⟨_, _, t2⟩ := tgX10_laysTrace e1
  refine r_callv hW (pext e1) (run_V (b := x0) (As := []) (rest := []) C hW (metX10_laysTrace l G ρ e1) ⟨rfl, rfl⟩ kcX10_laysTrace (tq q_1033 rfl) kiX10_laysTrace ksX10_laysTrace knX10_laysTrace kdX10_laysTrace t2 rfl rfl ⟨Nat.le_of_ble_eq_true rfl, Nat.le_of_ble_eq_true rfl⟩ hl.1 (Nat.le_of_ble_eq_true rfl) (room_of hW (pext e1) ((pext hf).tr hX)) dX10_diagonal_1 rfl) (fun H locs c1 s1 hW => ?_)
  refine lv_iconst (v := 0) hx hb dX10_diagonal_4 (by decide) ?_
  refine lv_istore_n (lv' := [(1, .int (0 : Int32)), (0, .ref (ρ x0))]) hx hb dX10_diagonal_5 rfl hl (by decide) rfl (fun ls hl => ?_)
  obtain ⟨z13, h13, e13, hf⟩ := pb_some hf
  refine wX10_diagonal_L6 C fu _ e13 ((pext hf).tr hX) hW (lv_sub hl [1, 0] rfl) (fun H locs c1 s1 ls hW hl => ?_)
  refine lv_aload_n hx hb dX10_diagonal_50 rfl (lv_at hl 0 rfl) ?_
  obtain ⟨v14, e14, hf⟩ := pb_rd (rd_gJ _ _ _) hf
  refine r_gJ C hW e14 flX10_133 rfl dX10_diagonal_51 ?_
  refine lv_aload_n hx hb dX10_diagonal_54 rfl (lv_at hl 0 rfl) ?_
  obtain ⟨v15, e15, hf⟩ := pb_rd (rd_gJ _ _ _) hf
  refine r_gJ C hW e15 flX10_137 rfl dX10_diagonal_55 ?_
  by_cases c16 : v15 = 0
  · rw [if_pos c16] at hf
    exact (pf_no hf).elim
  rw [if_neg c16] at hf
  refine lv_ldiv hx hb dX10_diagonal_58 c16 ?_
  obtain ⟨rfl, rfl⟩ := pp_some hf
  exact r_lret C hW dX10_diagonal_59

theorem dX10_multiplies_0 : decode cX10_multiplies 0 = .ok (.iconst 0, 1) := by decide +kernel
theorem dX10_multiplies_1 : decode cX10_multiplies 1 = .ok (.istore_n 1, 1) := by decide +kernel
theorem dX10_multiplies_2 : decode cX10_multiplies 2 = .ok (.iload_n 1, 1) := by decide +kernel
theorem dX10_multiplies_3 : decode cX10_multiplies 3 = .ok (.aload_n 0, 1) := by decide +kernel
theorem dX10_multiplies_4 : decode cX10_multiplies 4 = .ok (.getfield 293, 3) := by decide +kernel
theorem dX10_multiplies_7 : decode cX10_multiplies 7 = .ok (.if_icmp .ge 139, 3) := by decide +kernel
theorem dX10_multiplies_10 : decode cX10_multiplies 10 = .ok (.iconst 0, 1) := by decide +kernel
theorem dX10_multiplies_11 : decode cX10_multiplies 11 = .ok (.istore_n 2, 1) := by decide +kernel
theorem dX10_multiplies_12 : decode cX10_multiplies 12 = .ok (.iload_n 2, 1) := by decide +kernel
theorem dX10_multiplies_13 : decode cX10_multiplies 13 = .ok (.aload_n 0, 1) := by decide +kernel
theorem dX10_multiplies_14 : decode cX10_multiplies 14 = .ok (.getfield 293, 3) := by decide +kernel
theorem dX10_multiplies_17 : decode cX10_multiplies 17 = .ok (.if_icmp .ge 123, 3) := by decide +kernel
theorem dX10_multiplies_20 : decode cX10_multiplies 20 = .ok (.lconst 0, 1) := by decide +kernel
theorem dX10_multiplies_21 : decode cX10_multiplies 21 = .ok (.lstore_n 3, 1) := by decide +kernel
theorem dX10_multiplies_22 : decode cX10_multiplies 22 = .ok (.lconst 1, 1) := by decide +kernel
theorem dX10_multiplies_23 : decode cX10_multiplies 23 = .ok (.lstore 5, 2) := by decide +kernel
theorem dX10_multiplies_25 : decode cX10_multiplies 25 = .ok (.iconst 0, 1) := by decide +kernel
theorem dX10_multiplies_26 : decode cX10_multiplies 26 = .ok (.istore 7, 2) := by decide +kernel
theorem dX10_multiplies_28 : decode cX10_multiplies 28 = .ok (.iload 7, 2) := by decide +kernel
theorem dX10_multiplies_30 : decode cX10_multiplies 30 = .ok (.aload_n 0, 1) := by decide +kernel
theorem dX10_multiplies_31 : decode cX10_multiplies 31 = .ok (.getfield 293, 3) := by decide +kernel
theorem dX10_multiplies_34 : decode cX10_multiplies 34 = .ok (.if_icmp .ge 75, 3) := by decide +kernel
theorem dX10_multiplies_37 : decode cX10_multiplies 37 = .ok (.aload_n 0, 1) := by decide +kernel
theorem dX10_multiplies_38 : decode cX10_multiplies 38 = .ok (.lload_n 3, 1) := by decide +kernel
theorem dX10_multiplies_39 : decode cX10_multiplies 39 = .ok (.lload 5, 2) := by decide +kernel
theorem dX10_multiplies_41 : decode cX10_multiplies 41 = .ok (.aload_n 0, 1) := by decide +kernel
theorem dX10_multiplies_42 : decode cX10_multiplies 42 = .ok (.getfield 63, 3) := by decide +kernel
theorem dX10_multiplies_45 : decode cX10_multiplies 45 = .ok (.bipush 16, 2) := by decide +kernel
theorem dX10_multiplies_47 : decode cX10_multiplies 47 = .ok (.iload_n 1, 1) := by decide +kernel
theorem dX10_multiplies_48 : decode cX10_multiplies 48 = .ok (.imul, 1) := by decide +kernel
theorem dX10_multiplies_49 : decode cX10_multiplies 49 = .ok (.iload 7, 2) := by decide +kernel
theorem dX10_multiplies_51 : decode cX10_multiplies 51 = .ok (.iadd, 1) := by decide +kernel
theorem dX10_multiplies_52 : decode cX10_multiplies 52 = .ok (.laload, 1) := by decide +kernel
theorem dX10_multiplies_53 : decode cX10_multiplies 53 = .ok (.aload_n 0, 1) := by decide +kernel
theorem dX10_multiplies_54 : decode cX10_multiplies 54 = .ok (.getfield 66, 3) := by decide +kernel
theorem dX10_multiplies_57 : decode cX10_multiplies 57 = .ok (.bipush 16, 2) := by decide +kernel
theorem dX10_multiplies_59 : decode cX10_multiplies 59 = .ok (.iload_n 1, 1) := by decide +kernel
theorem dX10_multiplies_60 : decode cX10_multiplies 60 = .ok (.imul, 1) := by decide +kernel
theorem dX10_multiplies_61 : decode cX10_multiplies 61 = .ok (.iload 7, 2) := by decide +kernel
theorem dX10_multiplies_63 : decode cX10_multiplies 63 = .ok (.iadd, 1) := by decide +kernel
theorem dX10_multiplies_64 : decode cX10_multiplies 64 = .ok (.laload, 1) := by decide +kernel
theorem dX10_multiplies_65 : decode cX10_multiplies 65 = .ok (.aload_n 0, 1) := by decide +kernel
theorem dX10_multiplies_66 : decode cX10_multiplies 66 = .ok (.getfield 93, 3) := by decide +kernel
theorem dX10_multiplies_69 : decode cX10_multiplies 69 = .ok (.bipush 16, 2) := by decide +kernel
theorem dX10_multiplies_71 : decode cX10_multiplies 71 = .ok (.iload 7, 2) := by decide +kernel
theorem dX10_multiplies_73 : decode cX10_multiplies 73 = .ok (.imul, 1) := by decide +kernel
theorem dX10_multiplies_74 : decode cX10_multiplies 74 = .ok (.iload_n 2, 1) := by decide +kernel
theorem dX10_multiplies_75 : decode cX10_multiplies 75 = .ok (.iadd, 1) := by decide +kernel
theorem dX10_multiplies_76 : decode cX10_multiplies 76 = .ok (.laload, 1) := by decide +kernel
theorem dX10_multiplies_77 : decode cX10_multiplies 77 = .ok (.aload_n 0, 1) := by decide +kernel
theorem dX10_multiplies_78 : decode cX10_multiplies 78 = .ok (.getfield 96, 3) := by decide +kernel
theorem dX10_multiplies_81 : decode cX10_multiplies 81 = .ok (.bipush 16, 2) := by decide +kernel
theorem dX10_multiplies_83 : decode cX10_multiplies 83 = .ok (.iload 7, 2) := by decide +kernel
theorem dX10_multiplies_85 : decode cX10_multiplies 85 = .ok (.imul, 1) := by decide +kernel
theorem dX10_multiplies_86 : decode cX10_multiplies 86 = .ok (.iload_n 2, 1) := by decide +kernel
theorem dX10_multiplies_87 : decode cX10_multiplies 87 = .ok (.iadd, 1) := by decide +kernel
theorem dX10_multiplies_88 : decode cX10_multiplies 88 = .ok (.laload, 1) := by decide +kernel
theorem dX10_multiplies_89 : decode cX10_multiplies 89 = .ok (.invokevirtual 169, 3) := by decide +kernel
theorem dX10_multiplies_92 : decode cX10_multiplies 92 = .ok (.aload_n 0, 1) := by decide +kernel
theorem dX10_multiplies_93 : decode cX10_multiplies 93 = .ok (.getfield 133, 3) := by decide +kernel
theorem dX10_multiplies_96 : decode cX10_multiplies 96 = .ok (.lstore_n 3, 1) := by decide +kernel
theorem dX10_multiplies_97 : decode cX10_multiplies 97 = .ok (.aload_n 0, 1) := by decide +kernel
theorem dX10_multiplies_98 : decode cX10_multiplies 98 = .ok (.getfield 137, 3) := by decide +kernel
theorem dX10_multiplies_101 : decode cX10_multiplies 101 = .ok (.lstore 5, 2) := by decide +kernel
theorem dX10_multiplies_103 : decode cX10_multiplies 103 = .ok (.iinc 7 1, 3) := by decide +kernel
theorem dX10_multiplies_106 : decode cX10_multiplies 106 = .ok (.goto (-78), 3) := by decide +kernel
theorem dX10_multiplies_109 : decode cX10_multiplies 109 = .ok (.aload_n 0, 1) := by decide +kernel
theorem dX10_multiplies_110 : decode cX10_multiplies 110 = .ok (.getfield 99, 3) := by decide +kernel
theorem dX10_multiplies_113 : decode cX10_multiplies 113 = .ok (.bipush 16, 2) := by decide +kernel
theorem dX10_multiplies_115 : decode cX10_multiplies 115 = .ok (.iload_n 1, 1) := by decide +kernel
theorem dX10_multiplies_116 : decode cX10_multiplies 116 = .ok (.imul, 1) := by decide +kernel
theorem dX10_multiplies_117 : decode cX10_multiplies 117 = .ok (.iload_n 2, 1) := by decide +kernel
theorem dX10_multiplies_118 : decode cX10_multiplies 118 = .ok (.iadd, 1) := by decide +kernel
theorem dX10_multiplies_119 : decode cX10_multiplies 119 = .ok (.lload_n 3, 1) := by decide +kernel
theorem dX10_multiplies_120 : decode cX10_multiplies 120 = .ok (.lastore, 1) := by decide +kernel
theorem dX10_multiplies_121 : decode cX10_multiplies 121 = .ok (.aload_n 0, 1) := by decide +kernel
theorem dX10_multiplies_122 : decode cX10_multiplies 122 = .ok (.getfield 102, 3) := by decide +kernel
theorem dX10_multiplies_125 : decode cX10_multiplies 125 = .ok (.bipush 16, 2) := by decide +kernel
theorem dX10_multiplies_127 : decode cX10_multiplies 127 = .ok (.iload_n 1, 1) := by decide +kernel
theorem dX10_multiplies_128 : decode cX10_multiplies 128 = .ok (.imul, 1) := by decide +kernel
theorem dX10_multiplies_129 : decode cX10_multiplies 129 = .ok (.iload_n 2, 1) := by decide +kernel
theorem dX10_multiplies_130 : decode cX10_multiplies 130 = .ok (.iadd, 1) := by decide +kernel
theorem dX10_multiplies_131 : decode cX10_multiplies 131 = .ok (.lload 5, 2) := by decide +kernel
theorem dX10_multiplies_133 : decode cX10_multiplies 133 = .ok (.lastore, 1) := by decide +kernel
theorem dX10_multiplies_134 : decode cX10_multiplies 134 = .ok (.iinc 2 1, 3) := by decide +kernel
theorem dX10_multiplies_137 : decode cX10_multiplies 137 = .ok (.goto (-125), 3) := by decide +kernel
theorem dX10_multiplies_140 : decode cX10_multiplies 140 = .ok (.iinc 1 1, 3) := by decide +kernel
theorem dX10_multiplies_143 : decode cX10_multiplies 143 = .ok (.goto (-141), 3) := by decide +kernel
theorem dX10_multiplies_146 : decode cX10_multiplies 146 = .ok (.return_, 1) := by decide +kernel
theorem kcX10_multiplies : Cond.code yX10_multiplies cX10_multiplies 8 none ∈ tb := tq q_1050 rfl
theorem knX10_multiplies : Cond.initialized yX10_multiplies.cls ∈ tb := (tq q_10 rfl)
theorem kdX10_multiplies : yX10_multiplies.cls ≠ "java/lang/invoke/MethodHandle" ∧ yX10_multiplies.cls ≠ "java/lang/invoke/VarHandle" ∧ (parseMethodDescriptor yX10_multiplies.desc).map (fun d => d.parameters.length) = some 0 := ⟨by decide +kernel, by decide +kernel, by decide +kernel⟩
theorem kiX10_multiplies : Cond.instanceMethod yX10_multiplies ∈ tb := (tq q_1049 rfl)
theorem ksX10_multiplies : Cond.selects yX10_multiplies.cls yX10_multiplies yX10_multiplies ∈ tb := (tq z_66 rfl)
theorem tgX10_multiplies {x0 : Nat} {h : PH} {r : Unit × PH} (hf : (fX10_multiplies x0).1 h = some r) : ∃ n x, nth h x0 = some (9, n, x) := by
  obtain ⟨_, _, e, _⟩ := pb_some hf
  exact (chk_some e).2
set_option maxHeartbeats 4000000 in
set_option maxRecDepth 100000 in
theorem wX10_multiplies_B28 {p : Program} {l : Launch} {e : Env} {s : State} {m : MethodId} {args : Array Value} {below : List Frame} {meth : Method} {c : Code} {G : GG} {ρ : Nat → Nat} {h0 hE hB : PH} {Q : State → Prop} {x0 : Nat} {x1 : Int32} {x2 : Int32} (C : Cx G "PairSymbolsModel" cX10_multiplies 8 none "multiplies" p s m args meth c) {x3 : Int64} {x5 : Int64} {x7 : Int32} {h : PH} {H : Heap} {locs : List Loc} {cells slots : Nat} {ls : Array Slot} {r : (Int64 × Int64 × Int32) ⊕ (Int64 × Int64)} (hf : (fX10_multiplies_b28 x0 x1 x2 x3 x5 x7).1 h = some (r, hB)) (hX : Ext hB hE) (hW : Wd G ρ h0.length (sl h0) s.heap h H locs cells slots) (hl : lv_has ls 8 [(0, .ref (ρ x0)), (1, .int x1), (2, .int x2), (3, .long x3), (5, .long x5), (7, .int x7)]) (kc : ∀ y : Int64 × Int64 × Int32, r = .inl y → ∀ (H : Heap) (locs : List Loc) (c1 s1 : Nat) (ls : Array Slot), Wd G ρ h0.length (sl h0) s.heap hB H locs c1 s1 → lv_has ls 8 [(0, .ref (ρ x0)), (1, .int x1), (2, .int x2), (3, .long y.1), (5, .long y.2.1), (7, .int y.2.2)] → W p l e (RM 4 115 h0 hE) s m args below meth c H locs c1 s1 Q (F0 m 28 ls [])) (ke : ∀ z : Int64 × Int64, r = .inr z → ∀ (H : Heap) (locs : List Loc) (c1 s1 : Nat) (ls : Array Slot), Wd G ρ h0.length (sl h0) s.heap hB H locs c1 s1 → lv_has ls 8 [(0, .ref (ρ x0)), (1, .int x1), (2, .int x2), (3, .long z.1), (5, .long z.2)] → W p l e (RM 4 115 h0 hE) s m args below meth c H locs c1 s1 Q (F0 m 109 ls [])) : W p l e (RM 4 115 h0 hE) s m args below meth c H locs cells slots Q (F0 m 28 ls []) := by
  have hx := C.1
  have hb := C.2.1
  unfold fX10_multiplies_b28 at hf
  refine lv_iload hx hb dX10_multiplies_28 (lv_at hl 5 rfl) ?_
  refine lv_aload_n hx hb dX10_multiplies_30 rfl (lv_at hl 0 rfl) ?_
  obtain ⟨v5, e5, hf⟩ := pb_rd (rd_gI _ _ _) hf
  refine r_gI C hW e5 flX10_293 rfl dX10_multiplies_31 ?_
  refine lv_icmp_ge (tgt := 109) hx hb dX10_multiplies_34 (by decide) (fun c6 => ?_) (fun c6 => ?_)
  · rw [if_pos c6] at hf
    obtain ⟨rfl, rfl⟩ := pp_some hf
    exact ke _ rfl _ _ _ _ _ hW (lv_sub hl [0, 1, 2, 3, 4] rfl)
  · rw [if_neg c6] at hf
    refine lv_aload_n hx hb dX10_multiplies_37 rfl (lv_at hl 0 rfl) ?_
    refine lv_lload_n hx hb dX10_multiplies_38 rfl (lv_at hl 3 rfl) ?_
    refine lv_lload hx hb dX10_multiplies_39 (lv_at hl 4 rfl) ?_
    refine lv_aload_n hx hb dX10_multiplies_41 rfl (lv_at hl 0 rfl) ?_
    obtain ⟨v7, e7, hf⟩ := pb_rd (rd_gA _ _ _) hf
    refine r_gA C hW e7 flX10_63 rfl dX10_multiplies_42 ?_
    refine lv_bipush (v := 16) hx hb dX10_multiplies_45 (by decide) ?_
    refine lv_iload_n hx hb dX10_multiplies_47 rfl (lv_at hl 1 rfl) ?_
    refine lv_imul hx hb dX10_multiplies_48 ?_
    refine lv_iload hx hb dX10_multiplies_49 (lv_at hl 5 rfl) ?_
    refine lv_iadd hx hb dX10_multiplies_51 ?_
    obtain ⟨v8, e8, hf⟩ := pb_rd (rd_lJ _ _ _) hf
    refine r_lald C hW e8 dX10_multiplies_52 ?_
    refine lv_aload_n hx hb dX10_multiplies_53 rfl (lv_at hl 0 rfl) ?_
    obtain ⟨v9, e9, hf⟩ := pb_rd (rd_gA _ _ _) hf
    refine r_gA C hW e9 flX10_66 rfl dX10_multiplies_54 ?_
    refine lv_bipush (v := 16) hx hb dX10_multiplies_57 (by decide) ?_
    refine lv_iload_n hx hb dX10_multiplies_59 rfl (lv_at hl 1 rfl) ?_
    refine lv_imul hx hb dX10_multiplies_60 ?_
    refine lv_iload hx hb dX10_multiplies_61 (lv_at hl 5 rfl) ?_
    refine lv_iadd hx hb dX10_multiplies_63 ?_
    obtain ⟨v10, e10, hf⟩ := pb_rd (rd_lJ _ _ _) hf
    refine r_lald C hW e10 dX10_multiplies_64 ?_
    refine lv_aload_n hx hb dX10_multiplies_65 rfl (lv_at hl 0 rfl) ?_
    obtain ⟨v11, e11, hf⟩ := pb_rd (rd_gA _ _ _) hf
    refine r_gA C hW e11 flX10_93 rfl dX10_multiplies_66 ?_
    refine lv_bipush (v := 16) hx hb dX10_multiplies_69 (by decide) ?_
    refine lv_iload hx hb dX10_multiplies_71 (lv_at hl 5 rfl) ?_
    refine lv_imul hx hb dX10_multiplies_73 ?_
    refine lv_iload_n hx hb dX10_multiplies_74 rfl (lv_at hl 2 rfl) ?_
    refine lv_iadd hx hb dX10_multiplies_75 ?_
    obtain ⟨v12, e12, hf⟩ := pb_rd (rd_lJ _ _ _) hf
    refine r_lald C hW e12 dX10_multiplies_76 ?_
    refine lv_aload_n hx hb dX10_multiplies_77 rfl (lv_at hl 0 rfl) ?_
    obtain ⟨v13, e13, hf⟩ := pb_rd (rd_gA _ _ _) hf
    refine r_gA C hW e13 flX10_96 rfl dX10_multiplies_78 ?_
    refine lv_bipush (v := 16) hx hb dX10_multiplies_81 (by decide) ?_
    refine lv_iload hx hb dX10_multiplies_83 (lv_at hl 5 rfl) ?_
    refine lv_imul hx hb dX10_multiplies_85 ?_
    refine lv_iload_n hx hb dX10_multiplies_86 rfl (lv_at hl 2 rfl) ?_
    refine lv_iadd hx hb dX10_multiplies_87 ?_
    obtain ⟨v14, e14, hf⟩ := pb_rd (rd_lJ _ _ _) hf
    refine r_lald C hW e14 dX10_multiplies_88 ?_
    obtain ⟨_, h15, e15, hf⟩ := pb_some hf
    obtain ⟨_, _, t16⟩ := tgX10_more e15
    refine r_callv hW (pext e15) (run_V (b := x0) (As := [.long x3, .long x5, .long v8, .long v10, .long v12, .long v14]) (rest := []) C hW (metX10_more l G ρ e15) ⟨rfl, rfl⟩ kcX10_more (tq q_919 rfl) kiX10_more ksX10_more knX10_more kdX10_more t16 rfl rfl ⟨Nat.le_of_ble_eq_true rfl, Nat.le_of_ble_eq_true rfl⟩ hl.1 (Nat.le_of_ble_eq_true rfl) (room_of hW (pext e15) ((pext hf).tr hX)) dX10_multiplies_89 rfl) (fun H locs c1 s1 hW => ?_)
    refine lv_aload_n hx hb dX10_multiplies_92 rfl (lv_at hl 0 rfl) ?_
    obtain ⟨v17, e17, hf⟩ := pb_rd (rd_gJ _ _ _) hf
    refine r_gJ C hW e17 flX10_133 rfl dX10_multiplies_93 ?_
    refine lv_lstore_n (lv' := [(3, .long v17), (0, .ref (ρ x0)), (1, .int x1), (2, .int x2), (5, .long x5), (7, .int x7)]) hx hb dX10_multiplies_96 rfl hl (by decide) rfl (fun ls hl => ?_)
    refine lv_aload_n hx hb dX10_multiplies_97 rfl (lv_at hl 1 rfl) ?_
    obtain ⟨v18, e18, hf⟩ := pb_rd (rd_gJ _ _ _) hf
    refine r_gJ C hW e18 flX10_137 rfl dX10_multiplies_98 ?_
    refine lv_lstore (lv' := [(5, .long v18), (3, .long v17), (0, .ref (ρ x0)), (1, .int x1), (2, .int x2), (7, .int x7)]) hx hb dX10_multiplies_101 hl (by decide) rfl (fun ls hl => ?_)
    refine lv_iinc (v := (x7 + 1)) (lv' := [(7, .int (x7 + 1)), (5, .long v18), (3, .long v17), (0, .ref (ρ x0)), (1, .int x1), (2, .int x2)]) hx hb dX10_multiplies_103 hl (k := 5) rfl rfl (by decide) rfl (fun ls hl => ?_)
    refine lv_goto (tgt := 28) hx hb dX10_multiplies_106 (by decide) ?_
    obtain ⟨rfl, rfl⟩ := pp_some hf
    exact kc _ rfl _ _ _ _ _ hW (lv_sub hl [3, 4, 5, 2, 1, 0] rfl)
set_option maxHeartbeats 4000000 in
theorem wX10_multiplies_L28 {p : Program} {l : Launch} {e : Env} {s : State} {m : MethodId} {args : Array Value} {below : List Frame} {meth : Method} {c : Code} {G : GG} {ρ : Nat → Nat} {h0 hE hB : PH} {Q : State → Prop} {x0 : Nat} {x1 : Int32} {x2 : Int32} (C : Cx G "PairSymbolsModel" cX10_multiplies 8 none "multiplies" p s m args meth c) {z : (Int64 × Int64)} (n : Nat) : ∀ (x : Int64 × Int64 × Int32) {h : PH} {H : Heap} {locs : List Loc} {cells slots : Nat} {ls : Array Slot}, (plo (fX10_multiplies_B28 x0 x1 x2) n x).1 h = some (z, hB) → Ext hB hE → Wd G ρ h0.length (sl h0) s.heap h H locs cells slots → lv_has ls 8 [(0, .ref (ρ x0)), (1, .int x1), (2, .int x2), (3, .long x.1), (5, .long x.2.1), (7, .int x.2.2)] → (ke : ∀ (H : Heap) (locs : List Loc) (c1 s1 : Nat) (ls : Array Slot), Wd G ρ h0.length (sl h0) s.heap hB H locs c1 s1 → lv_has ls 8 [(0, .ref (ρ x0)), (1, .int x1), (2, .int x2), (3, .long z.1), (5, .long z.2)] → W p l e (RM 4 115 h0 hE) s m args below meth c H locs c1 s1 Q (F0 m 109 ls [])) → W p l e (RM 4 115 h0 hE) s m args below meth c H locs cells slots Q (F0 m 28 ls []) := by
  induction n with
  | zero =>
    intro x h H locs cells slots ls hf
    rw [plo_0] at hf
    exact (pf_no hf).elim
  | succ n ih =>
    intro x h H locs cells slots ls hf hX hW hl ke
    rw [plo_s] at hf
    obtain ⟨r, h1, e1, hf⟩ := pb_some hf
    unfold fX10_multiplies_B28 at e1
    rw [frJ_eq, frJ_eq, frI_eq] at e1
    refine wX10_multiplies_B28 C e1 ((pext hf).tr hX) hW hl (fun y hr H locs c1 s1 ls hW hl => ?_) (fun y hr H locs c1 s1 ls hW hl => ?_)
    · subst hr
      exact ih y hf hX hW hl ke
    · subst hr
      obtain ⟨rfl, rfl⟩ := pp_some hf
      exact ke H locs c1 s1 ls hW hl
set_option maxHeartbeats 4000000 in
set_option maxRecDepth 100000 in
theorem wX10_multiplies_B12 {p : Program} {l : Launch} {e : Env} {s : State} {m : MethodId} {args : Array Value} {below : List Frame} {meth : Method} {c : Code} {G : GG} {ρ : Nat → Nat} {h0 hE hB : PH} {Q : State → Prop} {x0 : Nat} {x1 : Int32} (C : Cx G "PairSymbolsModel" cX10_multiplies 8 none "multiplies" p s m args meth c) {x2 : Int32} {h : PH} {H : Heap} {locs : List Loc} {cells slots : Nat} {ls : Array Slot} {r : (Int32) ⊕ (Unit)} (hf : (fX10_multiplies_b12 x0 x1 x2).1 h = some (r, hB)) (hX : Ext hB hE) (hW : Wd G ρ h0.length (sl h0) s.heap h H locs cells slots) (hl : lv_has ls 8 [(0, .ref (ρ x0)), (1, .int x1), (2, .int x2)]) (kc : ∀ y : Int32, r = .inl y → ∀ (H : Heap) (locs : List Loc) (c1 s1 : Nat) (ls : Array Slot), Wd G ρ h0.length (sl h0) s.heap hB H locs c1 s1 → lv_has ls 8 [(0, .ref (ρ x0)), (1, .int x1), (2, .int y)] → W p l e (RM 4 115 h0 hE) s m args below meth c H locs c1 s1 Q (F0 m 12 ls [])) (ke : ∀ z : Unit, r = .inr z → ∀ (H : Heap) (locs : List Loc) (c1 s1 : Nat) (ls : Array Slot), Wd G ρ h0.length (sl h0) s.heap hB H locs c1 s1 → lv_has ls 8 [(0, .ref (ρ x0)), (1, .int x1)] → W p l e (RM 4 115 h0 hE) s m args below meth c H locs c1 s1 Q (F0 m 140 ls [])) : W p l e (RM 4 115 h0 hE) s m args below meth c H locs cells slots Q (F0 m 12 ls []) := by
  have hx := C.1
  have hb := C.2.1
  unfold fX10_multiplies_b12 at hf
  refine lv_iload_n hx hb dX10_multiplies_12 rfl (lv_at hl 2 rfl) ?_
  refine lv_aload_n hx hb dX10_multiplies_13 rfl (lv_at hl 0 rfl) ?_
  obtain ⟨v3, e3, hf⟩ := pb_rd (rd_gI _ _ _) hf
  refine r_gI C hW e3 flX10_293 rfl dX10_multiplies_14 ?_
  refine lv_icmp_ge (tgt := 140) hx hb dX10_multiplies_17 (by decide) (fun c4 => ?_) (fun c4 => ?_)
  · rw [if_pos c4] at hf
    obtain ⟨rfl, rfl⟩ := pp_some hf
    exact ke _ rfl _ _ _ _ _ hW (lv_sub hl [0, 1] rfl)
  · rw [if_neg c4] at hf
    refine lv_lconst (v := 0) hx hb dX10_multiplies_20 (by decide) ?_
    refine lv_lstore_n (lv' := [(3, .long (0 : Int64)), (0, .ref (ρ x0)), (1, .int x1), (2, .int x2)]) hx hb dX10_multiplies_21 rfl hl (by decide) rfl (fun ls hl => ?_)
    refine lv_lconst (v := 1) hx hb dX10_multiplies_22 (by decide) ?_
    refine lv_lstore (lv' := [(5, .long (1 : Int64)), (3, .long (0 : Int64)), (0, .ref (ρ x0)), (1, .int x1), (2, .int x2)]) hx hb dX10_multiplies_23 hl (by decide) rfl (fun ls hl => ?_)
    refine lv_iconst (v := 0) hx hb dX10_multiplies_25 (by decide) ?_
    refine lv_istore (lv' := [(7, .int (0 : Int32)), (5, .long (1 : Int64)), (3, .long (0 : Int64)), (0, .ref (ρ x0)), (1, .int x1), (2, .int x2)]) hx hb dX10_multiplies_26 hl (by decide) rfl (fun ls hl => ?_)
    obtain ⟨z19, h19, e19, hf⟩ := pb_some hf
    refine wX10_multiplies_L28 C fu _ e19 ((pext hf).tr hX) hW (lv_sub hl [3, 4, 5, 2, 1, 0] rfl) (fun H locs c1 s1 ls hW hl => ?_)
    refine lv_aload_n hx hb dX10_multiplies_109 rfl (lv_at hl 0 rfl) ?_
    obtain ⟨v20, e20, hf⟩ := pb_rd (rd_gA _ _ _) hf
    refine r_gA C hW e20 flX10_99 rfl dX10_multiplies_110 ?_
    refine lv_bipush (v := 16) hx hb dX10_multiplies_113 (by decide) ?_
    refine lv_iload_n hx hb dX10_multiplies_115 rfl (lv_at hl 1 rfl) ?_
    refine lv_imul hx hb dX10_multiplies_116 ?_
    refine lv_iload_n hx hb dX10_multiplies_117 rfl (lv_at hl 2 rfl) ?_
    refine lv_iadd hx hb dX10_multiplies_118 ?_
    refine lv_lload_n hx hb dX10_multiplies_119 rfl (lv_at hl 3 rfl) ?_
    obtain ⟨_, h21, e21, hf⟩ := pb_some hf
    refine r_last C hW e21 dX10_multiplies_120 (fun H locs hW => ?_)
    refine lv_aload_n hx hb dX10_multiplies_121 rfl (lv_at hl 0 rfl) ?_
    obtain ⟨v22, e22, hf⟩ := pb_rd (rd_gA _ _ _) hf
    refine r_gA C hW e22 flX10_102 rfl dX10_multiplies_122 ?_
    refine lv_bipush (v := 16) hx hb dX10_multiplies_125 (by decide) ?_
    refine lv_iload_n hx hb dX10_multiplies_127 rfl (lv_at hl 1 rfl) ?_
    refine lv_imul hx hb dX10_multiplies_128 ?_
    refine lv_iload_n hx hb dX10_multiplies_129 rfl (lv_at hl 2 rfl) ?_
    refine lv_iadd hx hb dX10_multiplies_130 ?_
    refine lv_lload hx hb dX10_multiplies_131 (lv_at hl 4 rfl) ?_
    obtain ⟨_, h23, e23, hf⟩ := pb_some hf
    refine r_last C hW e23 dX10_multiplies_133 (fun H locs hW => ?_)
    refine lv_iinc (v := (x2 + 1)) (lv' := [(2, .int (x2 + 1)), (0, .ref (ρ x0)), (1, .int x1), (3, .long z19.1), (5, .long z19.2)]) hx hb dX10_multiplies_134 hl (k := 2) rfl rfl (by decide) rfl (fun ls hl => ?_)
    refine lv_goto (tgt := 12) hx hb dX10_multiplies_137 (by decide) ?_
    obtain ⟨rfl, rfl⟩ := pp_some hf
    exact kc _ rfl _ _ _ _ _ hW (lv_sub hl [1, 2, 0] rfl)
set_option maxHeartbeats 4000000 in
theorem wX10_multiplies_L12 {p : Program} {l : Launch} {e : Env} {s : State} {m : MethodId} {args : Array Value} {below : List Frame} {meth : Method} {c : Code} {G : GG} {ρ : Nat → Nat} {h0 hE hB : PH} {Q : State → Prop} {x0 : Nat} {x1 : Int32} (C : Cx G "PairSymbolsModel" cX10_multiplies 8 none "multiplies" p s m args meth c) {z : (Unit)} (n : Nat) : ∀ (x : Int32) {h : PH} {H : Heap} {locs : List Loc} {cells slots : Nat} {ls : Array Slot}, (plo (fX10_multiplies_B12 x0 x1) n x).1 h = some (z, hB) → Ext hB hE → Wd G ρ h0.length (sl h0) s.heap h H locs cells slots → lv_has ls 8 [(0, .ref (ρ x0)), (1, .int x1), (2, .int x)] → (ke : ∀ (H : Heap) (locs : List Loc) (c1 s1 : Nat) (ls : Array Slot), Wd G ρ h0.length (sl h0) s.heap hB H locs c1 s1 → lv_has ls 8 [(0, .ref (ρ x0)), (1, .int x1)] → W p l e (RM 4 115 h0 hE) s m args below meth c H locs c1 s1 Q (F0 m 140 ls [])) → W p l e (RM 4 115 h0 hE) s m args below meth c H locs cells slots Q (F0 m 12 ls []) := by
  induction n with
  | zero =>
    intro x h H locs cells slots ls hf
    rw [plo_0] at hf
    exact (pf_no hf).elim
  | succ n ih =>
    intro x h H locs cells slots ls hf hX hW hl ke
    rw [plo_s] at hf
    obtain ⟨r, h1, e1, hf⟩ := pb_some hf
    unfold fX10_multiplies_B12 at e1
    rw [frI_eq] at e1
    refine wX10_multiplies_B12 C e1 ((pext hf).tr hX) hW hl (fun y hr H locs c1 s1 ls hW hl => ?_) (fun y hr H locs c1 s1 ls hW hl => ?_)
    · subst hr
      exact ih y hf hX hW hl ke
    · subst hr
      obtain ⟨rfl, rfl⟩ := pp_some hf
      exact ke H locs c1 s1 ls hW hl
set_option maxHeartbeats 4000000 in
set_option maxRecDepth 100000 in
theorem wX10_multiplies_B2 {p : Program} {l : Launch} {e : Env} {s : State} {m : MethodId} {args : Array Value} {below : List Frame} {meth : Method} {c : Code} {G : GG} {ρ : Nat → Nat} {h0 hE hB : PH} {Q : State → Prop} {x0 : Nat} (C : Cx G "PairSymbolsModel" cX10_multiplies 8 none "multiplies" p s m args meth c) {x1 : Int32} {h : PH} {H : Heap} {locs : List Loc} {cells slots : Nat} {ls : Array Slot} {r : (Int32) ⊕ (Unit)} (hf : (fX10_multiplies_b2 x0 x1).1 h = some (r, hB)) (hX : Ext hB hE) (hW : Wd G ρ h0.length (sl h0) s.heap h H locs cells slots) (hl : lv_has ls 8 [(0, .ref (ρ x0)), (1, .int x1)]) (kc : ∀ y : Int32, r = .inl y → ∀ (H : Heap) (locs : List Loc) (c1 s1 : Nat) (ls : Array Slot), Wd G ρ h0.length (sl h0) s.heap hB H locs c1 s1 → lv_has ls 8 [(0, .ref (ρ x0)), (1, .int y)] → W p l e (RM 4 115 h0 hE) s m args below meth c H locs c1 s1 Q (F0 m 2 ls [])) (ke : ∀ z : Unit, r = .inr z → ∀ (H : Heap) (locs : List Loc) (c1 s1 : Nat) (ls : Array Slot), Wd G ρ h0.length (sl h0) s.heap hB H locs c1 s1 → lv_has ls 8 [] → W p l e (RM 4 115 h0 hE) s m args below meth c H locs c1 s1 Q (F0 m 146 ls [])) : W p l e (RM 4 115 h0 hE) s m args below meth c H locs cells slots Q (F0 m 2 ls []) := by
  have hx := C.1
  have hb := C.2.1
  unfold fX10_multiplies_b2 at hf
  refine lv_iload_n hx hb dX10_multiplies_2 rfl (lv_at hl 1 rfl) ?_
  refine lv_aload_n hx hb dX10_multiplies_3 rfl (lv_at hl 0 rfl) ?_
  obtain ⟨v1, e1, hf⟩ := pb_rd (rd_gI _ _ _) hf
  refine r_gI C hW e1 flX10_293 rfl dX10_multiplies_4 ?_
  refine lv_icmp_ge (tgt := 146) hx hb dX10_multiplies_7 (by decide) (fun c2 => ?_) (fun c2 => ?_)
  · rw [if_pos c2] at hf
    obtain ⟨rfl, rfl⟩ := pp_some hf
    exact ke _ rfl _ _ _ _ _ hW (lv_sub hl [] rfl)
  · rw [if_neg c2] at hf
    refine lv_iconst (v := 0) hx hb dX10_multiplies_10 (by decide) ?_
    refine lv_istore_n (lv' := [(2, .int (0 : Int32)), (0, .ref (ρ x0)), (1, .int x1)]) hx hb dX10_multiplies_11 rfl hl (by decide) rfl (fun ls hl => ?_)
    obtain ⟨z24, h24, e24, hf⟩ := pb_some hf
    refine wX10_multiplies_L12 C fu _ e24 ((pext hf).tr hX) hW (lv_sub hl [1, 2, 0] rfl) (fun H locs c1 s1 ls hW hl => ?_)
    refine lv_iinc (v := (x1 + 1)) (lv' := [(1, .int (x1 + 1)), (0, .ref (ρ x0))]) hx hb dX10_multiplies_140 hl (k := 1) rfl rfl (by decide) rfl (fun ls hl => ?_)
    refine lv_goto (tgt := 2) hx hb dX10_multiplies_143 (by decide) ?_
    obtain ⟨rfl, rfl⟩ := pp_some hf
    exact kc _ rfl _ _ _ _ _ hW (lv_sub hl [1, 0] rfl)
set_option maxHeartbeats 4000000 in
theorem wX10_multiplies_L2 {p : Program} {l : Launch} {e : Env} {s : State} {m : MethodId} {args : Array Value} {below : List Frame} {meth : Method} {c : Code} {G : GG} {ρ : Nat → Nat} {h0 hE hB : PH} {Q : State → Prop} {x0 : Nat} (C : Cx G "PairSymbolsModel" cX10_multiplies 8 none "multiplies" p s m args meth c) {z : (Unit)} (n : Nat) : ∀ (x : Int32) {h : PH} {H : Heap} {locs : List Loc} {cells slots : Nat} {ls : Array Slot}, (plo (fX10_multiplies_B2 x0) n x).1 h = some (z, hB) → Ext hB hE → Wd G ρ h0.length (sl h0) s.heap h H locs cells slots → lv_has ls 8 [(0, .ref (ρ x0)), (1, .int x)] → (ke : ∀ (H : Heap) (locs : List Loc) (c1 s1 : Nat) (ls : Array Slot), Wd G ρ h0.length (sl h0) s.heap hB H locs c1 s1 → lv_has ls 8 [] → W p l e (RM 4 115 h0 hE) s m args below meth c H locs c1 s1 Q (F0 m 146 ls [])) → W p l e (RM 4 115 h0 hE) s m args below meth c H locs cells slots Q (F0 m 2 ls []) := by
  induction n with
  | zero =>
    intro x h H locs cells slots ls hf
    rw [plo_0] at hf
    exact (pf_no hf).elim
  | succ n ih =>
    intro x h H locs cells slots ls hf hX hW hl ke
    rw [plo_s] at hf
    obtain ⟨r, h1, e1, hf⟩ := pb_some hf
    unfold fX10_multiplies_B2 at e1
    rw [frI_eq] at e1
    refine wX10_multiplies_B2 C e1 ((pext hf).tr hX) hW hl (fun y hr H locs c1 s1 ls hW hl => ?_) (fun y hr H locs c1 s1 ls hW hl => ?_)
    · subst hr
      exact ih y hf hX hW hl ke
    · subst hr
      obtain ⟨rfl, rfl⟩ := pp_some hf
      exact ke H locs c1 s1 ls hW hl
set_option maxHeartbeats 4000000 in
set_option maxRecDepth 100000 in
theorem metX10_multiplies (l : Launch) (G : GG) (ρ : Nat → Nat) {z : Nat} {x0 : Nat} {h hE : PH} {v : Unit} (hf : (fX10_multiplies x0).1 h = some (v, hE)) : Met l yX10_multiplies (wsY yX10_multiplies cX10_multiplies 8 none) (RM 4 115 h hE) (va_Pc [.ref (ρ x0)] (PcB G ρ h z)) (QV G ρ hE h.length z) (DC h hE) (DS h hE) (Af ρ h.length z) := by
  refine met_start (by decide) (Nat.le_of_ble_eq_true rfl) ?_
  intro p e s m below meth c ls hz C hW hl
  subst hz
  have C : Cx G "PairSymbolsModel" cX10_multiplies 8 none "multiplies" p s m _ meth c := C
  have hx := C.1
  have hb := C.2.1
  have hX : Ext hE hE := Ext.rf hE
  have hl : lv_has ls 8 [(0, .ref (ρ x0))] := hl
  have hW : Wd G ρ h.length (sl h) s.heap h s.heap [] 0 0 := hW
  unfold fX10_multiplies at hf
  obtain ⟨_, e0, hf⟩ := pb_rd (rd_chk _ _) hf
  refine lv_iconst (v := 0) hx hb dX10_multiplies_0 (by decide) ?_
  refine lv_istore_n (lv' := [(1, .int (0 : Int32)), (0, .ref (ρ x0))]) hx hb dX10_multiplies_1 rfl hl (by decide) rfl (fun ls hl => ?_)
  obtain ⟨z25, h25, e25, hf⟩ := pb_some hf
  refine wX10_multiplies_L2 C fu _ e25 ((pext hf).tr hX) hW (lv_sub hl [1, 0] rfl) (fun H locs c1 s1 ls hW hl => ?_)
  obtain ⟨rfl, rfl⟩ := pp_some hf
  exact r_vret C hW dX10_multiplies_146

theorem dX10_laysPolynomial_0 : decode cX10_laysPolynomial 0 = .ok (.lconst 1, 1) := by decide +kernel
theorem dX10_laysPolynomial_1 : decode cX10_laysPolynomial 1 = .ok (.lstore_n 1, 1) := by decide +kernel
theorem dX10_laysPolynomial_2 : decode cX10_laysPolynomial 2 = .ok (.iconst 0, 1) := by decide +kernel
theorem dX10_laysPolynomial_3 : decode cX10_laysPolynomial 3 = .ok (.istore_n 3, 1) := by decide +kernel
theorem dX10_laysPolynomial_4 : decode cX10_laysPolynomial 4 = .ok (.iload_n 3, 1) := by decide +kernel
theorem dX10_laysPolynomial_5 : decode cX10_laysPolynomial 5 = .ok (.bipush 16, 2) := by decide +kernel
theorem dX10_laysPolynomial_7 : decode cX10_laysPolynomial 7 = .ok (.if_icmp .gt 16, 3) := by decide +kernel
theorem dX10_laysPolynomial_10 : decode cX10_laysPolynomial 10 = .ok (.aload_n 0, 1) := by decide +kernel
theorem dX10_laysPolynomial_11 : decode cX10_laysPolynomial 11 = .ok (.getfield 105, 3) := by decide +kernel
theorem dX10_laysPolynomial_14 : decode cX10_laysPolynomial 14 = .ok (.iload_n 3, 1) := by decide +kernel
theorem dX10_laysPolynomial_15 : decode cX10_laysPolynomial 15 = .ok (.lconst 0, 1) := by decide +kernel
theorem dX10_laysPolynomial_16 : decode cX10_laysPolynomial 16 = .ok (.lastore, 1) := by decide +kernel
theorem dX10_laysPolynomial_17 : decode cX10_laysPolynomial 17 = .ok (.iinc 3 1, 3) := by decide +kernel
theorem dX10_laysPolynomial_20 : decode cX10_laysPolynomial 20 = .ok (.goto (-16), 3) := by decide +kernel
theorem dX10_laysPolynomial_23 : decode cX10_laysPolynomial 23 = .ok (.aload_n 0, 1) := by decide +kernel
theorem dX10_laysPolynomial_24 : decode cX10_laysPolynomial 24 = .ok (.getfield 105, 3) := by decide +kernel
theorem dX10_laysPolynomial_27 : decode cX10_laysPolynomial 27 = .ok (.aload_n 0, 1) := by decide +kernel
theorem dX10_laysPolynomial_28 : decode cX10_laysPolynomial 28 = .ok (.getfield 293, 3) := by decide +kernel
theorem dX10_laysPolynomial_31 : decode cX10_laysPolynomial 31 = .ok (.lconst 1, 1) := by decide +kernel
theorem dX10_laysPolynomial_32 : decode cX10_laysPolynomial 32 = .ok (.lastore, 1) := by decide +kernel
theorem dX10_laysPolynomial_33 : decode cX10_laysPolynomial 33 = .ok (.iconst 0, 1) := by decide +kernel
theorem dX10_laysPolynomial_34 : decode cX10_laysPolynomial 34 = .ok (.istore_n 3, 1) := by decide +kernel
theorem dX10_laysPolynomial_35 : decode cX10_laysPolynomial 35 = .ok (.iload_n 3, 1) := by decide +kernel
theorem dX10_laysPolynomial_36 : decode cX10_laysPolynomial 36 = .ok (.sipush 256, 3) := by decide +kernel
theorem dX10_laysPolynomial_39 : decode cX10_laysPolynomial 39 = .ok (.if_icmp .ge 23, 3) := by decide +kernel
theorem dX10_laysPolynomial_42 : decode cX10_laysPolynomial 42 = .ok (.aload_n 0, 1) := by decide +kernel
theorem dX10_laysPolynomial_43 : decode cX10_laysPolynomial 43 = .ok (.getfield 99, 3) := by decide +kernel
theorem dX10_laysPolynomial_46 : decode cX10_laysPolynomial 46 = .ok (.iload_n 3, 1) := by decide +kernel
theorem dX10_laysPolynomial_47 : decode cX10_laysPolynomial 47 = .ok (.lconst 0, 1) := by decide +kernel
theorem dX10_laysPolynomial_48 : decode cX10_laysPolynomial 48 = .ok (.lastore, 1) := by decide +kernel
theorem dX10_laysPolynomial_49 : decode cX10_laysPolynomial 49 = .ok (.aload_n 0, 1) := by decide +kernel
theorem dX10_laysPolynomial_50 : decode cX10_laysPolynomial 50 = .ok (.getfield 102, 3) := by decide +kernel
theorem dX10_laysPolynomial_53 : decode cX10_laysPolynomial 53 = .ok (.iload_n 3, 1) := by decide +kernel
theorem dX10_laysPolynomial_54 : decode cX10_laysPolynomial 54 = .ok (.lconst 1, 1) := by decide +kernel
theorem dX10_laysPolynomial_55 : decode cX10_laysPolynomial 55 = .ok (.lastore, 1) := by decide +kernel
theorem dX10_laysPolynomial_56 : decode cX10_laysPolynomial 56 = .ok (.iinc 3 1, 3) := by decide +kernel
theorem dX10_laysPolynomial_59 : decode cX10_laysPolynomial 59 = .ok (.goto (-24), 3) := by decide +kernel
theorem dX10_laysPolynomial_62 : decode cX10_laysPolynomial 62 = .ok (.iconst 1, 1) := by decide +kernel
theorem dX10_laysPolynomial_63 : decode cX10_laysPolynomial 63 = .ok (.istore_n 3, 1) := by decide +kernel
theorem dX10_laysPolynomial_64 : decode cX10_laysPolynomial 64 = .ok (.iload_n 3, 1) := by decide +kernel
theorem dX10_laysPolynomial_65 : decode cX10_laysPolynomial 65 = .ok (.aload_n 0, 1) := by decide +kernel
theorem dX10_laysPolynomial_66 : decode cX10_laysPolynomial 66 = .ok (.getfield 293, 3) := by decide +kernel
theorem dX10_laysPolynomial_69 : decode cX10_laysPolynomial 69 = .ok (.if_icmp .gt 151, 3) := by decide +kernel
theorem dX10_laysPolynomial_72 : decode cX10_laysPolynomial 72 = .ok (.iconst 0, 1) := by decide +kernel
theorem dX10_laysPolynomial_73 : decode cX10_laysPolynomial 73 = .ok (.istore 4, 2) := by decide +kernel
theorem dX10_laysPolynomial_75 : decode cX10_laysPolynomial 75 = .ok (.iload 4, 2) := by decide +kernel
theorem dX10_laysPolynomial_77 : decode cX10_laysPolynomial 77 = .ok (.sipush 256, 3) := by decide +kernel
theorem dX10_laysPolynomial_80 : decode cX10_laysPolynomial 80 = .ok (.if_icmp .ge 37, 3) := by decide +kernel
theorem dX10_laysPolynomial_83 : decode cX10_laysPolynomial 83 = .ok (.aload_n 0, 1) := by decide +kernel
theorem dX10_laysPolynomial_84 : decode cX10_laysPolynomial 84 = .ok (.getfield 93, 3) := by decide +kernel
theorem dX10_laysPolynomial_87 : decode cX10_laysPolynomial 87 = .ok (.iload 4, 2) := by decide +kernel
theorem dX10_laysPolynomial_89 : decode cX10_laysPolynomial 89 = .ok (.aload_n 0, 1) := by decide +kernel
theorem dX10_laysPolynomial_90 : decode cX10_laysPolynomial 90 = .ok (.getfield 99, 3) := by decide +kernel
theorem dX10_laysPolynomial_93 : decode cX10_laysPolynomial 93 = .ok (.iload 4, 2) := by decide +kernel
theorem dX10_laysPolynomial_95 : decode cX10_laysPolynomial 95 = .ok (.laload, 1) := by decide +kernel
theorem dX10_laysPolynomial_96 : decode cX10_laysPolynomial 96 = .ok (.lastore, 1) := by decide +kernel
theorem dX10_laysPolynomial_97 : decode cX10_laysPolynomial 97 = .ok (.aload_n 0, 1) := by decide +kernel
theorem dX10_laysPolynomial_98 : decode cX10_laysPolynomial 98 = .ok (.getfield 96, 3) := by decide +kernel
theorem dX10_laysPolynomial_101 : decode cX10_laysPolynomial 101 = .ok (.iload 4, 2) := by decide +kernel
theorem dX10_laysPolynomial_103 : decode cX10_laysPolynomial 103 = .ok (.aload_n 0, 1) := by decide +kernel
theorem dX10_laysPolynomial_104 : decode cX10_laysPolynomial 104 = .ok (.getfield 102, 3) := by decide +kernel
theorem dX10_laysPolynomial_107 : decode cX10_laysPolynomial 107 = .ok (.iload 4, 2) := by decide +kernel
theorem dX10_laysPolynomial_109 : decode cX10_laysPolynomial 109 = .ok (.laload, 1) := by decide +kernel
theorem dX10_laysPolynomial_110 : decode cX10_laysPolynomial 110 = .ok (.lastore, 1) := by decide +kernel
theorem dX10_laysPolynomial_111 : decode cX10_laysPolynomial 111 = .ok (.iinc 4 1, 3) := by decide +kernel
theorem dX10_laysPolynomial_114 : decode cX10_laysPolynomial 114 = .ok (.goto (-39), 3) := by decide +kernel
theorem dX10_laysPolynomial_117 : decode cX10_laysPolynomial 117 = .ok (.iconst 0, 1) := by decide +kernel
theorem dX10_laysPolynomial_118 : decode cX10_laysPolynomial 118 = .ok (.istore 4, 2) := by decide +kernel
theorem dX10_laysPolynomial_120 : decode cX10_laysPolynomial 120 = .ok (.iload 4, 2) := by decide +kernel
theorem dX10_laysPolynomial_122 : decode cX10_laysPolynomial 122 = .ok (.aload_n 0, 1) := by decide +kernel
theorem dX10_laysPolynomial_123 : decode cX10_laysPolynomial 123 = .ok (.getfield 293, 3) := by decide +kernel
theorem dX10_laysPolynomial_126 : decode cX10_laysPolynomial 126 = .ok (.if_icmp .ge 63, 3) := by decide +kernel
theorem dX10_laysPolynomial_129 : decode cX10_laysPolynomial 129 = .ok (.aload_n 0, 1) := by decide +kernel
theorem dX10_laysPolynomial_130 : decode cX10_laysPolynomial 130 = .ok (.aload_n 0, 1) := by decide +kernel
theorem dX10_laysPolynomial_131 : decode cX10_laysPolynomial 131 = .ok (.getfield 93, 3) := by decide +kernel
theorem dX10_laysPolynomial_134 : decode cX10_laysPolynomial 134 = .ok (.bipush 17, 2) := by decide +kernel
theorem dX10_laysPolynomial_136 : decode cX10_laysPolynomial 136 = .ok (.iload 4, 2) := by decide +kernel
theorem dX10_laysPolynomial_138 : decode cX10_laysPolynomial 138 = .ok (.imul, 1) := by decide +kernel
theorem dX10_laysPolynomial_139 : decode cX10_laysPolynomial 139 = .ok (.laload, 1) := by decide +kernel
theorem dX10_laysPolynomial_140 : decode cX10_laysPolynomial 140 = .ok (.aload_n 0, 1) := by decide +kernel
theorem dX10_laysPolynomial_141 : decode cX10_laysPolynomial 141 = .ok (.getfield 96, 3) := by decide +kernel
theorem dX10_laysPolynomial_144 : decode cX10_laysPolynomial 144 = .ok (.bipush 17, 2) := by decide +kernel
theorem dX10_laysPolynomial_146 : decode cX10_laysPolynomial 146 = .ok (.iload 4, 2) := by decide +kernel
theorem dX10_laysPolynomial_148 : decode cX10_laysPolynomial 148 = .ok (.imul, 1) := by decide +kernel
theorem dX10_laysPolynomial_149 : decode cX10_laysPolynomial 149 = .ok (.laload, 1) := by decide +kernel
theorem dX10_laysPolynomial_150 : decode cX10_laysPolynomial 150 = .ok (.lload_n 1, 1) := by decide +kernel
theorem dX10_laysPolynomial_151 : decode cX10_laysPolynomial 151 = .ok (.lconst 1, 1) := by decide +kernel
theorem dX10_laysPolynomial_152 : decode cX10_laysPolynomial 152 = .ok (.invokevirtual 144, 3) := by decide +kernel
theorem dX10_laysPolynomial_155 : decode cX10_laysPolynomial 155 = .ok (.aload_n 0, 1) := by decide +kernel
theorem dX10_laysPolynomial_156 : decode cX10_laysPolynomial 156 = .ok (.getfield 93, 3) := by decide +kernel
theorem dX10_laysPolynomial_159 : decode cX10_laysPolynomial 159 = .ok (.bipush 17, 2) := by decide +kernel
theorem dX10_laysPolynomial_161 : decode cX10_laysPolynomial 161 = .ok (.iload 4, 2) := by decide +kernel
theorem dX10_laysPolynomial_163 : decode cX10_laysPolynomial 163 = .ok (.imul, 1) := by decide +kernel
theorem dX10_laysPolynomial_164 : decode cX10_laysPolynomial 164 = .ok (.aload_n 0, 1) := by decide +kernel
theorem dX10_laysPolynomial_165 : decode cX10_laysPolynomial 165 = .ok (.getfield 133, 3) := by decide +kernel
theorem dX10_laysPolynomial_168 : decode cX10_laysPolynomial 168 = .ok (.lastore, 1) := by decide +kernel
theorem dX10_laysPolynomial_169 : decode cX10_laysPolynomial 169 = .ok (.aload_n 0, 1) := by decide +kernel
theorem dX10_laysPolynomial_170 : decode cX10_laysPolynomial 170 = .ok (.getfield 96, 3) := by decide +kernel
theorem dX10_laysPolynomial_173 : decode cX10_laysPolynomial 173 = .ok (.bipush 17, 2) := by decide +kernel
theorem dX10_laysPolynomial_175 : decode cX10_laysPolynomial 175 = .ok (.iload 4, 2) := by decide +kernel
theorem dX10_laysPolynomial_177 : decode cX10_laysPolynomial 177 = .ok (.imul, 1) := by decide +kernel
theorem dX10_laysPolynomial_178 : decode cX10_laysPolynomial 178 = .ok (.aload_n 0, 1) := by decide +kernel
theorem dX10_laysPolynomial_179 : decode cX10_laysPolynomial 179 = .ok (.getfield 137, 3) := by decide +kernel
theorem dX10_laysPolynomial_182 : decode cX10_laysPolynomial 182 = .ok (.lastore, 1) := by decide +kernel
theorem dX10_laysPolynomial_183 : decode cX10_laysPolynomial 183 = .ok (.iinc 4 1, 3) := by decide +kernel
theorem dX10_laysPolynomial_186 : decode cX10_laysPolynomial 186 = .ok (.goto (-66), 3) := by decide +kernel
theorem dX10_laysPolynomial_189 : decode cX10_laysPolynomial 189 = .ok (.aload_n 0, 1) := by decide +kernel
theorem dX10_laysPolynomial_190 : decode cX10_laysPolynomial 190 = .ok (.invokevirtual 299, 3) := by decide +kernel
theorem dX10_laysPolynomial_193 : decode cX10_laysPolynomial 193 = .ok (.aload_n 0, 1) := by decide +kernel
theorem dX10_laysPolynomial_194 : decode cX10_laysPolynomial 194 = .ok (.invokevirtual 302, 3) := by decide +kernel
theorem dX10_laysPolynomial_197 : decode cX10_laysPolynomial 197 = .ok (.lneg, 1) := by decide +kernel
theorem dX10_laysPolynomial_198 : decode cX10_laysPolynomial 198 = .ok (.iload_n 3, 1) := by decide +kernel
theorem dX10_laysPolynomial_199 : decode cX10_laysPolynomial 199 = .ok (.i2l, 1) := by decide +kernel
theorem dX10_laysPolynomial_200 : decode cX10_laysPolynomial 200 = .ok (.ldiv, 1) := by decide +kernel
theorem dX10_laysPolynomial_201 : decode cX10_laysPolynomial 201 = .ok (.lstore_n 1, 1) := by decide +kernel
theorem dX10_laysPolynomial_202 : decode cX10_laysPolynomial 202 = .ok (.aload_n 0, 1) := by decide +kernel
theorem dX10_laysPolynomial_203 : decode cX10_laysPolynomial 203 = .ok (.getfield 105, 3) := by decide +kernel
theorem dX10_laysPolynomial_206 : decode cX10_laysPolynomial 206 = .ok (.aload_n 0, 1) := by decide +kernel
theorem dX10_laysPolynomial_207 : decode cX10_laysPolynomial 207 = .ok (.getfield 293, 3) := by decide +kernel
theorem dX10_laysPolynomial_210 : decode cX10_laysPolynomial 210 = .ok (.iload_n 3, 1) := by decide +kernel
theorem dX10_laysPolynomial_211 : decode cX10_laysPolynomial 211 = .ok (.isub, 1) := by decide +kernel
theorem dX10_laysPolynomial_212 : decode cX10_laysPolynomial 212 = .ok (.lload_n 1, 1) := by decide +kernel
theorem dX10_laysPolynomial_213 : decode cX10_laysPolynomial 213 = .ok (.lastore, 1) := by decide +kernel
theorem dX10_laysPolynomial_214 : decode cX10_laysPolynomial 214 = .ok (.iinc 3 1, 3) := by decide +kernel
theorem dX10_laysPolynomial_217 : decode cX10_laysPolynomial 217 = .ok (.goto (-153), 3) := by decide +kernel
theorem dX10_laysPolynomial_220 : decode cX10_laysPolynomial 220 = .ok (.return_, 1) := by decide +kernel
theorem kcX10_laysPolynomial : Cond.code yX10_laysPolynomial cX10_laysPolynomial 5 none ∈ tb := tq q_1046 rfl
theorem knX10_laysPolynomial : Cond.initialized yX10_laysPolynomial.cls ∈ tb := (tq q_10 rfl)
theorem kdX10_laysPolynomial : yX10_laysPolynomial.cls ≠ "java/lang/invoke/MethodHandle" ∧ yX10_laysPolynomial.cls ≠ "java/lang/invoke/VarHandle" ∧ (parseMethodDescriptor yX10_laysPolynomial.desc).map (fun d => d.parameters.length) = some 0 := ⟨by decide +kernel, by decide +kernel, by decide +kernel⟩
theorem kiX10_laysPolynomial : Cond.instanceMethod yX10_laysPolynomial ∈ tb := (tq q_1045 rfl)
theorem ksX10_laysPolynomial : Cond.selects yX10_laysPolynomial.cls yX10_laysPolynomial yX10_laysPolynomial ∈ tb := (tq z_65 rfl)
theorem tgX10_laysPolynomial {x0 : Nat} {h : PH} {r : Unit × PH} (hf : (fX10_laysPolynomial x0).1 h = some r) : ∃ n x, nth h x0 = some (9, n, x) := by
  obtain ⟨_, _, e, _⟩ := pb_some hf
  exact (chk_some e).2
set_option maxHeartbeats 4000000 in
set_option maxRecDepth 100000 in
theorem wX10_laysPolynomial_B4 {p : Program} {l : Launch} {e : Env} {s : State} {m : MethodId} {args : Array Value} {below : List Frame} {meth : Method} {c : Code} {G : GG} {ρ : Nat → Nat} {h0 hE hB : PH} {Q : State → Prop} {x0 : Nat} {x1 : Int64} (C : Cx G "PairSymbolsModel" cX10_laysPolynomial 5 none "laysPolynomial" p s m args meth c) {x3 : Int32} {h : PH} {H : Heap} {locs : List Loc} {cells slots : Nat} {ls : Array Slot} {r : (Int32) ⊕ (Unit)} (hf : (fX10_laysPolynomial_b4 x0 x1 x3).1 h = some (r, hB)) (hX : Ext hB hE) (hW : Wd G ρ h0.length (sl h0) s.heap h H locs cells slots) (hl : lv_has ls 5 [(0, .ref (ρ x0)), (1, .long x1), (3, .int x3)]) (kc : ∀ y : Int32, r = .inl y → ∀ (H : Heap) (locs : List Loc) (c1 s1 : Nat) (ls : Array Slot), Wd G ρ h0.length (sl h0) s.heap hB H locs c1 s1 → lv_has ls 5 [(0, .ref (ρ x0)), (1, .long x1), (3, .int y)] → W p l e (RM 5 142 h0 hE) s m args below meth c H locs c1 s1 Q (F0 m 4 ls [])) (ke : ∀ z : Unit, r = .inr z → ∀ (H : Heap) (locs : List Loc) (c1 s1 : Nat) (ls : Array Slot), Wd G ρ h0.length (sl h0) s.heap hB H locs c1 s1 → lv_has ls 5 [(0, .ref (ρ x0)), (1, .long x1)] → W p l e (RM 5 142 h0 hE) s m args below meth c H locs c1 s1 Q (F0 m 23 ls [])) : W p l e (RM 5 142 h0 hE) s m args below meth c H locs cells slots Q (F0 m 4 ls []) := by
  have hx := C.1
  have hb := C.2.1
  unfold fX10_laysPolynomial_b4 at hf
  refine lv_iload_n hx hb dX10_laysPolynomial_4 rfl (lv_at hl 2 rfl) ?_
  refine lv_bipush (v := 16) hx hb dX10_laysPolynomial_5 (by decide) ?_
  refine lv_icmp_gt (tgt := 23) hx hb dX10_laysPolynomial_7 (by decide) (fun c1 => ?_) (fun c1 => ?_)
  · rw [if_pos c1] at hf
    obtain ⟨rfl, rfl⟩ := pp_some hf
    exact ke _ rfl _ _ _ _ _ hW (lv_sub hl [0, 1] rfl)
  · rw [if_neg c1] at hf
    refine lv_aload_n hx hb dX10_laysPolynomial_10 rfl (lv_at hl 0 rfl) ?_
    obtain ⟨v2, e2, hf⟩ := pb_rd (rd_gA _ _ _) hf
    refine r_gA C hW e2 flX10_105 rfl dX10_laysPolynomial_11 ?_
    refine lv_iload_n hx hb dX10_laysPolynomial_14 rfl (lv_at hl 2 rfl) ?_
    refine lv_lconst (v := 0) hx hb dX10_laysPolynomial_15 (by decide) ?_
    obtain ⟨_, h3, e3, hf⟩ := pb_some hf
    refine r_last C hW e3 dX10_laysPolynomial_16 (fun H locs hW => ?_)
    refine lv_iinc (v := (x3 + 1)) (lv' := [(3, .int (x3 + 1)), (0, .ref (ρ x0)), (1, .long x1)]) hx hb dX10_laysPolynomial_17 hl (k := 2) rfl rfl (by decide) rfl (fun ls hl => ?_)
    refine lv_goto (tgt := 4) hx hb dX10_laysPolynomial_20 (by decide) ?_
    obtain ⟨rfl, rfl⟩ := pp_some hf
    exact kc _ rfl _ _ _ _ _ hW (lv_sub hl [1, 2, 0] rfl)
set_option maxHeartbeats 4000000 in
theorem wX10_laysPolynomial_L4 {p : Program} {l : Launch} {e : Env} {s : State} {m : MethodId} {args : Array Value} {below : List Frame} {meth : Method} {c : Code} {G : GG} {ρ : Nat → Nat} {h0 hE hB : PH} {Q : State → Prop} {x0 : Nat} {x1 : Int64} (C : Cx G "PairSymbolsModel" cX10_laysPolynomial 5 none "laysPolynomial" p s m args meth c) {z : (Unit)} (n : Nat) : ∀ (x : Int32) {h : PH} {H : Heap} {locs : List Loc} {cells slots : Nat} {ls : Array Slot}, (plo (fX10_laysPolynomial_B4 x0 x1) n x).1 h = some (z, hB) → Ext hB hE → Wd G ρ h0.length (sl h0) s.heap h H locs cells slots → lv_has ls 5 [(0, .ref (ρ x0)), (1, .long x1), (3, .int x)] → (ke : ∀ (H : Heap) (locs : List Loc) (c1 s1 : Nat) (ls : Array Slot), Wd G ρ h0.length (sl h0) s.heap hB H locs c1 s1 → lv_has ls 5 [(0, .ref (ρ x0)), (1, .long x1)] → W p l e (RM 5 142 h0 hE) s m args below meth c H locs c1 s1 Q (F0 m 23 ls [])) → W p l e (RM 5 142 h0 hE) s m args below meth c H locs cells slots Q (F0 m 4 ls []) := by
  induction n with
  | zero =>
    intro x h H locs cells slots ls hf
    rw [plo_0] at hf
    exact (pf_no hf).elim
  | succ n ih =>
    intro x h H locs cells slots ls hf hX hW hl ke
    rw [plo_s] at hf
    obtain ⟨r, h1, e1, hf⟩ := pb_some hf
    unfold fX10_laysPolynomial_B4 at e1
    rw [frI_eq] at e1
    refine wX10_laysPolynomial_B4 C e1 ((pext hf).tr hX) hW hl (fun y hr H locs c1 s1 ls hW hl => ?_) (fun y hr H locs c1 s1 ls hW hl => ?_)
    · subst hr
      exact ih y hf hX hW hl ke
    · subst hr
      obtain ⟨rfl, rfl⟩ := pp_some hf
      exact ke H locs c1 s1 ls hW hl
set_option maxHeartbeats 4000000 in
set_option maxRecDepth 100000 in
theorem wX10_laysPolynomial_B35 {p : Program} {l : Launch} {e : Env} {s : State} {m : MethodId} {args : Array Value} {below : List Frame} {meth : Method} {c : Code} {G : GG} {ρ : Nat → Nat} {h0 hE hB : PH} {Q : State → Prop} {x0 : Nat} {x1 : Int64} (C : Cx G "PairSymbolsModel" cX10_laysPolynomial 5 none "laysPolynomial" p s m args meth c) {x3 : Int32} {h : PH} {H : Heap} {locs : List Loc} {cells slots : Nat} {ls : Array Slot} {r : (Int32) ⊕ (Unit)} (hf : (fX10_laysPolynomial_b35 x0 x1 x3).1 h = some (r, hB)) (hX : Ext hB hE) (hW : Wd G ρ h0.length (sl h0) s.heap h H locs cells slots) (hl : lv_has ls 5 [(0, .ref (ρ x0)), (1, .long x1), (3, .int x3)]) (kc : ∀ y : Int32, r = .inl y → ∀ (H : Heap) (locs : List Loc) (c1 s1 : Nat) (ls : Array Slot), Wd G ρ h0.length (sl h0) s.heap hB H locs c1 s1 → lv_has ls 5 [(0, .ref (ρ x0)), (1, .long x1), (3, .int y)] → W p l e (RM 5 142 h0 hE) s m args below meth c H locs c1 s1 Q (F0 m 35 ls [])) (ke : ∀ z : Unit, r = .inr z → ∀ (H : Heap) (locs : List Loc) (c1 s1 : Nat) (ls : Array Slot), Wd G ρ h0.length (sl h0) s.heap hB H locs c1 s1 → lv_has ls 5 [(0, .ref (ρ x0)), (1, .long x1)] → W p l e (RM 5 142 h0 hE) s m args below meth c H locs c1 s1 Q (F0 m 62 ls [])) : W p l e (RM 5 142 h0 hE) s m args below meth c H locs cells slots Q (F0 m 35 ls []) := by
  have hx := C.1
  have hb := C.2.1
  unfold fX10_laysPolynomial_b35 at hf
  refine lv_iload_n hx hb dX10_laysPolynomial_35 rfl (lv_at hl 2 rfl) ?_
  refine lv_sipush (v := 256) hx hb dX10_laysPolynomial_36 (by decide) ?_
  refine lv_icmp_ge (tgt := 62) hx hb dX10_laysPolynomial_39 (by decide) (fun c8 => ?_) (fun c8 => ?_)
  · rw [if_pos c8] at hf
    obtain ⟨rfl, rfl⟩ := pp_some hf
    exact ke _ rfl _ _ _ _ _ hW (lv_sub hl [0, 1] rfl)
  · rw [if_neg c8] at hf
    refine lv_aload_n hx hb dX10_laysPolynomial_42 rfl (lv_at hl 0 rfl) ?_
    obtain ⟨v9, e9, hf⟩ := pb_rd (rd_gA _ _ _) hf
    refine r_gA C hW e9 flX10_99 rfl dX10_laysPolynomial_43 ?_
    refine lv_iload_n hx hb dX10_laysPolynomial_46 rfl (lv_at hl 2 rfl) ?_
    refine lv_lconst (v := 0) hx hb dX10_laysPolynomial_47 (by decide) ?_
    obtain ⟨_, h10, e10, hf⟩ := pb_some hf
    refine r_last C hW e10 dX10_laysPolynomial_48 (fun H locs hW => ?_)
    refine lv_aload_n hx hb dX10_laysPolynomial_49 rfl (lv_at hl 0 rfl) ?_
    obtain ⟨v11, e11, hf⟩ := pb_rd (rd_gA _ _ _) hf
    refine r_gA C hW e11 flX10_102 rfl dX10_laysPolynomial_50 ?_
    refine lv_iload_n hx hb dX10_laysPolynomial_53 rfl (lv_at hl 2 rfl) ?_
    refine lv_lconst (v := 1) hx hb dX10_laysPolynomial_54 (by decide) ?_
    obtain ⟨_, h12, e12, hf⟩ := pb_some hf
    refine r_last C hW e12 dX10_laysPolynomial_55 (fun H locs hW => ?_)
    refine lv_iinc (v := (x3 + 1)) (lv' := [(3, .int (x3 + 1)), (0, .ref (ρ x0)), (1, .long x1)]) hx hb dX10_laysPolynomial_56 hl (k := 2) rfl rfl (by decide) rfl (fun ls hl => ?_)
    refine lv_goto (tgt := 35) hx hb dX10_laysPolynomial_59 (by decide) ?_
    obtain ⟨rfl, rfl⟩ := pp_some hf
    exact kc _ rfl _ _ _ _ _ hW (lv_sub hl [1, 2, 0] rfl)
set_option maxHeartbeats 4000000 in
theorem wX10_laysPolynomial_L35 {p : Program} {l : Launch} {e : Env} {s : State} {m : MethodId} {args : Array Value} {below : List Frame} {meth : Method} {c : Code} {G : GG} {ρ : Nat → Nat} {h0 hE hB : PH} {Q : State → Prop} {x0 : Nat} {x1 : Int64} (C : Cx G "PairSymbolsModel" cX10_laysPolynomial 5 none "laysPolynomial" p s m args meth c) {z : (Unit)} (n : Nat) : ∀ (x : Int32) {h : PH} {H : Heap} {locs : List Loc} {cells slots : Nat} {ls : Array Slot}, (plo (fX10_laysPolynomial_B35 x0 x1) n x).1 h = some (z, hB) → Ext hB hE → Wd G ρ h0.length (sl h0) s.heap h H locs cells slots → lv_has ls 5 [(0, .ref (ρ x0)), (1, .long x1), (3, .int x)] → (ke : ∀ (H : Heap) (locs : List Loc) (c1 s1 : Nat) (ls : Array Slot), Wd G ρ h0.length (sl h0) s.heap hB H locs c1 s1 → lv_has ls 5 [(0, .ref (ρ x0)), (1, .long x1)] → W p l e (RM 5 142 h0 hE) s m args below meth c H locs c1 s1 Q (F0 m 62 ls [])) → W p l e (RM 5 142 h0 hE) s m args below meth c H locs cells slots Q (F0 m 35 ls []) := by
  induction n with
  | zero =>
    intro x h H locs cells slots ls hf
    rw [plo_0] at hf
    exact (pf_no hf).elim
  | succ n ih =>
    intro x h H locs cells slots ls hf hX hW hl ke
    rw [plo_s] at hf
    obtain ⟨r, h1, e1, hf⟩ := pb_some hf
    unfold fX10_laysPolynomial_B35 at e1
    rw [frI_eq] at e1
    refine wX10_laysPolynomial_B35 C e1 ((pext hf).tr hX) hW hl (fun y hr H locs c1 s1 ls hW hl => ?_) (fun y hr H locs c1 s1 ls hW hl => ?_)
    · subst hr
      exact ih y hf hX hW hl ke
    · subst hr
      obtain ⟨rfl, rfl⟩ := pp_some hf
      exact ke H locs c1 s1 ls hW hl
set_option maxHeartbeats 4000000 in
set_option maxRecDepth 100000 in
theorem wX10_laysPolynomial_B75 {p : Program} {l : Launch} {e : Env} {s : State} {m : MethodId} {args : Array Value} {below : List Frame} {meth : Method} {c : Code} {G : GG} {ρ : Nat → Nat} {h0 hE hB : PH} {Q : State → Prop} {x0 : Nat} {x1 : Int64} {x3 : Int32} (C : Cx G "PairSymbolsModel" cX10_laysPolynomial 5 none "laysPolynomial" p s m args meth c) {x4 : Int32} {h : PH} {H : Heap} {locs : List Loc} {cells slots : Nat} {ls : Array Slot} {r : (Int32) ⊕ (Unit)} (hf : (fX10_laysPolynomial_b75 x0 x1 x3 x4).1 h = some (r, hB)) (hX : Ext hB hE) (hW : Wd G ρ h0.length (sl h0) s.heap h H locs cells slots) (hl : lv_has ls 5 [(0, .ref (ρ x0)), (1, .long x1), (3, .int x3), (4, .int x4)]) (kc : ∀ y : Int32, r = .inl y → ∀ (H : Heap) (locs : List Loc) (c1 s1 : Nat) (ls : Array Slot), Wd G ρ h0.length (sl h0) s.heap hB H locs c1 s1 → lv_has ls 5 [(0, .ref (ρ x0)), (1, .long x1), (3, .int x3), (4, .int y)] → W p l e (RM 5 142 h0 hE) s m args below meth c H locs c1 s1 Q (F0 m 75 ls [])) (ke : ∀ z : Unit, r = .inr z → ∀ (H : Heap) (locs : List Loc) (c1 s1 : Nat) (ls : Array Slot), Wd G ρ h0.length (sl h0) s.heap hB H locs c1 s1 → lv_has ls 5 [(0, .ref (ρ x0)), (1, .long x1), (3, .int x3)] → W p l e (RM 5 142 h0 hE) s m args below meth c H locs c1 s1 Q (F0 m 117 ls [])) : W p l e (RM 5 142 h0 hE) s m args below meth c H locs cells slots Q (F0 m 75 ls []) := by
  have hx := C.1
  have hb := C.2.1
  unfold fX10_laysPolynomial_b75 at hf
  refine lv_iload hx hb dX10_laysPolynomial_75 (lv_at hl 3 rfl) ?_
  refine lv_sipush (v := 256) hx hb dX10_laysPolynomial_77 (by decide) ?_
  refine lv_icmp_ge (tgt := 117) hx hb dX10_laysPolynomial_80 (by decide) (fun c16 => ?_) (fun c16 => ?_)
  · rw [if_pos c16] at hf
    obtain ⟨rfl, rfl⟩ := pp_some hf
    exact ke _ rfl _ _ _ _ _ hW (lv_sub hl [0, 1, 2] rfl)
  · rw [if_neg c16] at hf
    refine lv_aload_n hx hb dX10_laysPolynomial_83 rfl (lv_at hl 0 rfl) ?_
    obtain ⟨v17, e17, hf⟩ := pb_rd (rd_gA _ _ _) hf
    refine r_gA C hW e17 flX10_93 rfl dX10_laysPolynomial_84 ?_
    refine lv_iload hx hb dX10_laysPolynomial_87 (lv_at hl 3 rfl) ?_
    refine lv_aload_n hx hb dX10_laysPolynomial_89 rfl (lv_at hl 0 rfl) ?_
    obtain ⟨v18, e18, hf⟩ := pb_rd (rd_gA _ _ _) hf
    refine r_gA C hW e18 flX10_99 rfl dX10_laysPolynomial_90 ?_
    refine lv_iload hx hb dX10_laysPolynomial_93 (lv_at hl 3 rfl) ?_
    obtain ⟨v19, e19, hf⟩ := pb_rd (rd_lJ _ _ _) hf
    refine r_lald C hW e19 dX10_laysPolynomial_95 ?_
    obtain ⟨_, h20, e20, hf⟩ := pb_some hf
    refine r_last C hW e20 dX10_laysPolynomial_96 (fun H locs hW => ?_)
    refine lv_aload_n hx hb dX10_laysPolynomial_97 rfl (lv_at hl 0 rfl) ?_
    obtain ⟨v21, e21, hf⟩ := pb_rd (rd_gA _ _ _) hf
    refine r_gA C hW e21 flX10_96 rfl dX10_laysPolynomial_98 ?_
    refine lv_iload hx hb dX10_laysPolynomial_101 (lv_at hl 3 rfl) ?_
    refine lv_aload_n hx hb dX10_laysPolynomial_103 rfl (lv_at hl 0 rfl) ?_
    obtain ⟨v22, e22, hf⟩ := pb_rd (rd_gA _ _ _) hf
    refine r_gA C hW e22 flX10_102 rfl dX10_laysPolynomial_104 ?_
    refine lv_iload hx hb dX10_laysPolynomial_107 (lv_at hl 3 rfl) ?_
    obtain ⟨v23, e23, hf⟩ := pb_rd (rd_lJ _ _ _) hf
    refine r_lald C hW e23 dX10_laysPolynomial_109 ?_
    obtain ⟨_, h24, e24, hf⟩ := pb_some hf
    refine r_last C hW e24 dX10_laysPolynomial_110 (fun H locs hW => ?_)
    refine lv_iinc (v := (x4 + 1)) (lv' := [(4, .int (x4 + 1)), (0, .ref (ρ x0)), (1, .long x1), (3, .int x3)]) hx hb dX10_laysPolynomial_111 hl (k := 3) rfl rfl (by decide) rfl (fun ls hl => ?_)
    refine lv_goto (tgt := 75) hx hb dX10_laysPolynomial_114 (by decide) ?_
    obtain ⟨rfl, rfl⟩ := pp_some hf
    exact kc _ rfl _ _ _ _ _ hW (lv_sub hl [1, 2, 3, 0] rfl)
set_option maxHeartbeats 4000000 in
theorem wX10_laysPolynomial_L75 {p : Program} {l : Launch} {e : Env} {s : State} {m : MethodId} {args : Array Value} {below : List Frame} {meth : Method} {c : Code} {G : GG} {ρ : Nat → Nat} {h0 hE hB : PH} {Q : State → Prop} {x0 : Nat} {x1 : Int64} {x3 : Int32} (C : Cx G "PairSymbolsModel" cX10_laysPolynomial 5 none "laysPolynomial" p s m args meth c) {z : (Unit)} (n : Nat) : ∀ (x : Int32) {h : PH} {H : Heap} {locs : List Loc} {cells slots : Nat} {ls : Array Slot}, (plo (fX10_laysPolynomial_B75 x0 x1 x3) n x).1 h = some (z, hB) → Ext hB hE → Wd G ρ h0.length (sl h0) s.heap h H locs cells slots → lv_has ls 5 [(0, .ref (ρ x0)), (1, .long x1), (3, .int x3), (4, .int x)] → (ke : ∀ (H : Heap) (locs : List Loc) (c1 s1 : Nat) (ls : Array Slot), Wd G ρ h0.length (sl h0) s.heap hB H locs c1 s1 → lv_has ls 5 [(0, .ref (ρ x0)), (1, .long x1), (3, .int x3)] → W p l e (RM 5 142 h0 hE) s m args below meth c H locs c1 s1 Q (F0 m 117 ls [])) → W p l e (RM 5 142 h0 hE) s m args below meth c H locs cells slots Q (F0 m 75 ls []) := by
  induction n with
  | zero =>
    intro x h H locs cells slots ls hf
    rw [plo_0] at hf
    exact (pf_no hf).elim
  | succ n ih =>
    intro x h H locs cells slots ls hf hX hW hl ke
    rw [plo_s] at hf
    obtain ⟨r, h1, e1, hf⟩ := pb_some hf
    unfold fX10_laysPolynomial_B75 at e1
    rw [frI_eq] at e1
    refine wX10_laysPolynomial_B75 C e1 ((pext hf).tr hX) hW hl (fun y hr H locs c1 s1 ls hW hl => ?_) (fun y hr H locs c1 s1 ls hW hl => ?_)
    · subst hr
      exact ih y hf hX hW hl ke
    · subst hr
      obtain ⟨rfl, rfl⟩ := pp_some hf
      exact ke H locs c1 s1 ls hW hl
set_option maxHeartbeats 4000000 in
set_option maxRecDepth 100000 in
theorem wX10_laysPolynomial_B120 {p : Program} {l : Launch} {e : Env} {s : State} {m : MethodId} {args : Array Value} {below : List Frame} {meth : Method} {c : Code} {G : GG} {ρ : Nat → Nat} {h0 hE hB : PH} {Q : State → Prop} {x0 : Nat} {x1 : Int64} {x3 : Int32} (C : Cx G "PairSymbolsModel" cX10_laysPolynomial 5 none "laysPolynomial" p s m args meth c) {x4 : Int32} {h : PH} {H : Heap} {locs : List Loc} {cells slots : Nat} {ls : Array Slot} {r : (Int32) ⊕ (Unit)} (hf : (fX10_laysPolynomial_b120 x0 x1 x3 x4).1 h = some (r, hB)) (hX : Ext hB hE) (hW : Wd G ρ h0.length (sl h0) s.heap h H locs cells slots) (hl : lv_has ls 5 [(0, .ref (ρ x0)), (1, .long x1), (3, .int x3), (4, .int x4)]) (kc : ∀ y : Int32, r = .inl y → ∀ (H : Heap) (locs : List Loc) (c1 s1 : Nat) (ls : Array Slot), Wd G ρ h0.length (sl h0) s.heap hB H locs c1 s1 → lv_has ls 5 [(0, .ref (ρ x0)), (1, .long x1), (3, .int x3), (4, .int y)] → W p l e (RM 5 142 h0 hE) s m args below meth c H locs c1 s1 Q (F0 m 120 ls [])) (ke : ∀ z : Unit, r = .inr z → ∀ (H : Heap) (locs : List Loc) (c1 s1 : Nat) (ls : Array Slot), Wd G ρ h0.length (sl h0) s.heap hB H locs c1 s1 → lv_has ls 5 [(0, .ref (ρ x0)), (3, .int x3)] → W p l e (RM 5 142 h0 hE) s m args below meth c H locs c1 s1 Q (F0 m 189 ls [])) : W p l e (RM 5 142 h0 hE) s m args below meth c H locs cells slots Q (F0 m 120 ls []) := by
  have hx := C.1
  have hb := C.2.1
  unfold fX10_laysPolynomial_b120 at hf
  refine lv_iload hx hb dX10_laysPolynomial_120 (lv_at hl 3 rfl) ?_
  refine lv_aload_n hx hb dX10_laysPolynomial_122 rfl (lv_at hl 0 rfl) ?_
  obtain ⟨v26, e26, hf⟩ := pb_rd (rd_gI _ _ _) hf
  refine r_gI C hW e26 flX10_293 rfl dX10_laysPolynomial_123 ?_
  refine lv_icmp_ge (tgt := 189) hx hb dX10_laysPolynomial_126 (by decide) (fun c27 => ?_) (fun c27 => ?_)
  · rw [if_pos c27] at hf
    obtain ⟨rfl, rfl⟩ := pp_some hf
    exact ke _ rfl _ _ _ _ _ hW (lv_sub hl [0, 2] rfl)
  · rw [if_neg c27] at hf
    refine lv_aload_n hx hb dX10_laysPolynomial_129 rfl (lv_at hl 0 rfl) ?_
    refine lv_aload_n hx hb dX10_laysPolynomial_130 rfl (lv_at hl 0 rfl) ?_
    obtain ⟨v28, e28, hf⟩ := pb_rd (rd_gA _ _ _) hf
    refine r_gA C hW e28 flX10_93 rfl dX10_laysPolynomial_131 ?_
    refine lv_bipush (v := 17) hx hb dX10_laysPolynomial_134 (by decide) ?_
    refine lv_iload hx hb dX10_laysPolynomial_136 (lv_at hl 3 rfl) ?_
    refine lv_imul hx hb dX10_laysPolynomial_138 ?_
    obtain ⟨v29, e29, hf⟩ := pb_rd (rd_lJ _ _ _) hf
    refine r_lald C hW e29 dX10_laysPolynomial_139 ?_
    refine lv_aload_n hx hb dX10_laysPolynomial_140 rfl (lv_at hl 0 rfl) ?_
    obtain ⟨v30, e30, hf⟩ := pb_rd (rd_gA _ _ _) hf
    refine r_gA C hW e30 flX10_96 rfl dX10_laysPolynomial_141 ?_
    refine lv_bipush (v := 17) hx hb dX10_laysPolynomial_144 (by decide) ?_
    refine lv_iload hx hb dX10_laysPolynomial_146 (lv_at hl 3 rfl) ?_
    refine lv_imul hx hb dX10_laysPolynomial_148 ?_
    obtain ⟨v31, e31, hf⟩ := pb_rd (rd_lJ _ _ _) hf
    refine r_lald C hW e31 dX10_laysPolynomial_149 ?_
    refine lv_lload_n hx hb dX10_laysPolynomial_150 rfl (lv_at hl 1 rfl) ?_
    refine lv_lconst (v := 1) hx hb dX10_laysPolynomial_151 (by decide) ?_
    obtain ⟨_, h32, e32, hf⟩ := pb_some hf
    obtain ⟨_, _, t33⟩ := tgX10_sumOf e32
    refine r_callv hW (pext e32) (run_V (b := x0) (As := [.long v29, .long v31, .long x1, .long (1 : Int64)]) (rest := []) C hW (metX10_sumOf l G ρ e32) ⟨rfl, rfl⟩ kcX10_sumOf (tq q_899 rfl) kiX10_sumOf ksX10_sumOf knX10_sumOf kdX10_sumOf t33 rfl rfl ⟨Nat.le_of_ble_eq_true rfl, Nat.le_of_ble_eq_true rfl⟩ hl.1 (Nat.le_of_ble_eq_true rfl) (room_of hW (pext e32) ((pext hf).tr hX)) dX10_laysPolynomial_152 rfl) (fun H locs c1 s1 hW => ?_)
    refine lv_aload_n hx hb dX10_laysPolynomial_155 rfl (lv_at hl 0 rfl) ?_
    obtain ⟨v34, e34, hf⟩ := pb_rd (rd_gA _ _ _) hf
    refine r_gA C hW e34 flX10_93 rfl dX10_laysPolynomial_156 ?_
    refine lv_bipush (v := 17) hx hb dX10_laysPolynomial_159 (by decide) ?_
    refine lv_iload hx hb dX10_laysPolynomial_161 (lv_at hl 3 rfl) ?_
    refine lv_imul hx hb dX10_laysPolynomial_163 ?_
    refine lv_aload_n hx hb dX10_laysPolynomial_164 rfl (lv_at hl 0 rfl) ?_
    obtain ⟨v35, e35, hf⟩ := pb_rd (rd_gJ _ _ _) hf
    refine r_gJ C hW e35 flX10_133 rfl dX10_laysPolynomial_165 ?_
    obtain ⟨_, h36, e36, hf⟩ := pb_some hf
    refine r_last C hW e36 dX10_laysPolynomial_168 (fun H locs hW => ?_)
    refine lv_aload_n hx hb dX10_laysPolynomial_169 rfl (lv_at hl 0 rfl) ?_
    obtain ⟨v37, e37, hf⟩ := pb_rd (rd_gA _ _ _) hf
    refine r_gA C hW e37 flX10_96 rfl dX10_laysPolynomial_170 ?_
    refine lv_bipush (v := 17) hx hb dX10_laysPolynomial_173 (by decide) ?_
    refine lv_iload hx hb dX10_laysPolynomial_175 (lv_at hl 3 rfl) ?_
    refine lv_imul hx hb dX10_laysPolynomial_177 ?_
    refine lv_aload_n hx hb dX10_laysPolynomial_178 rfl (lv_at hl 0 rfl) ?_
    obtain ⟨v38, e38, hf⟩ := pb_rd (rd_gJ _ _ _) hf
    refine r_gJ C hW e38 flX10_137 rfl dX10_laysPolynomial_179 ?_
    obtain ⟨_, h39, e39, hf⟩ := pb_some hf
    refine r_last C hW e39 dX10_laysPolynomial_182 (fun H locs hW => ?_)
    refine lv_iinc (v := (x4 + 1)) (lv' := [(4, .int (x4 + 1)), (0, .ref (ρ x0)), (1, .long x1), (3, .int x3)]) hx hb dX10_laysPolynomial_183 hl (k := 3) rfl rfl (by decide) rfl (fun ls hl => ?_)
    refine lv_goto (tgt := 120) hx hb dX10_laysPolynomial_186 (by decide) ?_
    obtain ⟨rfl, rfl⟩ := pp_some hf
    exact kc _ rfl _ _ _ _ _ hW (lv_sub hl [1, 2, 3, 0] rfl)
set_option maxHeartbeats 4000000 in
theorem wX10_laysPolynomial_L120 {p : Program} {l : Launch} {e : Env} {s : State} {m : MethodId} {args : Array Value} {below : List Frame} {meth : Method} {c : Code} {G : GG} {ρ : Nat → Nat} {h0 hE hB : PH} {Q : State → Prop} {x0 : Nat} {x1 : Int64} {x3 : Int32} (C : Cx G "PairSymbolsModel" cX10_laysPolynomial 5 none "laysPolynomial" p s m args meth c) {z : (Unit)} (n : Nat) : ∀ (x : Int32) {h : PH} {H : Heap} {locs : List Loc} {cells slots : Nat} {ls : Array Slot}, (plo (fX10_laysPolynomial_B120 x0 x1 x3) n x).1 h = some (z, hB) → Ext hB hE → Wd G ρ h0.length (sl h0) s.heap h H locs cells slots → lv_has ls 5 [(0, .ref (ρ x0)), (1, .long x1), (3, .int x3), (4, .int x)] → (ke : ∀ (H : Heap) (locs : List Loc) (c1 s1 : Nat) (ls : Array Slot), Wd G ρ h0.length (sl h0) s.heap hB H locs c1 s1 → lv_has ls 5 [(0, .ref (ρ x0)), (3, .int x3)] → W p l e (RM 5 142 h0 hE) s m args below meth c H locs c1 s1 Q (F0 m 189 ls [])) → W p l e (RM 5 142 h0 hE) s m args below meth c H locs cells slots Q (F0 m 120 ls []) := by
  induction n with
  | zero =>
    intro x h H locs cells slots ls hf
    rw [plo_0] at hf
    exact (pf_no hf).elim
  | succ n ih =>
    intro x h H locs cells slots ls hf hX hW hl ke
    rw [plo_s] at hf
    obtain ⟨r, h1, e1, hf⟩ := pb_some hf
    unfold fX10_laysPolynomial_B120 at e1
    rw [frI_eq] at e1
    refine wX10_laysPolynomial_B120 C e1 ((pext hf).tr hX) hW hl (fun y hr H locs c1 s1 ls hW hl => ?_) (fun y hr H locs c1 s1 ls hW hl => ?_)
    · subst hr
      exact ih y hf hX hW hl ke
    · subst hr
      obtain ⟨rfl, rfl⟩ := pp_some hf
      exact ke H locs c1 s1 ls hW hl
set_option maxHeartbeats 4000000 in
set_option maxRecDepth 100000 in
theorem wX10_laysPolynomial_B64 {p : Program} {l : Launch} {e : Env} {s : State} {m : MethodId} {args : Array Value} {below : List Frame} {meth : Method} {c : Code} {G : GG} {ρ : Nat → Nat} {h0 hE hB : PH} {Q : State → Prop} {x0 : Nat} (C : Cx G "PairSymbolsModel" cX10_laysPolynomial 5 none "laysPolynomial" p s m args meth c) {x1 : Int64} {x3 : Int32} {h : PH} {H : Heap} {locs : List Loc} {cells slots : Nat} {ls : Array Slot} {r : (Int64 × Int32) ⊕ (Unit)} (hf : (fX10_laysPolynomial_b64 x0 x1 x3).1 h = some (r, hB)) (hX : Ext hB hE) (hW : Wd G ρ h0.length (sl h0) s.heap h H locs cells slots) (hl : lv_has ls 5 [(0, .ref (ρ x0)), (1, .long x1), (3, .int x3)]) (kc : ∀ y : Int64 × Int32, r = .inl y → ∀ (H : Heap) (locs : List Loc) (c1 s1 : Nat) (ls : Array Slot), Wd G ρ h0.length (sl h0) s.heap hB H locs c1 s1 → lv_has ls 5 [(0, .ref (ρ x0)), (1, .long y.1), (3, .int y.2)] → W p l e (RM 5 142 h0 hE) s m args below meth c H locs c1 s1 Q (F0 m 64 ls [])) (ke : ∀ z : Unit, r = .inr z → ∀ (H : Heap) (locs : List Loc) (c1 s1 : Nat) (ls : Array Slot), Wd G ρ h0.length (sl h0) s.heap hB H locs c1 s1 → lv_has ls 5 [] → W p l e (RM 5 142 h0 hE) s m args below meth c H locs c1 s1 Q (F0 m 220 ls [])) : W p l e (RM 5 142 h0 hE) s m args below meth c H locs cells slots Q (F0 m 64 ls []) := by
  have hx := C.1
  have hb := C.2.1
  unfold fX10_laysPolynomial_b64 at hf
  refine lv_iload_n hx hb dX10_laysPolynomial_64 rfl (lv_at hl 2 rfl) ?_
  refine lv_aload_n hx hb dX10_laysPolynomial_65 rfl (lv_at hl 0 rfl) ?_
  obtain ⟨v14, e14, hf⟩ := pb_rd (rd_gI _ _ _) hf
  refine r_gI C hW e14 flX10_293 rfl dX10_laysPolynomial_66 ?_
  refine lv_icmp_gt (tgt := 220) hx hb dX10_laysPolynomial_69 (by decide) (fun c15 => ?_) (fun c15 => ?_)
  · rw [if_pos c15] at hf
    obtain ⟨rfl, rfl⟩ := pp_some hf
    exact ke _ rfl _ _ _ _ _ hW (lv_sub hl [] rfl)
  · rw [if_neg c15] at hf
    refine lv_iconst (v := 0) hx hb dX10_laysPolynomial_72 (by decide) ?_
    refine lv_istore (lv' := [(4, .int (0 : Int32)), (0, .ref (ρ x0)), (1, .long x1), (3, .int x3)]) hx hb dX10_laysPolynomial_73 hl (by decide) rfl (fun ls hl => ?_)
    obtain ⟨z25, h25, e25, hf⟩ := pb_some hf
    refine wX10_laysPolynomial_L75 C fu _ e25 ((pext hf).tr hX) hW (lv_sub hl [1, 2, 3, 0] rfl) (fun H locs c1 s1 ls hW hl => ?_)
    refine lv_iconst (v := 0) hx hb dX10_laysPolynomial_117 (by decide) ?_
    refine lv_istore (lv' := [(4, .int (0 : Int32)), (0, .ref (ρ x0)), (1, .long x1), (3, .int x3)]) hx hb dX10_laysPolynomial_118 hl (by decide) rfl (fun ls hl => ?_)
    obtain ⟨z40, h40, e40, hf⟩ := pb_some hf
    refine wX10_laysPolynomial_L120 C fu _ e40 ((pext hf).tr hX) hW (lv_sub hl [1, 2, 3, 0] rfl) (fun H locs c1 s1 ls hW hl => ?_)
    refine lv_aload_n hx hb dX10_laysPolynomial_189 rfl (lv_at hl 0 rfl) ?_
    obtain ⟨_, h41, e41, hf⟩ := pb_some hf
    obtain ⟨_, _, t42⟩ := tgX10_multiplies e41
    refine r_callv hW (pext e41) (run_V (b := x0) (As := []) (rest := []) C hW (metX10_multiplies l G ρ e41) ⟨rfl, rfl⟩ kcX10_multiplies (tq q_1047 rfl) kiX10_multiplies ksX10_multiplies knX10_multiplies kdX10_multiplies t42 rfl rfl ⟨Nat.le_of_ble_eq_true rfl, Nat.le_of_ble_eq_true rfl⟩ hl.1 (Nat.le_of_ble_eq_true rfl) (room_of hW (pext e41) ((pext hf).tr hX)) dX10_laysPolynomial_190 rfl) (fun H locs c1 s1 hW => ?_)
    refine lv_aload_n hx hb dX10_laysPolynomial_193 rfl (lv_at hl 0 rfl) ?_
    obtain ⟨v43, h43, e43, hf⟩ := pb_some hf
    obtain ⟨_, _, t44⟩ := tgX10_diagonal e43
    refine r_calll hW (pext e43) (run_V (b := x0) (As := []) (rest := []) C hW (metX10_diagonal l G ρ e43) ⟨rfl, rfl⟩ kcX10_diagonal (tq q_1029 rfl) kiX10_diagonal ksX10_diagonal knX10_diagonal kdX10_diagonal t44 rfl rfl ⟨Nat.le_of_ble_eq_true rfl, Nat.le_of_ble_eq_true rfl⟩ hl.1 (Nat.le_of_ble_eq_true rfl) (room_of hW (pext e43) ((pext hf).tr hX)) dX10_laysPolynomial_194 rfl) (fun H locs c1 s1 hW => ?_)
    refine lv_lneg hx hb dX10_laysPolynomial_197 ?_
    refine lv_iload_n hx hb dX10_laysPolynomial_198 rfl (lv_at hl 1 rfl) ?_
    refine lv_i2l (v := x3.toInt64) hx hb dX10_laysPolynomial_199 rfl ?_
    by_cases c45 : x3.toInt64 = 0
    · rw [if_pos c45] at hf
      exact (pf_no hf).elim
    rw [if_neg c45] at hf
    refine lv_ldiv hx hb dX10_laysPolynomial_200 c45 ?_
    refine lv_lstore_n (lv' := [(1, .long ((-v43) / x3.toInt64)), (0, .ref (ρ x0)), (3, .int x3)]) hx hb dX10_laysPolynomial_201 rfl hl (by decide) rfl (fun ls hl => ?_)
    refine lv_aload_n hx hb dX10_laysPolynomial_202 rfl (lv_at hl 1 rfl) ?_
    obtain ⟨v46, e46, hf⟩ := pb_rd (rd_gA _ _ _) hf
    refine r_gA C hW e46 flX10_105 rfl dX10_laysPolynomial_203 ?_
    refine lv_aload_n hx hb dX10_laysPolynomial_206 rfl (lv_at hl 1 rfl) ?_
    obtain ⟨v47, e47, hf⟩ := pb_rd (rd_gI _ _ _) hf
    refine r_gI C hW e47 flX10_293 rfl dX10_laysPolynomial_207 ?_
    refine lv_iload_n hx hb dX10_laysPolynomial_210 rfl (lv_at hl 2 rfl) ?_
    refine lv_isub hx hb dX10_laysPolynomial_211 ?_
    refine lv_lload_n hx hb dX10_laysPolynomial_212 rfl (lv_at hl 0 rfl) ?_
    obtain ⟨_, h48, e48, hf⟩ := pb_some hf
    refine r_last C hW e48 dX10_laysPolynomial_213 (fun H locs hW => ?_)
    refine lv_iinc (v := (x3 + 1)) (lv' := [(3, .int (x3 + 1)), (1, .long ((-v43) / x3.toInt64)), (0, .ref (ρ x0))]) hx hb dX10_laysPolynomial_214 hl (k := 2) rfl rfl (by decide) rfl (fun ls hl => ?_)
    refine lv_goto (tgt := 64) hx hb dX10_laysPolynomial_217 (by decide) ?_
    obtain ⟨rfl, rfl⟩ := pp_some hf
    exact kc _ rfl _ _ _ _ _ hW (lv_sub hl [2, 1, 0] rfl)
set_option maxHeartbeats 4000000 in
theorem wX10_laysPolynomial_L64 {p : Program} {l : Launch} {e : Env} {s : State} {m : MethodId} {args : Array Value} {below : List Frame} {meth : Method} {c : Code} {G : GG} {ρ : Nat → Nat} {h0 hE hB : PH} {Q : State → Prop} {x0 : Nat} (C : Cx G "PairSymbolsModel" cX10_laysPolynomial 5 none "laysPolynomial" p s m args meth c) {z : (Unit)} (n : Nat) : ∀ (x : Int64 × Int32) {h : PH} {H : Heap} {locs : List Loc} {cells slots : Nat} {ls : Array Slot}, (plo (fX10_laysPolynomial_B64 x0) n x).1 h = some (z, hB) → Ext hB hE → Wd G ρ h0.length (sl h0) s.heap h H locs cells slots → lv_has ls 5 [(0, .ref (ρ x0)), (1, .long x.1), (3, .int x.2)] → (ke : ∀ (H : Heap) (locs : List Loc) (c1 s1 : Nat) (ls : Array Slot), Wd G ρ h0.length (sl h0) s.heap hB H locs c1 s1 → lv_has ls 5 [] → W p l e (RM 5 142 h0 hE) s m args below meth c H locs c1 s1 Q (F0 m 220 ls [])) → W p l e (RM 5 142 h0 hE) s m args below meth c H locs cells slots Q (F0 m 64 ls []) := by
  induction n with
  | zero =>
    intro x h H locs cells slots ls hf
    rw [plo_0] at hf
    exact (pf_no hf).elim
  | succ n ih =>
    intro x h H locs cells slots ls hf hX hW hl ke
    rw [plo_s] at hf
    obtain ⟨r, h1, e1, hf⟩ := pb_some hf
    unfold fX10_laysPolynomial_B64 at e1
    rw [frJ_eq, frI_eq] at e1
    refine wX10_laysPolynomial_B64 C e1 ((pext hf).tr hX) hW hl (fun y hr H locs c1 s1 ls hW hl => ?_) (fun y hr H locs c1 s1 ls hW hl => ?_)
    · subst hr
      exact ih y hf hX hW hl ke
    · subst hr
      obtain ⟨rfl, rfl⟩ := pp_some hf
      exact ke H locs c1 s1 ls hW hl
set_option maxHeartbeats 4000000 in
set_option maxRecDepth 100000 in
theorem metX10_laysPolynomial (l : Launch) (G : GG) (ρ : Nat → Nat) {z : Nat} {x0 : Nat} {h hE : PH} {v : Unit} (hf : (fX10_laysPolynomial x0).1 h = some (v, hE)) : Met l yX10_laysPolynomial (wsY yX10_laysPolynomial cX10_laysPolynomial 5 none) (RM 5 142 h hE) (va_Pc [.ref (ρ x0)] (PcB G ρ h z)) (QV G ρ hE h.length z) (DC h hE) (DS h hE) (Af ρ h.length z) := by
  refine met_start (by decide) (Nat.le_of_ble_eq_true rfl) ?_
  intro p e s m below meth c ls hz C hW hl
  subst hz
  have C : Cx G "PairSymbolsModel" cX10_laysPolynomial 5 none "laysPolynomial" p s m _ meth c := C
  have hx := C.1
  have hb := C.2.1
  have hX : Ext hE hE := Ext.rf hE
  have hl : lv_has ls 5 [(0, .ref (ρ x0))] := hl
  have hW : Wd G ρ h.length (sl h) s.heap h s.heap [] 0 0 := hW
  unfold fX10_laysPolynomial at hf
  obtain ⟨_, e0, hf⟩ := pb_rd (rd_chk _ _) hf
  refine lv_lconst (v := 1) hx hb dX10_laysPolynomial_0 (by decide) ?_
  refine lv_lstore_n (lv' := [(1, .long (1 : Int64)), (0, .ref (ρ x0))]) hx hb dX10_laysPolynomial_1 rfl hl (by decide) rfl (fun ls hl => ?_)
  refine lv_iconst (v := 0) hx hb dX10_laysPolynomial_2 (by decide) ?_
  refine lv_istore_n (lv' := [(3, .int (0 : Int32)), (1, .long (1 : Int64)), (0, .ref (ρ x0))]) hx hb dX10_laysPolynomial_3 rfl hl (by decide) rfl (fun ls hl => ?_)
  obtain ⟨z4, h4, e4, hf⟩ := pb_some hf
  refine wX10_laysPolynomial_L4 C fu _ e4 ((pext hf).tr hX) hW (lv_sub hl [2, 1, 0] rfl) (fun H locs c1 s1 ls hW hl => ?_)
  refine lv_aload_n hx hb dX10_laysPolynomial_23 rfl (lv_at hl 0 rfl) ?_
  obtain ⟨v5, e5, hf⟩ := pb_rd (rd_gA _ _ _) hf
  refine r_gA C hW e5 flX10_105 rfl dX10_laysPolynomial_24 ?_
  refine lv_aload_n hx hb dX10_laysPolynomial_27 rfl (lv_at hl 0 rfl) ?_
  obtain ⟨v6, e6, hf⟩ := pb_rd (rd_gI _ _ _) hf
  refine r_gI C hW e6 flX10_293 rfl dX10_laysPolynomial_28 ?_
  refine lv_lconst (v := 1) hx hb dX10_laysPolynomial_31 (by decide) ?_
  obtain ⟨_, h7, e7, hf⟩ := pb_some hf
  refine r_last C hW e7 dX10_laysPolynomial_32 (fun H locs hW => ?_)
  refine lv_iconst (v := 0) hx hb dX10_laysPolynomial_33 (by decide) ?_
  refine lv_istore_n (lv' := [(3, .int (0 : Int32)), (0, .ref (ρ x0)), (1, .long (1 : Int64))]) hx hb dX10_laysPolynomial_34 rfl hl (by decide) rfl (fun ls hl => ?_)
  obtain ⟨z13, h13, e13, hf⟩ := pb_some hf
  refine wX10_laysPolynomial_L35 C fu _ e13 ((pext hf).tr hX) hW (lv_sub hl [1, 2, 0] rfl) (fun H locs c1 s1 ls hW hl => ?_)
  refine lv_iconst (v := 1) hx hb dX10_laysPolynomial_62 (by decide) ?_
  refine lv_istore_n (lv' := [(3, .int (1 : Int32)), (0, .ref (ρ x0)), (1, .long (1 : Int64))]) hx hb dX10_laysPolynomial_63 rfl hl (by decide) rfl (fun ls hl => ?_)
  obtain ⟨z49, h49, e49, hf⟩ := pb_some hf
  refine wX10_laysPolynomial_L64 C fu _ e49 ((pext hf).tr hX) hW (lv_sub hl [1, 2, 0] rfl) (fun H locs c1 s1 ls hW hl => ?_)
  obtain ⟨rfl, rfl⟩ := pp_some hf
  exact r_vret C hW dX10_laysPolynomial_220
